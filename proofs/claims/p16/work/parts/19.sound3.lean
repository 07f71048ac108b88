section
variable {N : Nat} {K A B : Nat → Nat → Int32} {st ar : Nat → Int32} {sz : Nat → Nat} {tb : Nat → ty_T}
theorem sd_gd {p : ab_O} {b : Bool} (h : b = true) : ab_gd b p = p := if_pos h
theorem sd_call (hN : N ≤ 8) (hp : sp_ok N K A B st ar sz) (ht : ∀ q, ty_ok (tb q)) (hfix : ∀ q, q < 24 → sp_step N K A B st ar sz tb q = tb q) {dr fr g i m k d : Nat} {x y : Int32} {e : ab_E} (ih : sd_S N K A B st ar sz tb dr)
    (hg : g < N) (hs : st g = 2) (hi : i < sz g) (hk : k ≤ 2) (ek : ar g = nI k) (hb : ab_bd N k (sz g) (K g) (A g) (B g) (sp_c K B g)) (h9 : K g i = 9) (hr : (rn_ev K A B st ar sz (dr + 1) fr g i x y m).1 = -1)
    (hd : i < d + 1) (he : ab_eo k e) (hx : sd_env (nI k) x y e) :
    ∃ o, ab_ev (K g) (A g) (B g) st ar (sp_c K B g) tb (d + 1) i e = some o ∧ sd_in (rn_ev K A B st ar sz (dr + 1) fr g i x y m).2.1 o.1 ∧ sd_env (nI k) x y o.2 := by
  rw [ab_ev_call h9]
  unfold ab_call
  rcases ab_B hb hi with b | b | b
  · rw [rn_ev_c0 h9 b] at hr ⊢
    obtain ⟨hf, _, _, v⟩ := sd_callee hN hp ht hfix ih hb hi h9 hr (fun z => absurd z (by rw [b]; decide)) (fun z => absurd z (by rw [b]; decide))
    rw [if_pos b]
    unfold ab_cl0
    rw [sd_gd hf]
    exact sd_fo hk he hx v
  · have c1 := ab_cB1 hb h9 b
    have p0 : bs_ch (sp_c K B g) i 0 < sz g := ab_ch hb hi (by omega)
    have l0 : bs_ch (sp_c K B g) i 0 < i := bs_ch_lt hb.2.2 hi (by omega)
    rw [rn_ev_c1 h9 b] at hr ⊢
    obtain ⟨r0, e0⟩ := sd_bd hr
    rw [e0] at hr ⊢
    obtain ⟨o, ho, vo, xo⟩ := ih fr g _ m k x y hg hs p0 hk ek r0 d e (by omega) he hx
    obtain ⟨o1, _, o3, _⟩ := ab_ev_po hb ht _ _ _ p0 he o ho
    obtain ⟨hf, v0, _, v⟩ := sd_callee hN hp ht hfix ih hb hi h9 hr (fun _ => sd_ok vo) (fun z => absurd z (by rw [b]; decide))
    have v0 := v0 (by rw [b]; decide)
    rw [if_neg (by rw [b]; decide), if_pos b, ho]
    show ∃ u, ab_cl1 (K g) (A g) (B g) st ar (sp_c K B g) tb i o.1 o.2 = some u ∧ _
    unfold ab_cl1 ab_arg
    rw [sd_gd hf, if_neg (sd_ne (sd_meet o1 (ht _) vo v0))]
    exact sd_fo hk (ab_nv_eo (ab_var hb p0) (ht _) o3) (sd_nv (ht _) o3 xo fun z => by rw [← sd_var z r0]; exact v0) v
  · obtain ⟨c2, _⟩ := ab_cB2 hb hi h9 (by rw [b]; decide) (by rw [b]; decide)
    have p0 : bs_ch (sp_c K B g) i 0 < sz g := ab_ch hb hi (by omega)
    have l0 : bs_ch (sp_c K B g) i 0 < i := bs_ch_lt hb.2.2 hi (by omega)
    have p1 : bs_ch (sp_c K B g) i 1 < sz g := ab_ch hb hi (by omega)
    have l1 : bs_ch (sp_c K B g) i 1 < i := bs_ch_lt hb.2.2 hi (by omega)
    rw [rn_ev_c2 h9 b] at hr ⊢
    obtain ⟨r0, e0⟩ := sd_bd hr
    rw [e0] at hr ⊢
    obtain ⟨r1, e1⟩ := sd_bd hr
    rw [e1] at hr ⊢
    obtain ⟨o, ho, vo, xo⟩ := ih fr g _ m k x y hg hs p0 hk ek r0 d e (by omega) he hx
    obtain ⟨o1, _, o3, _⟩ := ab_ev_po hb ht _ _ _ p0 he o ho
    obtain ⟨u, hu, vu, xu⟩ := ih fr g _ _ k x y hg hs p1 hk ek r1 d o.2 (by omega) o3 xo
    obtain ⟨u1, _, u3, _⟩ := ab_ev_po hb ht _ _ _ p1 o3 u hu
    obtain ⟨hf, v0, v1, v⟩ := sd_callee hN hp ht hfix ih hb hi h9 hr (fun _ => sd_ok vo) (fun _ => sd_ok vu)
    have v0 := v0 (by rw [b]; decide)
    have v1 := v1 (by rw [b]; decide)
    rw [if_neg (by rw [b]; decide), if_neg (by rw [b]; decide), ho]
    show ∃ u, ((ab_ev (K g) (A g) (B g) st ar (sp_c K B g) tb d (bs_ch (sp_c K B g) i 1) o.2).bind fun y => ab_cl2 (K g) (A g) (B g) st ar (sp_c K B g) tb i o.1 y.1 y.2) = some u ∧ _
    rw [hu]
    show ∃ w, ab_cl2 (K g) (A g) (B g) st ar (sp_c K B g) tb i o.1 u.1 u.2 = some w ∧ _
    unfold ab_cl2 ab_arg
    rw [sd_gd hf, if_neg (sd_ne (sd_meet o1 (ht _) vo v0))]
    dsimp only
    rw [if_neg (sd_ne (sd_meet u1 (ht _) vu v1))]
    have n0 := ab_nv_eo (K := K g) (A := A g) (ab_var hb p0) (ht ((A g i).toNatClampNeg * 3)) u3
    have s0 := sd_nv (K := K g) (A := A g) (p := bs_ch (sp_c K B g) i 0) (ht ((A g i).toNatClampNeg * 3)) u3 xu fun z => by rw [← sd_var z r0]; exact v0
    exact sd_fo hk (ab_nv_eo (ab_var hb p1) (ht _) n0) (sd_nv (ht _) n0 s0 fun z => by rw [← sd_var z r1]; exact v1) v
theorem sd_if (ht : ∀ q, ty_ok (tb q)) {dr fr g i m k d : Nat} {x y : Int32} {e : ab_E} (ih : sd_S N K A B st ar sz tb dr)
    (hg : g < N) (hs : st g = 2) (hi : i < sz g) (hk : k ≤ 2) (ek : ar g = nI k) (hb : ab_bd N k (sz g) (K g) (A g) (B g) (sp_c K B g)) (h8 : K g i = 8) (hr : (rn_ev K A B st ar sz (dr + 1) fr g i x y m).1 = -1)
    (hd : i < d + 1) (he : ab_eo k e) (hx : sd_env (nI k) x y e) :
    ∃ o, ab_ev (K g) (A g) (B g) st ar (sp_c K B g) tb (d + 1) i e = some o ∧ sd_in (rn_ev K A B st ar sz (dr + 1) fr g i x y m).2.1 o.1 ∧ sd_env (nI k) x y o.2 := by
  have c3 := ab_c8 hb h8
  have p0 : bs_ch (sp_c K B g) i 0 < sz g := ab_ch hb hi (by omega)
  have l0 : bs_ch (sp_c K B g) i 0 < i := bs_ch_lt hb.2.2 hi (by omega)
  have p1 : bs_ch (sp_c K B g) i 1 < sz g := ab_ch hb hi (by omega)
  have l1 : bs_ch (sp_c K B g) i 1 < i := bs_ch_lt hb.2.2 hi (by omega)
  have p2 : bs_ch (sp_c K B g) i 2 < sz g := ab_ch hb hi (by omega)
  have l2 : bs_ch (sp_c K B g) i 2 < i := bs_ch_lt hb.2.2 hi (by omega)
  rw [ab_ev_if h8]
  rw [rn_ev_if h8] at hr ⊢
  obtain ⟨r0, e0⟩ := sd_bd hr
  rw [e0] at hr ⊢
  obtain ⟨o, ho, vo, xo⟩ := ih fr g _ m k x y hg hs p0 hk ek r0 d e (by omega) he hx
  obtain ⟨o1, _, o3, _⟩ := ab_ev_po hb ht _ _ _ p0 he o ho
  unfold ab_if
  rw [ho]
  show ∃ u, ab_jn (ab_gd (o.1.1.testBit 1) (ab_ev (K g) (A g) (B g) st ar (sp_c K B g) tb d (bs_ch (sp_c K B g) i 1) (ab_th (K g) (A g) (sp_c K B g) i ty_ints o.2)))
    (ab_gd (o.1.1.testBit 0) (ab_ev (K g) (A g) (B g) st ar (sp_c K B g) tb d (bs_ch (sp_c K B g) i 2) (ab_th (K g) (A g) (sp_c K B g) i ty_ats o.2))) = some u ∧ _
  have t1 : ab_eo k (ab_th (K g) (A g) (sp_c K B g) i ty_ints o.2) := ab_th_eo hb hi h8 ty_ints_ok o3
  have t2 : ab_eo k (ab_th (K g) (A g) (sp_c K B g) i ty_ats o.2) := ab_th_eo hb hi h8 ty_ats_ok o3
  have q1 := ab_ev_po (st := st) (ar := ar) hb ht d _ _ p1 t1
  have q2 := ab_ev_po (st := st) (ar := ar) hb ht d _ _ p2 t2
  by_cases c1 : (rn_ev K A B st ar sz dr fr g (bs_ch (sp_c K B g) i 0) x y m).2.1 = 1001
  · rw [if_pos c1] at hr ⊢
    rw [c1] at vo
    rw [sd_gd (sd_bt vo)]
    obtain ⟨u, hu, vu, xu⟩ := ih fr g _ _ k x y hg hs p1 hk ek hr d _ (by omega) t1 (sd_th hb hk hi h8 ty_ints_ok o3 xo r0 (Or.inl ⟨c1, rfl⟩))
    rw [hu]
    exact sd_jl (q1 u hu) (ab_gd_po q2) vu xu
  · rw [if_neg c1] at hr ⊢
    by_cases c0 : (rn_ev K A B st ar sz dr fr g (bs_ch (sp_c K B g) i 0) x y m).2.1 = 1000
    · rw [if_pos c0] at hr ⊢
      rw [c0] at vo
      rw [sd_gd (sd_bf vo)]
      obtain ⟨u, hu, vu, xu⟩ := ih fr g _ _ k x y hg hs p2 hk ek hr d _ (by omega) t2 (sd_th hb hk hi h8 ty_ats_ok o3 xo r0 (Or.inr ⟨c0, rfl⟩))
      rw [hu]
      exact sd_jr (q2 u hu) (ab_gd_po q1) vu xu
    · rw [if_neg c0] at hr
      exact absurd hr (show (1 : Int32) ≠ -1 by decide)
theorem sd_opn (ht : ∀ q, ty_ok (tb q)) {dr fr g i m k d : Nat} {x y : Int32} {e : ab_E} (ih : sd_S N K A B st ar sz tb dr)
    (hg : g < N) (hs : st g = 2) (hi : i < sz g) (hk : k ≤ 2) (ek : ar g = nI k) (hb : ab_bd N k (sz g) (K g) (A g) (B g) (sp_c K B g)) (h3 : K g i = 3 ∨ K g i = 4 ∨ K g i = 5 ∨ K g i = 6) (hr : (rn_ev K A B st ar sz (dr + 1) fr g i x y m).1 = -1)
    (hd : i < d + 1) (he : ab_eo k e) (hx : sd_env (nI k) x y e) :
    ∃ o, ab_ev (K g) (A g) (B g) st ar (sp_c K B g) tb (d + 1) i e = some o ∧ sd_in (rn_ev K A B st ar sz (dr + 1) fr g i x y m).2.1 o.1 ∧ sd_env (nI k) x y o.2 := by
  have c2 : sp_c K B g i = 2 := by
    show bs_cc (K g i) (B g i) = 2
    rcases h3 with h | h | h | h <;> rw [h]
    · exact bs_cc3 _
    · exact bs_cc4 _
    · exact bs_cc5 _
    · exact bs_cc6 _
  have p0 : bs_ch (sp_c K B g) i 0 < sz g := ab_ch hb hi (by omega)
  have l0 : bs_ch (sp_c K B g) i 0 < i := bs_ch_lt hb.2.2 hi (by omega)
  have p1 : bs_ch (sp_c K B g) i 1 < sz g := ab_ch hb hi (by omega)
  have l1 : bs_ch (sp_c K B g) i 1 < i := bs_ch_lt hb.2.2 hi (by omega)
  rw [ab_ev_op h3]
  rw [rn_ev_op h3] at hr ⊢
  obtain ⟨r0, e0⟩ := sd_bd hr
  rw [e0] at hr ⊢
  obtain ⟨r1, e1⟩ := sd_bd hr
  rw [e1] at hr ⊢
  obtain ⟨o, ho, vo, xo⟩ := ih fr g _ m k x y hg hs p0 hk ek r0 d e (by omega) he hx
  obtain ⟨o1, _, o3, _⟩ := ab_ev_po hb ht _ _ _ p0 he o ho
  obtain ⟨u, hu, vu, xu⟩ := ih fr g _ _ k x y hg hs p1 hk ek r1 d o.2 (by omega) o3 xo
  obtain ⟨u1, _, u3, _⟩ := ab_ev_po hb ht _ _ _ p1 o3 u hu
  unfold ab_op
  rw [ho]
  show ∃ u, ((ab_ev (K g) (A g) (B g) st ar (sp_c K B g) tb d (bs_ch (sp_c K B g) i 1) o.2).bind fun y => ab_opf (K g) (A g) (sp_c K B g) i o.1 y.1 y.2) = some u ∧ _
  rw [hu]
  show ∃ w, ab_opf (K g) (A g) (sp_c K B g) i o.1 u.1 u.2 = some w ∧ _
  unfold ab_opf
  by_cases k6 : K g i = 6
  · rw [if_pos k6]
    rcases sd_op_some hr with ⟨_, e⟩ | ⟨z, _⟩
    · rw [e]
      exact sd_fo hk u3 xu (sd_eq o1 u1 vo vu)
    · exact absurd k6 z
  · rw [if_neg k6]
    have h345 : K g i = 3 ∨ K g i = 4 ∨ K g i = 5 := by
      rcases h3 with h | h | h | h
      · exact Or.inl h
      · exact Or.inr (Or.inl h)
      · exact Or.inr (Or.inr h)
      · exact absurd h k6
    obtain ⟨x0, y0, vi, wi, res⟩ := sd_num k6 h345 vo vu hr
    rw [if_neg (fun z => z.elim x0 y0)]
    have n0 := ab_nv_eo (K := K g) (A := A g) (ab_var hb p0) ty_ints_ok u3
    have s0 := sd_nv (K := K g) (A := A g) (p := bs_ch (sp_c K B g) i 0) ty_ints_ok u3 xu fun z => by rw [← sd_var z r0]; exact vi
    exact sd_fo hk (ab_nv_eo (ab_var hb p1) ty_ints_ok n0) (sd_nv ty_ints_ok n0 s0 fun z => by rw [← sd_var z r1]; exact wi) res
theorem sd_main (hN : N ≤ 8) (hp : sp_ok N K A B st ar sz) (ht : ∀ q, ty_ok (tb q)) (hfix : ∀ q, q < 24 → sp_step N K A B st ar sz tb q = tb q) : ∀ dr, sd_S N K A B st ar sz tb dr := by
  intro dr
  induction dr with
  | zero => intro fr g i m k x y _ _ _ _ _ hr; exact absurd hr (show (1 : Int32) ≠ -1 by decide)
  | succ dr ih =>
    intro fr g i m k x y hg hs hi hk ek hr d e hd he hx
    obtain ⟨k0, hk0, ek0, hz0, hz, hb⟩ := hp g hg hs
    have kk : k0 = k := (nI_eq (by omega) (by omega)).mp (by rw [← ek0, ek])
    subst kk
    obtain ⟨d, rfl⟩ : ∃ d', d = d' + 1 := ⟨d - 1, by omega⟩
    rcases bd_10 (hb.1 i hi) with h | h | h | h | h | h | h | h | h | h
    · rw [ab_ev_lf (Or.inl h), rn_ev_lf (Or.inl h)]
      unfold ab_leaf
      rw [if_pos h]
      have b := (hb.1 i hi).2.1 h
      refine sd_fo hk he hx ?_
      show sd_in (if K g i = 0 then A g i else _) _
      rw [if_pos h]
      exact sd_range b.1 b.2 (Int.le_refl _) (Int.le_refl _)
    · have n0 : ¬ K g i = 0 := by rw [h]; decide
      rw [ab_ev_lf (Or.inr (Or.inl h)), rn_ev_lf (Or.inr (Or.inl h))]
      unfold ab_leaf
      rw [if_neg n0, if_pos h]
      obtain ⟨j, hj, ej⟩ := (hb.1 i hi).2.2.1 h
      refine sd_fo hk he hx ?_
      show sd_in (if K g i = 0 then A g i else if K g i = 1 then 1000 + A g i else _) _
      rw [if_neg n0, if_pos h, ej, nI_clamp (by omega)]
      exact sd_lit hj Nat.testBit_two_pow_self
    · have n0 : ¬ K g i = 0 := by rw [h]; decide
      have n1 : ¬ K g i = 1 := by rw [h]; decide
      rw [ab_ev_lf (Or.inr (Or.inr h)), rn_ev_lf (Or.inr (Or.inr h))]
      unfold ab_leaf
      rw [if_neg n0, if_neg n1]
      refine sd_fo hk he hx ?_
      show sd_in (if K g i = 0 then A g i else if K g i = 1 then 1000 + A g i else if A g i = 0 then x else y) _
      rw [if_neg n0, if_neg n1]
      exact sd_arg hb hi hk h hx
    · exact sd_opn ht ih hg hs hi hk ek hb (Or.inl h) hr hd he hx
    · exact sd_opn ht ih hg hs hi hk ek hb (Or.inr (Or.inl h)) hr hd he hx
    · exact sd_opn ht ih hg hs hi hk ek hb (Or.inr (Or.inr (Or.inl h))) hr hd he hx
    · exact sd_opn ht ih hg hs hi hk ek hb (Or.inr (Or.inr (Or.inr h))) hr hd he hx
    · have c1 := ab_c7 hb h
      have p0 : bs_ch (sp_c K B g) i 0 < sz g := ab_ch hb hi (by omega)
      have l0 : bs_ch (sp_c K B g) i 0 < i := bs_ch_lt hb.2.2 hi (by omega)
      rw [ab_ev_isi h]
      rw [rn_ev_isi h] at hr ⊢
      obtain ⟨r0, e0⟩ := sd_bd hr
      rw [e0]
      obtain ⟨o, ho, vo, xo⟩ := ih fr g _ m _ x y hg hs p0 hk ek r0 d e (by omega) he hx
      obtain ⟨o1, _, o3, _⟩ := ab_ev_po hb ht _ _ _ p0 he o ho
      unfold ab_isi
      rw [ho]
      exact sd_fo hk o3 xo (sd_isi vo)
    · exact sd_if ht ih hg hs hi hk ek hb h hr hd he hx
    · exact sd_call hN hp ht hfix ih hg hs hi hk ek hb h hr hd he hx
end

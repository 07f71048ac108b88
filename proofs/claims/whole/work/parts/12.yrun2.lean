theorem rn_n1 (v : Int32) (m : Nat) : ((1, v, m) : rn_R).1 ≠ -1 := show (1 : Int32) ≠ -1 by decide
theorem rn_n2 (v : Int32) (m : Nat) : ((2, v, m) : rn_R).1 ≠ -1 := show (2 : Int32) ≠ -1 by decide
theorem rn_op_m (k v w : Int32) (m : Nat) : (rn_op k v w m).2.2 = m := by
  unfold rn_op
  repeat (first | rfl | split)
section
variable {N : Nat} {K A B : Nat → Nat → Int32} {st ar : Nat → Int32} {sz : Nat → Nat} {D : Nat → Nat → Nat} {RR : Nat → Nat → Nat → Nat → Nat → (Nat → Nat → Int32) → Prop} {RE : Int32 → Prop}
theorem yr_go (hD : ∀ g, g < N → st g = 2 → ∀ i, i < sz g → ∀ j, j < sp_c K B g i → D g (bs_ch (sp_c K B g) i j) < D g i) {d : Nat} (ih : yr_S N K A B st ar sz RR RE D d)
    {fr g i j s s' m t p q : Nat} {x y : Int32} {Z : Nat → Nat → Int32} (hd : (15 - fr) * 128 + i < d + 1) (hf : fr < 16) (hg : g < N) (hs : st g = 2) (hi : i < sz g) (hw : bs_wf (sp_c K B g) (sz g)) (hj : j < sp_c K B g i)
    (hxy : rn_ag (ar g) x y) (hm : m ≤ 200) (hp : p + D g i ≤ 10 * (fr + 1)) (hq : q + 2 * D g i ≤ 20 * (fr + 1) + 1) (top : yr_top Z p fr g i s) (h5 : Z 5 fr = x) (h6 : Z 6 fr = y)
    (ht : t + 4 * (bs_ch (sp_c K B g) i j + 1 - bs_ss (sp_c K B g) (bs_ch (sp_c K B g) i j)) + 520 * (200 - m) ≤ 500000)
    (hE : (rn_ev K A B st ar sz d fr g (bs_ch (sp_c K B g) i j) x y m).1 ≠ -1 → RE (rn_ev K A B st ar sz d fr g (bs_ch (sp_c K B g) i j) x y m).1)
    (hK : (rn_ev K A B st ar sz d fr g (bs_ch (sp_c K B g) i j) x y m).1 = -1 → ∀ (t' : Nat) (Z' : Nat → Nat → Int32),
      t' + 520 * (200 - (rn_ev K A B st ar sz d fr g (bs_ch (sp_c K B g) i j) x y m).2.2) ≤ t + 4 * (bs_ch (sp_c K B g) i j + 1 - bs_ss (sp_c K B g) (bs_ch (sp_c K B g) i j)) + 520 * (200 - m) →
      yr_ag (yr_w p q (fr + 1)) Z Z' → yr_top Z' p fr g i s' → Z' 3 q = (rn_ev K A B st ar sz d fr g (bs_ch (sp_c K B g) i j) x y m).2.1 → Z' 5 fr = x → Z' 6 fr = y →
      RR t' (p + 1) (q + 1) (rn_ev K A B st ar sz d fr g (bs_ch (sp_c K B g) i j) x y m).2.2 (fr + 1) Z') :
    RR t (p + 2) q m (fr + 1) (yr_push (ya_z Z 1 p (nI s')) (p + 1) (bs_ch (sp_c K B g) i j) fr) := by
  have lt := bs_ch_lt hw hi hj
  have dd := hD g hg hs i hi j hj
  obtain ⟨t0, t1, t2, t4⟩ := top
  refine ih fr g (bs_ch (sp_c K B g) i j) m t (p + 1) q x y _ (by omega) hf hg hs (by omega) hxy hm (by omega) (by omega) ⟨yr_push_0 .., yr_push_1 .., yr_push_2 .., ?_⟩ ?_ ?_ ht hE ?_
  · rw [yr_push_h _ _ _ _ _ _ (by decide), ya_z_n _ _ _ _ (by decide)]; exact t4
  · rw [yr_push_h _ _ _ _ _ _ (by decide), ya_z_n _ _ _ _ (by decide)]; exact h5
  · rw [yr_push_h _ _ _ _ _ _ (by decide), ya_z_n _ _ _ _ (by decide)]; exact h6
  · intro e t' Z' ht' ag v
    have w0 : ∀ a, a < 3 → Z' a p = ya_z Z 1 p (nI s') a p := fun a ha => (ag a p (by unfold yr_w; rw [if_pos ha]; omega)).trans (yr_push_l _ _ _ _ _ (by omega))
    have w4 : ∀ a, 3 < a → Z' a fr = Z a fr := fun a ha => (ag a fr (by unfold yr_w; rw [if_neg (by omega), if_neg (by omega)]; omega)).trans (by
      rw [yr_push_h _ _ _ _ _ _ (by omega), ya_z_n _ _ _ _ (by omega)])
    refine hK e t' Z' ht' ?_ ⟨(w0 0 (by decide)).trans ?_, (w0 1 (by decide)).trans (ya_z_s ..), (w0 2 (by decide)).trans ?_, (w4 4 (by decide)).trans t4⟩ v ((w4 5 (by decide)).trans h5) ((w4 6 (by decide)).trans h6)
    · exact yr_ag_t (yr_ag_p (yr_ag_z (yr_ag_r _ Z) (Nat.le_refl _)) (by omega)) ag (by omega) (Nat.le_refl _) (Nat.le_refl _)
    · rw [ya_z_n _ _ _ _ (by decide)]; exact t0
    · rw [ya_z_n _ _ _ _ (by decide)]; exact t2
theorem yr_in_of (hD1 : ∀ g, g < N → st g = 2 → ∀ i, i < sz g → 1 ≤ D g i ∧ D g i ≤ 10) {fr g i t p q : Nat} (hf : fr < 16) (hg : g < N) (hs : st g = 2) (hi : i < sz g) (hp : p + D g i ≤ 10 * (fr + 1)) (hq : q + 2 * D g i ≤ 20 * (fr + 1) + 1) (ht : t ≤ 500000) :
    yr_in N st sz t p q fr g i := by
  have := hD1 g hg hs i hi
  exact ⟨by omega, by omega, by omega, hf, hg, hs, hi⟩
theorem yr_cl (hN : N ≤ 8) (hp0 : sp_ok N K A B st ar sz) (hD1 : ∀ g, g < N → st g = 2 → ∀ i, i < sz g → 1 ≤ D g i ∧ D g i ≤ 10) (V7 : yr_V7 N K A B st ar sz RR RE) (V8 : yr_V8 N K B st sz RR) {d : Nat} (ih : yr_S N K A B st ar sz RR RE D d)
    {fr g i b m t p q Bd : Nat} {v w : Int32} {Z : Nat → Nat → Int32} (hd : (15 - fr) * 128 + i < d + 1) (hf : fr < 16) (hg : g < N) (hs : st g = 2) (hi : i < sz g) (h9 : K g i = 9) (hb : B g i = nI b) (hb2 : b ≤ 2)
    (hv : rn_ok v) (hww : rn_ok w) (hm : m ≤ 200) (hp : p + D g i ≤ 10 * (fr + 1)) (hq : q + 2 * D g i ≤ 20 * (fr + 1)) (top : yr_top Z p fr g i b) (hBd : Bd ≤ 500000) (ht : t + 2 + 520 * (200 - m) ≤ Bd)
    (a0 : b = 0 → v = 0 ∧ w = 0) (a1 : b = 1 → v = Z 3 q ∧ w = 0) (a2 : b = 2 → v = Z 3 q ∧ w = Z 3 (q + 1))
    (hE : (rn_call A B st ar sz (rn_ev K A B st ar sz d) fr g i v w m).1 ≠ -1 → RE (rn_call A B st ar sz (rn_ev K A B st ar sz d) fr g i v w m).1)
    (hK : (rn_call A B st ar sz (rn_ev K A B st ar sz d) fr g i v w m).1 = -1 → ∀ (t' : Nat) (Z' : Nat → Nat → Int32), t' + 520 * (200 - (rn_call A B st ar sz (rn_ev K A B st ar sz d) fr g i v w m).2.2) ≤ Bd →
      yr_ag (yr_w p q (fr + 1)) Z Z' → Z' 3 q = (rn_call A B st ar sz (rn_ev K A B st ar sz d) fr g i v w m).2.1 → RR t' p (q + 1) (rn_call A B st ar sz (rn_ev K A B st ar sz d) fr g i v w m).2.2 (fr + 1) Z') :
    RR t (p + 1) (q + b) m (fr + 1) Z := by
  have dd := hD1 g hg hs i hi
  obtain ⟨t0, t1, t2, t4⟩ := top
  refine V7 t p q m fr g i b Z v w (yr_in_of hD1 hf hg hs hi hp (by omega) (by omega)) hm ⟨t0, t1, t2, t4⟩ h9 hb hb2 a0 a1 a2 ?_ ?_ ?_
  · intro a ha ea sa aa hm2 hf2
    have ec : rn_call A B st ar sz (rn_ev K A B st ar sz d) fr g i v w m = rn_ev K A B st ar sz d (fr + 1) a (sz a - 1) v w (m + 1) := by
      unfold rn_call
      rw [ea, nI_clamp (by omega), if_pos sa, if_pos aa, if_neg (by omega), if_neg (by omega)]
    rw [ec] at hE hK
    obtain ⟨k, _, _, z0, z1, _⟩ := hp0 a ha sa
    have da := hD1 a ha sa (sz a - 1) (by omega)
    have sl := bs_ss_le (sp_c K B a) (sz a - 1)
    have n0 : ∀ a', 3 < a' → ∀ j, yr_call Z p fr a b (sz a - 1) v w a' j = ya_z (ya_z (ya_z Z 4 (fr + 1) (nI a)) 5 (fr + 1) v) 6 (fr + 1) w a' j := fun a' ha' j => by
      unfold yr_call; rw [yr_push_h _ _ _ _ _ _ (by omega), ya_z_n _ _ _ _ (by omega)]
    have g1 := rn_ev_gd hN hp0 d (fr + 1) a (sz a - 1) v w (m + 1) ha sa (by omega) ⟨fun _ => hv, fun _ => hww⟩ (by omega)
    refine ih (fr + 1) a (sz a - 1) (m + 1) (t + 1) (p + 1) q v w _ (by omega) (by omega) ha sa (by omega) ⟨fun _ => hv, fun _ => hww⟩ (by omega) (by omega) (by omega) ⟨yr_push_0 .., yr_push_1 .., yr_push_2 .., ?_⟩ ?_ ?_ (by omega) hE ?_
    · rw [n0 4 (by decide), ya_z_n _ _ _ _ (by decide), ya_z_n _ _ _ _ (by decide), ya_z_s]
    · rw [n0 5 (by decide), ya_z_n _ _ _ _ (by decide), ya_z_s]
    · rw [n0 6 (by decide), ya_z_s]
    · intro e t' Z' ht' ag vv
      have w0 : ∀ a', a' < 3 → Z' a' p = ya_z Z 1 p (nI (b + 1)) a' p := fun a' ha' => (ag a' p (by unfold yr_w; rw [if_pos ha']; omega)).trans (by
        unfold yr_call
        rw [yr_push_l _ _ _ _ _ (by omega)]
        by_cases z : a' = 1
        · subst z; rw [ya_z_s, ya_z_s]
        · rw [ya_z_n _ _ _ _ z, ya_z_n _ _ _ _ z, ya_z_n _ _ _ _ (by omega), ya_z_n _ _ _ _ (by omega), ya_z_n _ _ _ _ (by omega)])
      have w4 : Z' 4 fr = Z 4 fr := (ag 4 fr (by unfold yr_w; rw [if_neg (by omega), if_neg (by omega)]; omega)).trans (by
        rw [n0 4 (by decide), yr_z_l _ _ _ _ (by omega), yr_z_l _ _ _ _ (by omega), yr_z_l _ _ _ _ (by omega)])
      have g4 := g1.2.2.2
      have g3 := g1.2.2.1
      refine V8 t' p (q + 1) _ (fr + 1) fr g i b Z' ⟨by omega, by omega, by omega, hf, hg, hs, hi⟩ ⟨(w0 0 (by decide)).trans ?_, (w0 1 (by decide)).trans (ya_z_s ..), (w0 2 (by decide)).trans ?_, w4.trans t4⟩ h9 hb hb2 (by omega) ?_
      · rw [ya_z_n _ _ _ _ (by decide)]; exact t0
      · rw [ya_z_n _ _ _ _ (by decide)]; exact t2
      · refine hK e (t' + 1) Z' (by omega) ?_ vv
        refine yr_ag_t (p' := p + 1) (q' := q) (f' := fr + 1 + 1) ?_ ag (by omega) (Nat.le_refl _) (by omega)
        unfold yr_call
        exact yr_ag_p (yr_ag_z (yr_ag_z (yr_ag_z (yr_ag_z (yr_ag_r _ Z) (Nat.le_refl _)) (Nat.le_refl _)) (Nat.le_refl _)) (Nat.le_refl _)) (by omega)
  · intro sa aa lim
    have ec : rn_call A B st ar sz (rn_ev K A B st ar sz d) fr g i v w m = (2, 0, m) := by
      unfold rn_call
      rw [if_pos sa, if_pos aa]
      by_cases z : 200 ≤ m
      · rw [if_pos z]
      · rw [if_neg z, if_pos (by omega)]
    rw [ec] at hE
    exact hE (rn_n2 _ _)
  · intro no
    have ec : rn_call A B st ar sz (rn_ev K A B st ar sz d) fr g i v w m = (1, 0, m) := by
      unfold rn_call
      by_cases sa : st (A g i).toNatClampNeg = 2
      · rw [if_pos sa, if_neg (fun z => no ⟨sa, z⟩)]
      · rw [if_neg sa]
    rw [ec] at hE
    exact hE (rn_n1 _ _)
theorem yr_sim (hN : N ≤ 8) (hp0 : sp_ok N K A B st ar sz) (hD : ∀ g, g < N → st g = 2 → ∀ i, i < sz g → ∀ j, j < sp_c K B g i → D g (bs_ch (sp_c K B g) i j) < D g i) (hD1 : ∀ g, g < N → st g = 2 → ∀ i, i < sz g → 1 ≤ D g i ∧ D g i ≤ 10)
    (V1 : yr_V1 N K A st sz RR) (V2 : yr_V2 N K B st sz RR) (V3 : yr_V3 N K B st sz RR RE) (V4 : yr_V4 N K st sz RR) (V5 : yr_V5 N K st sz RR) (V6 : yr_V6 N K st sz RR RE) (V7 : yr_V7 N K A B st ar sz RR RE) (V8 : yr_V8 N K B st sz RR) :
    ∀ d, yr_S N K A B st ar sz RR RE D d := by
  intro d
  induction d with
  | zero => intro fr g i m t p q x y Z hd; exact absurd hd (Nat.not_lt_zero _)
  | succ d ih =>
    intro fr g i m t p q x y Z hd hf hg hs hi hxy hm hp hq top h5 h6 ht hE hK
    obtain ⟨k, hk, ek, hz0, hz, hb⟩ := hp0 g hg hs
    have dd := hD1 g hg hs i hi
    have sl := bs_ss_le (sp_c K B g) i
    have inn : ∀ t' q', t' ≤ 500000 → q' ≤ q + 1 → yr_in N st sz t' p q' fr g i := fun t' q' a b => yr_in_of hD1 hf hg hs hi hp (by omega) a
    have gd : ∀ j m1, j < sp_c K B g i → m1 ≤ 200 → rn_gd m1 (rn_ev K A B st ar sz d fr g (bs_ch (sp_c K B g) i j) x y m1) :=
      fun j m1 hj h1 => rn_ev_gd hN hp0 d fr g _ x y m1 hg hs (ab_ch hb hi hj) hxy h1
    have c0 : 0 < sp_c K B g i → bs_ss (sp_c K B g) (bs_ch (sp_c K B g) i 0) = bs_ss (sp_c K B g) i := fun h => bs_ch_0 hb.2.2 hi h
    have lt : ∀ j, j < sp_c K B g i → bs_ch (sp_c K B g) i j < i := fun j hj => bs_ch_lt hb.2.2 hi hj
    have sle : ∀ j, bs_ss (sp_c K B g) j ≤ j := bs_ss_le _
    have leaf : (K g i = 0 ∨ K g i = 1 ∨ K g i = 2) → RR t (p + 1) q m (fr + 1) Z := by
      intro h
      rw [rn_ev_lf h] at hK
      refine V1 t p q m (fr + 1) fr g i 0 Z (inn _ _ (by omega) (by omega)) top h (hK rfl (t + 1) _ (by dsimp only; omega) (yr_ag_z (yr_ag_r _ Z) (Nat.le_refl _)) ?_)
      rw [ya_z_s, h5, h6]
    have op : (K g i = 3 ∨ K g i = 4 ∨ K g i = 5 ∨ K g i = 6) → sp_c K B g i = 2 → RR t (p + 1) q m (fr + 1) Z := by
      intro h hc
      have n8 : ¬ K g i = 8 := by rcases h with h | h | h | h <;> rw [h] <;> decide
      have e1 := c0 (by omega)
      have e2 := bs_ch_n hb.2.2 hi (k := 0) (by omega)
      have e3 := bs_ch_l hb.2.2 hi (k := 1) (by omega)
      have l0 := lt 0 (by omega)
      have l1 := lt 1 (by omega)
      have s0 := sle (bs_ch (sp_c K B g) i 0)
      have s1 := sle (bs_ch (sp_c K B g) i 1)
      have g0 := gd 0 m (by omega) hm
      rw [Nat.zero_add] at e2
      refine V2 t p q m (fr + 1) fr g i 0 Z (inn _ _ (by omega) (by omega)) top (by omega) (fun z => absurd z n8) ?_
      refine yr_go hD ih hd hf hg hs hi hb.2.2 (j := 0) (by omega) hxy hm hp (by omega) top h5 h6 (by omega) (fun n => ?_) (fun y1 t1 Z1 ht1 ag1 top1 v1 f5 f6 => ?_)
      · rw [rn_ev_op h, rn_bd_f n] at hE
        exact hE n
      · have g1 := gd 1 _ (by omega) g0.2.2.2
        refine V2 t1 p (q + 1) _ (fr + 1) fr g i 1 Z1 (inn _ _ (by omega) (by omega)) top1 (by omega) (fun z => absurd z n8) ?_
        refine yr_go hD ih hd hf hg hs hi hb.2.2 (j := 1) (by omega) hxy g0.2.2.2 hp (by omega) top1 f5 f6 (by omega) (fun n => ?_) (fun y2 t2 Z2 ht2 ag2 top2 v2 f5 f6 => ?_)
        · rw [rn_ev_op h, rn_bd_t y1, rn_bd_f n] at hE
          exact hE n
        · have vq : Z2 3 q = _ := (ag2 3 q (by unfold yr_w; rw [if_neg (by decide), if_pos rfl]; omega)).trans v1
          rw [rn_ev_op h, rn_bd_t y1, rn_bd_t y2] at hE hK
          rw [← vq, ← v2] at hE hK
          rw [rn_op_m] at hK
          refine V6 t2 p q _ (fr + 1) fr g i Z2 (inn _ _ (by omega) (by omega)) top2 h (fun o => ?_) hE
          exact hK o (t2 + 1) _ (by omega) (yr_ag_z (yr_ag_t ag1 ag2 (Nat.le_refl _) (by omega) (Nat.le_refl _)) (Nat.le_refl _)) (ya_z_s ..)
    rcases bd_10 (hb.1 i hi) with h | h | h | h | h | h | h | h | h | h
    · exact leaf (Or.inl h)
    · exact leaf (Or.inr (Or.inl h))
    · exact leaf (Or.inr (Or.inr h))
    · exact op (Or.inl h) (by rw [hb.2.1 i, h]; exact bs_cc3 _)
    · exact op (Or.inr (Or.inl h)) (by rw [hb.2.1 i, h]; exact bs_cc4 _)
    · exact op (Or.inr (Or.inr (Or.inl h))) (by rw [hb.2.1 i, h]; exact bs_cc5 _)
    · exact op (Or.inr (Or.inr (Or.inr h))) (by rw [hb.2.1 i, h]; exact bs_cc6 _)
    · have hc := ab_c7 hb h
      have e1 := c0 (by omega)
      have e3 := bs_ch_l hb.2.2 hi (k := 0) (by omega)
      have l0 := lt 0 (by omega)
      have s0 := sle (bs_ch (sp_c K B g) i 0)
      have g0 := gd 0 m (by omega) hm
      refine V2 t p q m (fr + 1) fr g i 0 Z (inn _ _ (by omega) (by omega)) top (by omega) (fun _ => rfl) ?_
      refine yr_go hD ih hd hf hg hs hi hb.2.2 (j := 0) (by omega) hxy hm hp (by omega) top h5 h6 (by omega) (fun n => ?_) (fun y1 t1 Z1 ht1 ag1 top1 v1 f5 f6 => ?_)
      · rw [rn_ev_isi h, rn_bd_f n] at hE
        exact hE n
      · rw [rn_ev_isi h, rn_bd_t y1, ← v1] at hK
        exact V5 t1 p q _ (fr + 1) fr g i Z1 (inn _ _ (by omega) (by omega)) top1 h (hK rfl (t1 + 1) _ (by dsimp only; omega) (yr_ag_z ag1 (Nat.le_refl _)) (ya_z_s ..))
    · have hc := ab_c8 hb h
      have e1 := c0 (by omega)
      have e2 := bs_ch_n hb.2.2 hi (k := 0) (by omega)
      have e3 := bs_ch_n hb.2.2 hi (k := 1) (by omega)
      have e4 := bs_ch_l hb.2.2 hi (k := 2) (by omega)
      have l0 := lt 0 (by omega)
      have l1 := lt 1 (by omega)
      have l2 := lt 2 (by omega)
      have s0 := sle (bs_ch (sp_c K B g) i 0)
      have s1 := sle (bs_ch (sp_c K B g) i 1)
      have s2 := sle (bs_ch (sp_c K B g) i 2)
      have g0 := gd 0 m (by omega) hm
      rw [Nat.zero_add] at e2
      rw [show 1 + 1 = 2 from rfl] at e3
      refine V2 t p q m (fr + 1) fr g i 0 Z (inn _ _ (by omega) (by omega)) top (by omega) (fun _ => rfl) ?_
      refine yr_go hD ih hd hf hg hs hi hb.2.2 (j := 0) (by omega) hxy hm hp (by omega) top h5 h6 (by omega) (fun n => ?_) (fun y1 t1 Z1 ht1 ag1 top1 v1 f5 f6 => ?_)
      · rw [rn_ev_if h, rn_bd_f n] at hE
        exact hE n
      · rw [rn_ev_if h, rn_bd_t y1] at hE hK
        refine V3 t1 p q _ (fr + 1) fr g i Z1 (inn _ _ (by omega) (by omega)) top1 h (fun vt => ?_) (fun vf => ?_) (fun nt nf => ?_)
        · rw [if_pos (v1.symm.trans vt)] at hE hK
          refine yr_go hD ih hd hf hg hs hi hb.2.2 (j := 1) (by omega) hxy g0.2.2.2 hp (by omega) top1 f5 f6 (by omega) hE (fun y2 t2 Z2 ht2 ag2 top2 v2 f5 f6 => ?_)
          exact V4 t2 p (q + 1) _ (fr + 1) fr g i Z2 (inn _ _ (by omega) (by omega)) top2 h (hK y2 (t2 + 1) Z2 (by omega) (yr_ag_t ag1 ag2 (Nat.le_refl _) (Nat.le_refl _) (Nat.le_refl _)) v2)
        · rw [if_neg (fun z => by rw [← v1, vf] at z; exact absurd z (by decide)), if_pos (v1.symm.trans vf)] at hE hK
          refine yr_go hD ih hd hf hg hs hi hb.2.2 (j := 2) (by omega) hxy g0.2.2.2 hp (by omega) top1 f5 f6 (by omega) hE (fun y2 t2 Z2 ht2 ag2 top2 v2 f5 f6 => ?_)
          exact V4 t2 p (q + 1) _ (fr + 1) fr g i Z2 (inn _ _ (by omega) (by omega)) top2 h (hK y2 (t2 + 1) Z2 (by omega) (yr_ag_t ag1 ag2 (Nat.le_refl _) (Nat.le_refl _) (Nat.le_refl _)) v2)
        · rw [if_neg (fun z => nt (v1.trans z)), if_neg (fun z => nf (v1.trans z))] at hE
          exact hE (rn_n1 _ _)
    · rcases ab_B hb hi with b0 | b1 | b2
      · rw [rn_ev_c0 h b0] at hE hK
        exact yr_cl hN hp0 hD1 V7 V8 ih (b := 0) hd hf hg hs hi h b0 (by decide) rn_ok_0 rn_ok_0 hm hp hq top (Bd := t + 4 * (i + 1 - bs_ss (sp_c K B g) i) + 520 * (200 - m)) ht (by omega) (fun _ => ⟨rfl, rfl⟩) (fun z => absurd z (by decide)) (fun z => absurd z (by decide)) hE hK
      · have hc := ab_cB1 hb h b1
        have e1 := c0 (by omega)
        have e3 := bs_ch_l hb.2.2 hi (k := 0) (by omega)
        have l0 := lt 0 (by omega)
        have s0 := sle (bs_ch (sp_c K B g) i 0)
        have g0 := gd 0 m (by omega) hm
        refine V2 t p q m (fr + 1) fr g i 0 Z (inn _ _ (by omega) (by omega)) top (by omega) (fun _ => rfl) ?_
        refine yr_go hD ih hd hf hg hs hi hb.2.2 (j := 0) (by omega) hxy hm hp (by omega) top h5 h6 (by omega) (fun n => ?_) (fun y1 t1 Z1 ht1 ag1 top1 v1 f5 f6 => ?_)
        · rw [rn_ev_c1 h b1, rn_bd_f n] at hE
          exact hE n
        · rw [rn_ev_c1 h b1, rn_bd_t y1] at hE hK
          exact yr_cl hN hp0 hD1 V7 V8 ih (b := 1) hd hf hg hs hi h b1 (by decide) (g0.2.1 y1) rn_ok_0 g0.2.2.2 hp hq top1 (Bd := t + 4 * (i + 1 - bs_ss (sp_c K B g) i) + 520 * (200 - m)) ht (by omega) (fun z => absurd z (by decide)) (fun _ => ⟨v1.symm, rfl⟩) (fun z => absurd z (by decide)) hE
            (fun y2 t2 Z2 ht2 ag2 => hK y2 t2 Z2 ht2 (yr_ag_t ag1 ag2 (Nat.le_refl _) (Nat.le_refl _) (Nat.le_refl _)))
      · have hc := (ab_cB2 hb hi h (by rw [b2]; decide) (by rw [b2]; decide)).1
        have e1 := c0 (by omega)
        have e2 := bs_ch_n hb.2.2 hi (k := 0) (by omega)
        have e3 := bs_ch_l hb.2.2 hi (k := 1) (by omega)
        have l0 := lt 0 (by omega)
        have l1 := lt 1 (by omega)
        have s0 := sle (bs_ch (sp_c K B g) i 0)
        have s1 := sle (bs_ch (sp_c K B g) i 1)
        have g0 := gd 0 m (by omega) hm
        have n8 : ¬ K g i = 8 := by rw [h]; decide
        rw [Nat.zero_add] at e2
        refine V2 t p q m (fr + 1) fr g i 0 Z (inn _ _ (by omega) (by omega)) top (by omega) (fun _ => rfl) ?_
        refine yr_go hD ih hd hf hg hs hi hb.2.2 (j := 0) (by omega) hxy hm hp (by omega) top h5 h6 (by omega) (fun n => ?_) (fun y1 t1 Z1 ht1 ag1 top1 v1 f5 f6 => ?_)
        · rw [rn_ev_c2 h b2, rn_bd_f n] at hE
          exact hE n
        · have g1 := gd 1 _ (by omega) g0.2.2.2
          refine V2 t1 p (q + 1) _ (fr + 1) fr g i 1 Z1 (inn _ _ (by omega) (by omega)) top1 (by omega) (fun z => absurd z n8) ?_
          refine yr_go hD ih hd hf hg hs hi hb.2.2 (j := 1) (by omega) hxy g0.2.2.2 hp (by omega) top1 f5 f6 (by omega) (fun n => ?_) (fun y2 t2 Z2 ht2 ag2 top2 v2 f5 f6 => ?_)
          · rw [rn_ev_c2 h b2, rn_bd_t y1, rn_bd_f n] at hE
            exact hE n
          · have vq : Z2 3 q = _ := (ag2 3 q (by unfold yr_w; rw [if_neg (by decide), if_pos rfl]; omega)).trans v1
            rw [rn_ev_c2 h b2, rn_bd_t y1, rn_bd_t y2] at hE hK
            exact yr_cl hN hp0 hD1 V7 V8 ih (b := 2) hd hf hg hs hi h b2 (by decide) (g0.2.1 y1) (g1.2.1 y2) g1.2.2.2 hp hq top2 (Bd := t + 4 * (i + 1 - bs_ss (sp_c K B g) i) + 520 * (200 - m)) ht (by omega) (fun z => absurd z (by decide)) (fun z => absurd z (by decide)) (fun _ => ⟨vq.symm, v2.symm⟩) hE
              (fun y3 t3 Z3 ht3 ag3 => hK y3 t3 Z3 ht3 (yr_ag_t (yr_ag_t ag1 ag2 (Nat.le_refl _) (by omega) (Nat.le_refl _)) ag3 (Nat.le_refl _) (Nat.le_refl _) (Nat.le_refl _)))
end

section
variable {N k n : Nat} {K A B st ar : Nat → Int32} {c D : Nat → Nat} {tb : Nat → ty_T} {RA : Nat → Nat → (Nat → Nat → Int32) → Int32 → Int32 → Int32 → Int32 → Prop}
/-- the evaluation of the subtree at the top of the stack -/
def ya_S (k n : Nat) (K A B st ar : Nat → Int32) (c D : Nat → Nat) (tb : Nat → ty_T) (RA : Nat → Nat → (Nat → Nat → Int32) → Int32 → Int32 → Int32 → Int32 → Prop) (d : Nat) : Prop :=
  ∀ (i : Nat) (e : ab_E) (t p : Nat) (Z : Nat → Nat → Int32) (b r e0 e1 : Int32), i < d → i < n → ab_eo k e → p + D i ≤ 15 → Z 0 p = nI i → Z 1 p = 0 → Z 2 p = ty_y e.1 → Z 3 p = ty_y e.2 → t + 4 * (i + 1 - bs_ss c i) ≤ 4096 →
    (∀ (t' : Nat) (Z' : Nat → Nat → Int32), t' ≤ t + 4 * (i + 1 - bs_ss c i) → ya_ag p Z Z' → ya_k (RA t' p Z') (ab_ev K A B st ar c tb d i e)) → RA t (p + 1) Z b r e0 e1
theorem ya_s_lf (R1 : ya_R1 k n K A RA) {d i : Nat} {e : ab_E} {t p : Nat} {Z : Nat → Nat → Int32} {b r e0 e1 : Int32} (hi : i < n) (he : ab_eo k e) (hp : p + D i ≤ 15) (h0 : Z 0 p = nI i) (h2 : Z 2 p = ty_y e.1) (h3 : Z 3 p = ty_y e.2)
    (ht : t + 4 * (i + 1 - bs_ss c i) ≤ 4096) (hk : ∀ (t' : Nat) (Z' : Nat → Nat → Int32), t' ≤ t + 4 * (i + 1 - bs_ss c i) → ya_ag p Z Z' → ya_k (RA t' p Z') (ab_ev K A B st ar c tb (d + 1) i e)) (h : K i = 0 ∨ K i = 1 ∨ K i = 2) : RA t (p + 1) Z b r e0 e1 := by
  have s := bs_ss_le c i
  refine R1 t p Z b r e0 e1 i e (by omega) (by omega) hi h0 h he h2 h3 ?_
  have := hk (t + 1) Z (by omega) (ya_ag_r p Z)
  rw [ab_ev_lf h] at this
  exact this
theorem ya_s_op (hb : ab_bd N k n K A B c) (hD : ∀ i, i < n → ∀ j, j < c i → D (bs_ch c i j) < D i) (hT : ∀ q, ty_ok (tb q)) (R2 : ya_R2 n c RA) (R3 : ya_R3 n K c RA) (R4 : ya_R4 n c RA) (R6 : ya_R6 k n K A c RA) {d : Nat} (ih : ya_S k n K A B st ar c D tb RA d)
    {i : Nat} {e : ab_E} {t p : Nat} {Z : Nat → Nat → Int32} {b r e0 e1 : Int32} (hd : i < d + 1) (hi : i < n) (he : ab_eo k e) (hp : p + D i ≤ 15) (h0 : Z 0 p = nI i) (h1 : Z 1 p = 0) (h2 : Z 2 p = ty_y e.1) (h3 : Z 3 p = ty_y e.2)
    (ht : t + 4 * (i + 1 - bs_ss c i) ≤ 4096) (hk : ∀ (t' : Nat) (Z' : Nat → Nat → Int32), t' ≤ t + 4 * (i + 1 - bs_ss c i) → ya_ag p Z Z' → ya_k (RA t' p Z') (ab_ev K A B st ar c tb (d + 1) i e)) (h : K i = 3 ∨ K i = 4 ∨ K i = 5 ∨ K i = 6) (hc : c i = 2) : RA t (p + 1) Z b r e0 e1 := by
  have l0 := bs_ch_lt hb.2.2 hi (k := 0) (by omega)
  have l1 := bs_ch_lt hb.2.2 hi (k := 1) (by omega)
  have q0 := bs_ch_0 hb.2.2 hi (by omega)
  have q1 := bs_ch_n hb.2.2 hi (k := 0) (by omega)
  have q2 := bs_ch_l hb.2.2 hi (k := 1) (by omega)
  have s0 := bs_ss_le c (bs_ch c i 0)
  have s1 := bs_ss_le c (bs_ch c i 1)
  have d0 := hD i hi 0 (by omega)
  have d1 := hD i hi 1 (by omega)
  have n8 : ¬ K i = 8 := by rcases h with h | h | h | h <;> rw [h] <;> decide
  rw [Nat.zero_add] at q1
  refine R2 t p Z b r e0 e1 i (by omega) (by omega) hi h0 h1 (by omega) ?_
  refine ih (bs_ch c i 0) e (t + 1) (p + 1) _ b r e0 e1 (by omega) (by omega) he (by omega) (ya_push_0 ..) (ya_push_1 ..) ((ya_push_2 ..).trans h2) ((ya_push_3 ..).trans h3) (by omega) ?_
  intro t1 Z1 ht1 hg1
  have z0 : Z1 0 p = nI i := (hg1 0 p (by omega)).trans (by rw [ya_push_l _ _ _ _ _ _ (by omega), ya_z_n _ _ _ _ (by decide)]; exact h0)
  have z1 : Z1 1 p = 1 := (hg1 1 p (by omega)).trans (by rw [ya_push_l _ _ _ _ _ _ (by omega), ya_z_s])
  have ag1 : ya_ag p Z Z1 := ya_ag_t (ya_ag_p (ya_ag_z (ya_ag_r p Z) (Nat.le_refl _)) (by omega)) hg1 (by omega)
  cases ho : ab_ev K A B st ar c tb d (bs_ch c i 0) e with
  | none =>
    intro r e0 e1
    refine R3 t1 p Z1 r e0 e1 i 1 (by omega) (by omega) hi z0 (z1.trans ya_i1) (by decide) (by decide) (by omega) (fun z => absurd z n8) ?_
    have := hk (t1 + 1) Z1 (by omega) ag1
    rw [ab_ev_op h, ab_op, ho] at this
    exact this r e0 e1
  | some x =>
    have gx := ab_ev_po hb hT d _ _ (show bs_ch c i 0 < n by omega) he x ho
    refine R4 t1 p Z1 _ _ _ i (by omega) (by omega) hi z0 z1 hc ?_
    refine ih (bs_ch c i 1) x.2 (t1 + 1) (p + 1) _ _ _ _ _ (by omega) (by omega) gx.2.2.1 (by omega) (ya_push_0 ..) (ya_push_1 ..) (ya_push_2 ..) (ya_push_3 ..) (by omega) ?_
    intro t2 Z2 ht2 hg2
    have y0 : Z2 0 p = nI i := (hg2 0 p (by omega)).trans (by rw [ya_push_l _ _ _ _ _ _ (by omega), ya_z_n _ _ _ _ (by decide), ya_z_n _ _ _ _ (by decide)]; exact z0)
    have y1 : Z2 1 p = 2 := (hg2 1 p (by omega)).trans (by rw [ya_push_l _ _ _ _ _ _ (by omega), ya_z_s])
    have y4 : Z2 4 p = ty_y x.1 := (hg2 4 p (by omega)).trans (by rw [ya_push_l _ _ _ _ _ _ (by omega), ya_z_n _ _ _ _ (by decide), ya_z_s])
    have ag2 : ya_ag p Z Z2 := ya_ag_t (ya_ag_p (ya_ag_z (ya_ag_z ag1 (Nat.le_refl _)) (Nat.le_refl _)) (by omega)) hg2 (by omega)
    cases hy : ab_ev K A B st ar c tb d (bs_ch c i 1) x.2 with
    | none =>
      intro r e0 e1
      refine R3 t2 p Z2 r e0 e1 i 2 (by omega) (by omega) hi y0 (y1.trans ya_i2) (by decide) (by decide) (by omega) (fun z => absurd z n8) ?_
      have := hk (t2 + 1) Z2 (by omega) ag2
      rw [ab_ev_op h, ab_op, ho, Option.bind_some, hy] at this
      exact this r e0 e1
    | some y =>
      have gy := ab_ev_po hb hT d _ _ (show bs_ch c i 1 < n by omega) gx.2.2.1 y hy
      refine R6 t2 p Z2 i x.1 y.1 y.2 (by omega) (by omega) hi y0 y1 h y4 gx.1 gy.1 gy.2.2.1 ?_
      have := hk (t2 + 1) Z2 (by omega) ag2
      rw [ab_ev_op h, ab_op, ho, Option.bind_some, hy, Option.bind_some] at this
      exact this
theorem ya_s_isi (hb : ab_bd N k n K A B c) (hD : ∀ i, i < n → ∀ j, j < c i → D (bs_ch c i j) < D i) (hT : ∀ q, ty_ok (tb q)) (R2 : ya_R2 n c RA) (R3 : ya_R3 n K c RA) (R5 : ya_R5 k n K RA) {d : Nat} (ih : ya_S k n K A B st ar c D tb RA d)
    {i : Nat} {e : ab_E} {t p : Nat} {Z : Nat → Nat → Int32} {b r e0 e1 : Int32} (hd : i < d + 1) (hi : i < n) (he : ab_eo k e) (hp : p + D i ≤ 15) (h0 : Z 0 p = nI i) (h1 : Z 1 p = 0) (h2 : Z 2 p = ty_y e.1) (h3 : Z 3 p = ty_y e.2)
    (ht : t + 4 * (i + 1 - bs_ss c i) ≤ 4096) (hk : ∀ (t' : Nat) (Z' : Nat → Nat → Int32), t' ≤ t + 4 * (i + 1 - bs_ss c i) → ya_ag p Z Z' → ya_k (RA t' p Z') (ab_ev K A B st ar c tb (d + 1) i e)) (h : K i = 7) : RA t (p + 1) Z b r e0 e1 := by
  have hc := ab_c7 hb h
  have l0 := bs_ch_lt hb.2.2 hi (k := 0) (by omega)
  have q0 := bs_ch_0 hb.2.2 hi (by omega)
  have q2 := bs_ch_l hb.2.2 hi (k := 0) (by omega)
  have s0 := bs_ss_le c (bs_ch c i 0)
  have d0 := hD i hi 0 (by omega)
  have n8 : ¬ K i = 8 := by rw [h]; decide
  refine R2 t p Z b r e0 e1 i (by omega) (by omega) hi h0 h1 (by omega) ?_
  refine ih (bs_ch c i 0) e (t + 1) (p + 1) _ b r e0 e1 (by omega) (by omega) he (by omega) (ya_push_0 ..) (ya_push_1 ..) ((ya_push_2 ..).trans h2) ((ya_push_3 ..).trans h3) (by omega) ?_
  intro t1 Z1 ht1 hg1
  have z0 : Z1 0 p = nI i := (hg1 0 p (by omega)).trans (by rw [ya_push_l _ _ _ _ _ _ (by omega), ya_z_n _ _ _ _ (by decide)]; exact h0)
  have z1 : Z1 1 p = 1 := (hg1 1 p (by omega)).trans (by rw [ya_push_l _ _ _ _ _ _ (by omega), ya_z_s])
  have ag1 : ya_ag p Z Z1 := ya_ag_t (ya_ag_p (ya_ag_z (ya_ag_r p Z) (Nat.le_refl _)) (by omega)) hg1 (by omega)
  cases ho : ab_ev K A B st ar c tb d (bs_ch c i 0) e with
  | none =>
    intro r e0 e1
    refine R3 t1 p Z1 r e0 e1 i 1 (by omega) (by omega) hi z0 (z1.trans ya_i1) (by decide) (by decide) (by omega) (fun z => absurd z n8) ?_
    have := hk (t1 + 1) Z1 (by omega) ag1
    rw [ab_ev_isi h, ab_isi, ho] at this
    exact this r e0 e1
  | some x =>
    have gx := ab_ev_po hb hT d _ _ (show bs_ch c i 0 < n by omega) he x ho
    refine R5 t1 p Z1 i x.1 x.2 (by omega) (by omega) hi z0 z1 h gx.1 gx.2.2.1 ?_
    have := hk (t1 + 1) Z1 (by omega) ag1
    rw [ab_ev_isi h, ab_isi, ho, Option.bind_some] at this
    exact this
theorem ya_s_call (hb : ab_bd N k n K A B c) (hD : ∀ i, i < n → ∀ j, j < c i → D (bs_ch c i j) < D i) (hT : ∀ q, ty_ok (tb q)) (R2 : ya_R2 n c RA) (R3 : ya_R3 n K c RA) (R4 : ya_R4 n c RA)
    (R10 : ya_R10 k n K A B st ar tb RA) (R11 : ya_R11 k n K A B st ar c tb RA) (R12 : ya_R12 k n K A B st ar c tb RA) {d : Nat} (ih : ya_S k n K A B st ar c D tb RA d)
    {i : Nat} {e : ab_E} {t p : Nat} {Z : Nat → Nat → Int32} {b r e0 e1 : Int32} (hd : i < d + 1) (hi : i < n) (he : ab_eo k e) (hp : p + D i ≤ 15) (h0 : Z 0 p = nI i) (h1 : Z 1 p = 0) (h2 : Z 2 p = ty_y e.1) (h3 : Z 3 p = ty_y e.2)
    (ht : t + 4 * (i + 1 - bs_ss c i) ≤ 4096) (hk : ∀ (t' : Nat) (Z' : Nat → Nat → Int32), t' ≤ t + 4 * (i + 1 - bs_ss c i) → ya_ag p Z Z' → ya_k (RA t' p Z') (ab_ev K A B st ar c tb (d + 1) i e)) (h : K i = 9) : RA t (p + 1) Z b r e0 e1 := by
  have n8 : ¬ K i = 8 := by rw [h]; decide
  by_cases b0 : B i = 0
  · have s := bs_ss_le c i
    refine R10 t p Z b r e0 e1 i e (by omega) (by omega) hi h0 h1 h b0 he h2 h3 ?_
    have := hk (t + 1) Z (by omega) (ya_ag_r p Z)
    rw [ab_ev_call h, ab_call, if_pos b0] at this
    exact this
  · have hc1 : 0 < c i := by
      rcases ab_B hb hi with z | z | z
      · exact absurd z b0
      · rw [ab_c9 hb h, z]; decide
      · rw [ab_c9 hb h, z]; decide
    have l0 := bs_ch_lt hb.2.2 hi (k := 0) (by omega)
    have q0 := bs_ch_0 hb.2.2 hi (by omega)
    have s0 := bs_ss_le c (bs_ch c i 0)
    have d0 := hD i hi 0 (by omega)
    refine R2 t p Z b r e0 e1 i (by omega) (by omega) hi h0 h1 (by omega) ?_
    refine ih (bs_ch c i 0) e (t + 1) (p + 1) _ b r e0 e1 (by omega) (by omega) he (by omega) (ya_push_0 ..) (ya_push_1 ..) ((ya_push_2 ..).trans h2) ((ya_push_3 ..).trans h3) (by omega) ?_
    intro t1 Z1 ht1 hg1
    have z0 : Z1 0 p = nI i := (hg1 0 p (by omega)).trans (by rw [ya_push_l _ _ _ _ _ _ (by omega), ya_z_n _ _ _ _ (by decide)]; exact h0)
    have z1 : Z1 1 p = 1 := (hg1 1 p (by omega)).trans (by rw [ya_push_l _ _ _ _ _ _ (by omega), ya_z_s])
    have ag1 : ya_ag p Z Z1 := ya_ag_t (ya_ag_p (ya_ag_z (ya_ag_r p Z) (Nat.le_refl _)) (by omega)) hg1 (by omega)
    cases ho : ab_ev K A B st ar c tb d (bs_ch c i 0) e with
    | none =>
      intro r e0 e1
      refine R3 t1 p Z1 r e0 e1 i 1 (by omega) (by omega) hi z0 (z1.trans ya_i1) (by decide) (by decide) (by omega) (fun z => absurd z n8) ?_
      have := hk (t1 + 1) Z1 (by omega) ag1
      rw [ab_ev_call h, ab_call, if_neg b0, ho] at this
      simp only [Option.bind_none, ite_self] at this
      exact this r e0 e1
    | some x =>
      have gx := ab_ev_po hb hT d _ _ (show bs_ch c i 0 < n by omega) he x ho
      by_cases b1 : B i = 1
      · have hc := ab_cB1 hb h b1
        refine R11 t1 p Z1 i x.1 x.2 (by omega) (by omega) hi z0 z1 h b1 gx.1 gx.2.2.1 ?_
        have := hk (t1 + 1) Z1 (by omega) ag1
        rw [ab_ev_call h, ab_call, if_neg b0, if_pos b1, ho, Option.bind_some] at this
        exact this
      · have hc := ab_cB2 hb hi h b0 b1
        have l1 := bs_ch_lt hb.2.2 hi (k := 1) (by omega)
        have q1 := bs_ch_n hb.2.2 hi (k := 0) (by omega)
        have q2 := bs_ch_l hb.2.2 hi (k := 1) (by omega)
        have s1 := bs_ss_le c (bs_ch c i 1)
        have d1 := hD i hi 1 (by omega)
        rw [Nat.zero_add] at q1
        refine R4 t1 p Z1 _ _ _ i (by omega) (by omega) hi z0 z1 hc.1 ?_
        refine ih (bs_ch c i 1) x.2 (t1 + 1) (p + 1) _ _ _ _ _ (by omega) (by omega) gx.2.2.1 (by omega) (ya_push_0 ..) (ya_push_1 ..) (ya_push_2 ..) (ya_push_3 ..) (by omega) ?_
        intro t2 Z2 ht2 hg2
        have y0 : Z2 0 p = nI i := (hg2 0 p (by omega)).trans (by rw [ya_push_l _ _ _ _ _ _ (by omega), ya_z_n _ _ _ _ (by decide), ya_z_n _ _ _ _ (by decide)]; exact z0)
        have y1 : Z2 1 p = 2 := (hg2 1 p (by omega)).trans (by rw [ya_push_l _ _ _ _ _ _ (by omega), ya_z_s])
        have y4 : Z2 4 p = ty_y x.1 := (hg2 4 p (by omega)).trans (by rw [ya_push_l _ _ _ _ _ _ (by omega), ya_z_n _ _ _ _ (by decide), ya_z_s])
        have ag2 : ya_ag p Z Z2 := ya_ag_t (ya_ag_p (ya_ag_z (ya_ag_z ag1 (Nat.le_refl _)) (Nat.le_refl _)) (by omega)) hg2 (by omega)
        cases hy : ab_ev K A B st ar c tb d (bs_ch c i 1) x.2 with
        | none =>
          intro r e0 e1
          refine R3 t2 p Z2 r e0 e1 i 2 (by omega) (by omega) hi y0 (y1.trans ya_i2) (by decide) (by decide) (by omega) (fun z => absurd z n8) ?_
          have := hk (t2 + 1) Z2 (by omega) ag2
          rw [ab_ev_call h, ab_call, if_neg b0, if_neg b1, ho, Option.bind_some, hy] at this
          exact this r e0 e1
        | some y =>
          have gy := ab_ev_po hb hT d _ _ (show bs_ch c i 1 < n by omega) gx.2.2.1 y hy
          refine R12 t2 p Z2 i x.1 y.1 y.2 (by omega) (by omega) hi y0 y1 h hc.2 y4 gx.1 gy.1 gy.2.2.1 ?_
          have := hk (t2 + 1) Z2 (by omega) ag2
          rw [ab_ev_call h, ab_call, if_neg b0, if_neg b1, ho, Option.bind_some, hy, Option.bind_some] at this
          exact this
/-- the last two stages of a branching row, from the first branch's outcome on -/
theorem ya_s_if2 (hb : ab_bd N k n K A B c) (hD : ∀ i, i < n → ∀ j, j < c i → D (bs_ch c i j) < D i) (hT : ∀ q, ty_ok (tb q)) (R8 : ya_R8 k n K c RA) (R9 : ya_R9 k n K RA) {d : Nat} (ih : ya_S k n K A B st ar c D tb RA d)
    {i m : Nat} {u : ab_E} {t p : Nat} {Z : Nat → Nat → Int32} {b r e0 e1 : Int32} {o : ab_O} (hd : i < d + 1) (hi : i < n) (hu : ab_eo k u) (hm : m < 256) (hp : p + D i ≤ 15) (h0 : Z 0 p = nI i) (h1 : Z 1 p = 2) (h4 : Z 4 p = nI m) (h5 : Z 5 p = ty_y u.1) (h6 : Z 6 p = ty_y u.2)
    (h : K i = 8) (ho : ab_po k o) (ha : ya_at b r e0 e1 o) (ht : t + 2 + 4 * (i - bs_ss c (bs_ch c i 2)) ≤ 4096)
    (hk : ∀ (t' : Nat) (Z' : Nat → Nat → Int32), t' ≤ t + 2 + 4 * (i - bs_ss c (bs_ch c i 2)) → ya_ag p Z Z' → ya_k (RA t' p Z') (ab_jn o (ab_gd (m.testBit 0) (ab_ev K A B st ar c tb d (bs_ch c i 2) u)))) : RA t (p + 1) Z b r e0 e1 := by
  have hc := ab_c8 hb h
  have l2 := bs_ch_lt hb.2.2 hi (k := 2) (by omega)
  have q2 := bs_ch_l hb.2.2 hi (k := 2) (by omega)
  have s2 := bs_ss_le c (bs_ch c i 2)
  have d2 := hD i hi 2 (by omega)
  have zj : ∀ a, a ≠ 7 → a ≠ 8 → a ≠ 9 → a ≠ 10 → a ≠ 1 → ya_zj Z p b r e0 e1 a p = Z a p := fun a n7 n8 n9 n10 n1 => by
    unfold ya_zj; rw [ya_z_n _ _ _ _ n1, ya_z_n _ _ _ _ n10, ya_z_n _ _ _ _ n9, ya_z_n _ _ _ _ n8, ya_z_n _ _ _ _ n7]
  have zj7 : ya_at (ya_zj Z p b r e0 e1 7 p) (ya_zj Z p b r e0 e1 8 p) (ya_zj Z p b r e0 e1 9 p) (ya_zj Z p b r e0 e1 10 p) o := by
    have g7 : ya_zj Z p b r e0 e1 7 p = b := by unfold ya_zj; rw [ya_z_n _ _ _ _ (by decide), ya_z_n _ _ _ _ (by decide), ya_z_n _ _ _ _ (by decide), ya_z_n _ _ _ _ (by decide), ya_z_s]
    have g8 : ya_zj Z p b r e0 e1 8 p = r := by unfold ya_zj; rw [ya_z_n _ _ _ _ (by decide), ya_z_n _ _ _ _ (by decide), ya_z_n _ _ _ _ (by decide), ya_z_s]
    have g9 : ya_zj Z p b r e0 e1 9 p = e0 := by unfold ya_zj; rw [ya_z_n _ _ _ _ (by decide), ya_z_n _ _ _ _ (by decide), ya_z_s]
    have g10 : ya_zj Z p b r e0 e1 10 p = e1 := by unfold ya_zj; rw [ya_z_n _ _ _ _ (by decide), ya_z_s]
    rw [g7, g8, g9, g10]; exact ha
  have zj1 : ya_zj Z p b r e0 e1 1 p = 3 := by unfold ya_zj; rw [ya_z_s]
  have zj0 : ya_zj Z p b r e0 e1 0 p = nI i := (zj 0 (by decide) (by decide) (by decide) (by decide) (by decide)).trans h0
  have agj : ya_ag p Z (ya_zj Z p b r e0 e1) := by
    unfold ya_zj
    exact ya_ag_z (ya_ag_z (ya_ag_z (ya_ag_z (ya_ag_z (ya_ag_r p Z) (Nat.le_refl _)) (Nat.le_refl _)) (Nat.le_refl _)) (Nat.le_refl _)) (Nat.le_refl _)
  refine R8 t p Z b r e0 e1 i m u (by omega) (by omega) hi h0 h1 h hm h4 h5 h6 hu (fun hbit hal => ?_) (fun hno => ?_)
  · refine ih (bs_ch c i 2) u (t + 1) (p + 1) _ _ _ _ _ (by omega) (by omega) hu (by omega) (ya_push_0 ..) (ya_push_1 ..) (ya_push_2 ..) (ya_push_3 ..) (by omega) ?_
    intro t1 Z1 ht1 hg1
    have low : ∀ a, Z1 a p = ya_zj Z p b r e0 e1 a p := fun a => (hg1 a p (by omega)).trans (ya_push_l _ _ _ _ _ _ (by omega))
    have ag1 : ya_ag p Z Z1 := ya_ag_t (ya_ag_p agj (by omega)) hg1 (by omega)
    have fin : ∀ b' r' e0' e1', ya_at b' r' e0' e1' (ab_ev K A B st ar c tb d (bs_ch c i 2) u) → RA t1 (p + 1) Z1 b' r' e0' e1' := by
      intro b' r' e0' e1' hat
      refine R9 t1 p Z1 b' r' e0' e1' i o _ (by omega) (by omega) hi ((low 0).trans zj0) ((low 1).trans zj1) h ho (ab_ev_po hb hT d _ _ (by omega) hu) ?_ hat ?_
      · rw [low 7, low 8, low 9, low 10]; exact zj7
      · have := hk (t1 + 1) Z1 (by omega) ag1
        rw [hbit, ab_gd, if_pos rfl] at this
        exact this
    cases hz : ab_ev K A B st ar c tb d (bs_ch c i 2) u with
    | none => intro r' e0' e1'; exact fin 1 r' e0' e1' (by rw [hz]; exact rfl)
    | some x => exact fin 0 _ _ _ (by rw [hz]; exact ⟨rfl, rfl, rfl, rfl⟩)
  · refine R9 (t + 1) p _ 1 r e0 e1 i o none (by omega) (by omega) hi zj0 zj1 h ho (ab_none_po k) zj7 rfl ?_
    have := hk (t + 1 + 1) _ (by omega) agj
    have e : ab_gd (m.testBit 0) (ab_ev K A B st ar c tb d (bs_ch c i 2) u) = none := by
      unfold ab_gd
      split
      · next z =>
        apply ab_dead
        by_cases g : u.1 = ty_0
        · exact Or.inl g
        · exact Or.inr (Classical.byContradiction fun g2 => hno ⟨z, g, g2⟩)
      · rfl
    rw [e] at this
    exact this
theorem ya_s_if (hb : ab_bd N k n K A B c) (hD : ∀ i, i < n → ∀ j, j < c i → D (bs_ch c i j) < D i) (hT : ∀ q, ty_ok (tb q)) (R2 : ya_R2 n c RA) (R3 : ya_R3 n K c RA) (R7 : ya_R7 k n K A c RA) (R8 : ya_R8 k n K c RA) (R9 : ya_R9 k n K RA) {d : Nat} (ih : ya_S k n K A B st ar c D tb RA d)
    {i : Nat} {e : ab_E} {t p : Nat} {Z : Nat → Nat → Int32} {b r e0 e1 : Int32} (hd : i < d + 1) (hi : i < n) (he : ab_eo k e) (hp : p + D i ≤ 15) (h0 : Z 0 p = nI i) (h1 : Z 1 p = 0) (h2 : Z 2 p = ty_y e.1) (h3 : Z 3 p = ty_y e.2)
    (ht : t + 4 * (i + 1 - bs_ss c i) ≤ 4096) (hk : ∀ (t' : Nat) (Z' : Nat → Nat → Int32), t' ≤ t + 4 * (i + 1 - bs_ss c i) → ya_ag p Z Z' → ya_k (RA t' p Z') (ab_ev K A B st ar c tb (d + 1) i e)) (h : K i = 8) : RA t (p + 1) Z b r e0 e1 := by
  have hc := ab_c8 hb h
  have l0 := bs_ch_lt hb.2.2 hi (k := 0) (by omega)
  have l1 := bs_ch_lt hb.2.2 hi (k := 1) (by omega)
  have l2 := bs_ch_lt hb.2.2 hi (k := 2) (by omega)
  have q0 := bs_ch_0 hb.2.2 hi (by omega)
  have q1 := bs_ch_n hb.2.2 hi (k := 0) (by omega)
  have q2 := bs_ch_n hb.2.2 hi (k := 1) (by omega)
  have q3 := bs_ch_l hb.2.2 hi (k := 2) (by omega)
  have s0 := bs_ss_le c (bs_ch c i 0)
  have s1 := bs_ss_le c (bs_ch c i 1)
  have s2 := bs_ss_le c (bs_ch c i 2)
  have d0 := hD i hi 0 (by omega)
  have d1 := hD i hi 1 (by omega)
  rw [Nat.zero_add] at q1
  rw [show 1 + 1 = 2 from rfl] at q2
  refine R2 t p Z b r e0 e1 i (by omega) (by omega) hi h0 h1 (by omega) ?_
  refine ih (bs_ch c i 0) e (t + 1) (p + 1) _ b r e0 e1 (by omega) (by omega) he (by omega) (ya_push_0 ..) (ya_push_1 ..) ((ya_push_2 ..).trans h2) ((ya_push_3 ..).trans h3) (by omega) ?_
  intro t1 Z1 ht1 hg1
  have z0 : Z1 0 p = nI i := (hg1 0 p (by omega)).trans (by rw [ya_push_l _ _ _ _ _ _ (by omega), ya_z_n _ _ _ _ (by decide)]; exact h0)
  have z1 : Z1 1 p = 1 := (hg1 1 p (by omega)).trans (by rw [ya_push_l _ _ _ _ _ _ (by omega), ya_z_s])
  have ag1 : ya_ag p Z Z1 := ya_ag_t (ya_ag_p (ya_ag_z (ya_ag_r p Z) (Nat.le_refl _)) (by omega)) hg1 (by omega)
  cases ho : ab_ev K A B st ar c tb d (bs_ch c i 0) e with
  | none =>
    intro r e0 e1
    refine R3 t1 p Z1 r e0 e1 i 1 (by omega) (by omega) hi z0 (z1.trans ya_i1) (by decide) (by decide) (by omega) (fun _ => rfl) ?_
    have := hk (t1 + 1) Z1 (by omega) ag1
    rw [ab_ev_if h, ab_if, ho] at this
    exact this r e0 e1
  | some x =>
    have gx := ab_ev_po hb hT d _ _ (show bs_ch c i 0 < n by omega) he x ho
    have gu := ab_th_eo hb hi h ty_ats_ok gx.2.2.1
    have gt := ab_th_eo hb hi h ty_ints_ok gx.2.2.1
    have hk' : ∀ (t' : Nat) (Z' : Nat → Nat → Int32), t' ≤ t + 4 * (i + 1 - bs_ss c i) → ya_ag p Z Z' → ya_k (RA t' p Z') (ab_jn (ab_gd (x.1.1.testBit 1) (ab_ev K A B st ar c tb d (bs_ch c i 1) (ab_th K A c i ty_ints x.2))) (ab_gd (x.1.1.testBit 0) (ab_ev K A B st ar c tb d (bs_ch c i 2) (ab_th K A c i ty_ats x.2)))) := by
      intro t' Z' a b
      have := hk t' Z' a b
      rw [ab_ev_if h, ab_if, ho, Option.bind_some] at this
      exact this
    have zi : ∀ a, a ≠ 4 → a ≠ 5 → a ≠ 6 → a ≠ 1 → ya_zi Z1 p x.1 (ab_th K A c i ty_ats x.2) a p = Z1 a p := fun a n4 n5 n6 n1 => by
      unfold ya_zi; rw [ya_z_n _ _ _ _ n1, ya_z_n _ _ _ _ n6, ya_z_n _ _ _ _ n5, ya_z_n _ _ _ _ n4]
    have i0 : ya_zi Z1 p x.1 (ab_th K A c i ty_ats x.2) 0 p = nI i := (zi 0 (by decide) (by decide) (by decide) (by decide)).trans z0
    have i1 : ya_zi Z1 p x.1 (ab_th K A c i ty_ats x.2) 1 p = 2 := by unfold ya_zi; rw [ya_z_s]
    have i4 : ya_zi Z1 p x.1 (ab_th K A c i ty_ats x.2) 4 p = nI x.1.1 := by unfold ya_zi; rw [ya_z_n _ _ _ _ (by decide), ya_z_n _ _ _ _ (by decide), ya_z_n _ _ _ _ (by decide), ya_z_s]
    have i5 : ya_zi Z1 p x.1 (ab_th K A c i ty_ats x.2) 5 p = ty_y (ab_th K A c i ty_ats x.2).1 := by unfold ya_zi; rw [ya_z_n _ _ _ _ (by decide), ya_z_n _ _ _ _ (by decide), ya_z_s]
    have i6 : ya_zi Z1 p x.1 (ab_th K A c i ty_ats x.2) 6 p = ty_y (ab_th K A c i ty_ats x.2).2 := by unfold ya_zi; rw [ya_z_n _ _ _ _ (by decide), ya_z_s]
    have agi : ya_ag p Z (ya_zi Z1 p x.1 (ab_th K A c i ty_ats x.2)) := by
      unfold ya_zi
      exact ya_ag_z (ya_ag_z (ya_ag_z (ya_ag_z ag1 (Nat.le_refl _)) (Nat.le_refl _)) (Nat.le_refl _)) (Nat.le_refl _)
    refine R7 t1 p Z1 i x.1 x.2 (by omega) (by omega) hi z0 z1 h gx.1 gx.2.2.1 (fun hbit hal => ?_) (fun hno => ?_)
    · refine ih (bs_ch c i 1) _ (t1 + 1) (p + 1) _ _ _ _ _ (by omega) (by omega) gt (by omega) (ya_push_0 ..) (ya_push_1 ..) (ya_push_2 ..) (ya_push_3 ..) (by omega) ?_
      intro t2 Z2 ht2 hg2
      have low : ∀ a, Z2 a p = ya_zi Z1 p x.1 (ab_th K A c i ty_ats x.2) a p := fun a => (hg2 a p (by omega)).trans (ya_push_l _ _ _ _ _ _ (by omega))
      have ag2 : ya_ag p Z Z2 := ya_ag_t (ya_ag_p agi (by omega)) hg2 (by omega)
      have fin : ∀ b' r' e0' e1', ya_at b' r' e0' e1' (ab_ev K A B st ar c tb d (bs_ch c i 1) (ab_th K A c i ty_ints x.2)) → RA t2 (p + 1) Z2 b' r' e0' e1' := by
        intro b' r' e0' e1' hat
        refine ya_s_if2 hb hD hT R8 R9 ih hd hi gu gx.1.1 hp ((low 0).trans i0) ((low 1).trans i1) ((low 4).trans i4) ((low 5).trans i5) ((low 6).trans i6) h (ab_ev_po hb hT d _ _ (by omega) gt) hat (by omega) ?_
        intro t3 Z3 ht3 hg3
        have := hk' t3 Z3 (by omega) (ya_ag_t ag2 hg3 (Nat.le_refl _))
        rw [hbit] at this
        exact this
      cases hz : ab_ev K A B st ar c tb d (bs_ch c i 1) (ab_th K A c i ty_ints x.2) with
      | none => intro r' e0' e1'; exact fin 1 r' e0' e1' (by rw [hz]; exact rfl)
      | some y => exact fin 0 _ _ _ (by rw [hz]; exact ⟨rfl, rfl, rfl, rfl⟩)
    · refine ya_s_if2 hb hD hT R8 R9 ih (o := none) hd hi gu gx.1.1 hp i0 i1 i4 i5 i6 h (ab_none_po k) rfl (by omega) ?_
      intro t3 Z3 ht3 hg3
      have := hk' t3 Z3 (by omega) (ya_ag_t agi hg3 (Nat.le_refl _))
      have e : ab_gd (x.1.1.testBit 1) (ab_ev K A B st ar c tb d (bs_ch c i 1) (ab_th K A c i ty_ints x.2)) = none := by
        unfold ab_gd
        split
        · next z =>
          apply ab_dead
          by_cases g : (ab_th K A c i ty_ints x.2).1 = ty_0
          · exact Or.inl g
          · exact Or.inr (Classical.byContradiction fun g2 => hno ⟨z, g, g2⟩)
        · rfl
      rw [e] at this
      exact this
/-- the reference's machine gives the pure outcome -/
theorem ya_sim (hb : ab_bd N k n K A B c) (hD : ∀ i, i < n → ∀ j, j < c i → D (bs_ch c i j) < D i) (hT : ∀ q, ty_ok (tb q)) (R1 : ya_R1 k n K A RA) (R2 : ya_R2 n c RA) (R3 : ya_R3 n K c RA) (R4 : ya_R4 n c RA) (R5 : ya_R5 k n K RA) (R6 : ya_R6 k n K A c RA)
    (R7 : ya_R7 k n K A c RA) (R8 : ya_R8 k n K c RA) (R9 : ya_R9 k n K RA) (R10 : ya_R10 k n K A B st ar tb RA) (R11 : ya_R11 k n K A B st ar c tb RA) (R12 : ya_R12 k n K A B st ar c tb RA) : ∀ d, ya_S k n K A B st ar c D tb RA d := by
  intro d
  induction d with
  | zero => intro i e t p Z b r e0 e1 hd; exact absurd hd (Nat.not_lt_zero i)
  | succ d ih =>
    intro i e t p Z b r e0 e1 hd hi he hp h0 h1 h2 h3 ht hk
    rcases bd_10 (hb.1 i hi) with h | h | h | h | h | h | h | h | h | h
    · exact ya_s_lf R1 hi he hp h0 h2 h3 ht hk (Or.inl h)
    · exact ya_s_lf R1 hi he hp h0 h2 h3 ht hk (Or.inr (Or.inl h))
    · exact ya_s_lf R1 hi he hp h0 h2 h3 ht hk (Or.inr (Or.inr h))
    · exact ya_s_op hb hD hT R2 R3 R4 R6 ih hd hi he hp h0 h1 h2 h3 ht hk (Or.inl h) (by rw [hb.2.1 i, h]; exact bs_cc3 _)
    · exact ya_s_op hb hD hT R2 R3 R4 R6 ih hd hi he hp h0 h1 h2 h3 ht hk (Or.inr (Or.inl h)) (by rw [hb.2.1 i, h]; exact bs_cc4 _)
    · exact ya_s_op hb hD hT R2 R3 R4 R6 ih hd hi he hp h0 h1 h2 h3 ht hk (Or.inr (Or.inr (Or.inl h))) (by rw [hb.2.1 i, h]; exact bs_cc5 _)
    · exact ya_s_op hb hD hT R2 R3 R4 R6 ih hd hi he hp h0 h1 h2 h3 ht hk (Or.inr (Or.inr (Or.inr h))) (by rw [hb.2.1 i, h]; exact bs_cc6 _)
    · exact ya_s_isi hb hD hT R2 R3 R5 ih hd hi he hp h0 h1 h2 h3 ht hk h
    · exact ya_s_if hb hD hT R2 R3 R7 R8 R9 ih hd hi he hp h0 h1 h2 h3 ht hk h
    · exact ya_s_call hb hD hT R2 R3 R4 R10 R11 R12 ih hd hi he hp h0 h1 h2 h3 ht hk h
end

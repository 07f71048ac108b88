-- STEP looks at the defined slots alone
theorem sd_ch {c c' : Nat → Nat} {n i : Nat} (hc : ∀ i, i < n → c' i = c i) (hi : i < n) (j : Nat) : bs_ch c' i j = bs_ch c i j := by
  unfold bs_ch
  rw [hc i hi, bs_sc_congr i (fun q hq => hc q (by omega))]
theorem sd_nv_cg {K A K' A' : Nat → Int32} {p : Nat} {t : ty_T} {e : ab_E} (hK : K' p = K p) (hA : A' p = A p) : ab_nv K' A' p t e = ab_nv K A p t e := by
  unfold ab_nv
  rw [hK, hA]
theorem sd_bind {p : ab_O} {f g : ty_T × ab_E → ab_O} (h : ∀ x, f x = g x) : p.bind f = p.bind g := by
  cases p with
  | none => rfl
  | some x => exact h x
theorem sd_arg_cg {K A K' A' : Nat → Int32} {c c' : Nat → Nat} {i k : Nat} {r q : ty_T} {e : ab_E} {go go' : ab_E → ab_O} (hc : bs_ch c' i k = bs_ch c i k) (hK : K' (bs_ch c i k) = K (bs_ch c i k)) (hA : A' (bs_ch c i k) = A (bs_ch c i k))
    (hg : ∀ n, go' n = go n) : ab_arg K' A' c' i k r q e go' = ab_arg K A c i k r q e go := by
  unfold ab_arg
  rw [hc, sd_nv_cg hK hA, hg]
theorem sd_cg {N k n : Nat} {K A B st ar K' A' B' st' ar' : Nat → Int32} {c c' : Nat → Nat} {tb : Nat → ty_T} (hN : N ≤ 8) (hb : ab_bd N k n K A B c) (hK : ∀ i, i < n → K' i = K i ∧ A' i = A i ∧ B' i = B i) (hc : ∀ i, i < n → c' i = c i)
    (hf : ∀ g, g < N → (st' g = 2 ↔ st g = 2)) (ha : ∀ g, g < N → st g = 2 → ar' g = ar g) : ∀ d i e, i < n → ab_ev K' A' B' st' ar' c' tb d i e = ab_ev K A B st ar c tb d i e := by
  intro d
  induction d with
  | zero => intro i e _; rfl
  | succ d ih =>
    intro i e hi
    obtain ⟨k1, a1, b1⟩ := hK i hi
    have lf : (K i = 0 ∨ K i = 1 ∨ K i = 2) → ab_ev K' A' B' st' ar' c' tb (d + 1) i e = ab_ev K A B st ar c tb (d + 1) i e := by
      intro h
      rw [ab_ev_lf h, ab_ev_lf (by rw [k1]; exact h)]
      unfold ab_leaf
      rw [k1, a1]
    have op : (K i = 3 ∨ K i = 4 ∨ K i = 5 ∨ K i = 6) → ab_ev K' A' B' st' ar' c' tb (d + 1) i e = ab_ev K A B st ar c tb (d + 1) i e := by
      intro h
      have c2 : c i = 2 := by
        rw [hb.2.1 i]
        rcases h with h | h | h | h <;> rw [h]
        · exact bs_cc3 _
        · exact bs_cc4 _
        · exact bs_cc5 _
        · exact bs_cc6 _
      have p0 : bs_ch c i 0 < n := ab_ch hb hi (by omega)
      have p1 : bs_ch c i 1 < n := ab_ch hb hi (by omega)
      rw [ab_ev_op h, ab_ev_op (by rw [k1]; exact h)]
      unfold ab_op
      rw [sd_ch hc hi, sd_ch hc hi, ih _ _ p0]
      refine sd_bind fun x => ?_
      rw [ih _ _ p1]
      refine sd_bind fun y => ?_
      unfold ab_opf
      rw [k1, sd_ch hc hi, sd_ch hc hi, sd_nv_cg (hK _ p0).1 (hK _ p0).2.1, sd_nv_cg (hK _ p1).1 (hK _ p1).2.1]
    rcases bd_10 (hb.1 i hi) with h | h | h | h | h | h | h | h | h | h
    · exact lf (Or.inl h)
    · exact lf (Or.inr (Or.inl h))
    · exact lf (Or.inr (Or.inr h))
    · exact op (Or.inl h)
    · exact op (Or.inr (Or.inl h))
    · exact op (Or.inr (Or.inr (Or.inl h)))
    · exact op (Or.inr (Or.inr (Or.inr h)))
    · have c1 := ab_c7 hb h
      have p0 : bs_ch c i 0 < n := ab_ch hb hi (by omega)
      rw [ab_ev_isi h, ab_ev_isi (by rw [k1]; exact h)]
      unfold ab_isi
      rw [sd_ch hc hi, ih _ _ p0]
    · have c3 := ab_c8 hb h
      have p0 : bs_ch c i 0 < n := ab_ch hb hi (by omega)
      have p1 : bs_ch c i 1 < n := ab_ch hb hi (by omega)
      have p2 : bs_ch c i 2 < n := ab_ch hb hi (by omega)
      have th : ∀ t e', ab_th K' A' c' i t e' = ab_th K A c i t e' := by
        intro t e'
        unfold ab_th
        rw [sd_ch hc hi, sd_ch hc p0, (hK _ p0).1]
        split
        · next h7 =>
          have q := ab_ch hb p0 (show 0 < c (bs_ch c i 0) by rw [ab_c7 hb h7]; decide)
          rw [sd_nv_cg (hK _ p0).1 (hK _ p0).2.1, sd_nv_cg (hK _ q).1 (hK _ q).2.1]
        · rw [sd_nv_cg (hK _ p0).1 (hK _ p0).2.1]
      rw [ab_ev_if h, ab_ev_if (by rw [k1]; exact h)]
      unfold ab_if
      rw [sd_ch hc hi, sd_ch hc hi, sd_ch hc hi, ih _ _ p0]
      refine sd_bind fun x => ?_
      rw [th, th, ih _ _ p1, ih _ _ p2]
    · obtain ⟨a, al, ea⟩ := (hb.1 i hi).2.2.2.2.1 h
      have cl : (A i).toNatClampNeg = a := by rw [ea]; exact nI_clamp (by omega)
      have fits : ab_fits A' B' st' ar' i = ab_fits A B st ar i := by
        unfold ab_fits
        rw [a1, b1, cl]
        by_cases s : st a = 2
        · rw [decide_eq_true s, decide_eq_true ((hf a al).mpr s), ha a al s]
        · rw [decide_eq_false s, decide_eq_false (fun z => s ((hf a al).mp z))]
          rfl
      rw [ab_ev_call h, ab_ev_call (by rw [k1]; exact h)]
      unfold ab_call
      rw [b1]
      split
      · unfold ab_cl0
        rw [fits, a1]
      · next b0 =>
        split
        · next b1' =>
          have c1 := ab_cB1 hb h b1'
          have p0 : bs_ch c i 0 < n := ab_ch hb hi (by omega)
          rw [sd_ch hc hi, ih _ _ p0]
          refine sd_bind fun x => ?_
          unfold ab_cl1
          rw [fits, a1, sd_arg_cg (sd_ch hc hi 0) (hK _ p0).1 (hK _ p0).2.1 (fun _ => rfl)]
        · next b1' =>
          have c2 := (ab_cB2 hb hi h b0 b1').1
          have p0 : bs_ch c i 0 < n := ab_ch hb hi (by omega)
          have p1 : bs_ch c i 1 < n := ab_ch hb hi (by omega)
          rw [sd_ch hc hi, sd_ch hc hi, ih _ _ p0]
          refine sd_bind fun x => ?_
          rw [ih _ _ p1]
          refine sd_bind fun y => ?_
          unfold ab_cl2
          rw [fits, a1, sd_arg_cg (sd_ch hc hi 0) (hK _ p0).1 (hK _ p0).2.1 (fun _ => sd_arg_cg (sd_ch hc hi 1) (hK _ p1).1 (hK _ p1).2.1 (fun _ => rfl))]
/-- the same defined slots -/
def sd_same (N : Nat) (K A B K' A' B' : Nat → Nat → Int32) (st ar st' ar' : Nat → Int32) (sz sz' : Nat → Nat) : Prop :=
  (∀ g, g < N → (st' g = 2 ↔ st g = 2)) ∧ ∀ g, g < N → st g = 2 → ar' g = ar g ∧ sz' g = sz g ∧ ∀ i, i < sz g → K' g i = K g i ∧ A' g i = A g i ∧ B' g i = B g i
theorem sd_step {N : Nat} {K A B K' A' B' : Nat → Nat → Int32} {st ar st' ar' : Nat → Int32} {sz sz' : Nat → Nat} {tb : Nat → ty_T} (hN : N ≤ 8) (hp : sp_ok N K A B st ar sz) (h : sd_same N K A B K' A' B' st ar st' ar' sz sz') (q : Nat) :
    sp_step N K' A' B' st' ar' sz' tb q = sp_step N K A B st ar sz tb q := by
  unfold sp_step
  by_cases c : q < 3 * N ∧ st (q / 3) = 2
  · have g : q / 3 < N := by omega
    obtain ⟨e1, e2, e3⟩ := h.2 _ g c.2
    obtain ⟨k, hk, ek, z0, z1, hb⟩ := hp _ g c.2
    rw [if_pos c, if_pos ⟨c.1, (h.1 _ g).mpr c.2⟩, e1]
    have : sp_out K' A' B' st' ar' sz' tb (q / 3) = sp_out K A B st ar sz tb (q / 3) := by
      unfold sp_out
      rw [e2]
      refine sd_cg hN hb e3 (fun i hi => ?_) h.1 (fun g hg s => (h.2 g hg s).1) _ _ _ (by omega)
      show bs_cc (K' (q / 3) i) (B' (q / 3) i) = bs_cc (K (q / 3) i) (B (q / 3) i)
      rw [(e3 i hi).1, (e3 i hi).2.2]
    rw [this]
  · rw [if_neg c, if_neg]
    intro z
    exact c ⟨z.1, (h.1 _ (by omega)).mp z.2⟩

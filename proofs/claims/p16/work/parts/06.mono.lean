theorem bs_cc8 (b : Int32) : bs_cc 8 b = 3 := by
  unfold bs_cc; rw [if_neg (by decide), if_pos rfl]
theorem bs_cc7 (b : Int32) : bs_cc 7 b = 1 := by
  unfold bs_cc; rw [if_pos rfl]
theorem bs_cc9 (b : Int32) : bs_cc 9 b = b.toNatClampNeg := by
  unfold bs_cc; rw [if_neg (by decide), if_neg (by decide), if_pos rfl]
theorem bs_cc0 (b : Int32) : bs_cc 0 b = 0 := by
  unfold bs_cc; rw [if_neg (by decide), if_neg (by decide), if_neg (by decide), if_pos (by decide)]
theorem bs_cc1 (b : Int32) : bs_cc 1 b = 0 := by
  unfold bs_cc; rw [if_neg (by decide), if_neg (by decide), if_neg (by decide), if_pos (by decide)]
theorem bs_cc2 (b : Int32) : bs_cc 2 b = 0 := by
  unfold bs_cc; rw [if_neg (by decide), if_neg (by decide), if_neg (by decide), if_pos (by decide)]
theorem bs_cc3 (b : Int32) : bs_cc 3 b = 2 := by
  unfold bs_cc; rw [if_neg (by decide), if_neg (by decide), if_neg (by decide), if_neg (by decide)]
theorem bs_cc4 (b : Int32) : bs_cc 4 b = 2 := by
  unfold bs_cc; rw [if_neg (by decide), if_neg (by decide), if_neg (by decide), if_neg (by decide)]
theorem bs_cc5 (b : Int32) : bs_cc 5 b = 2 := by
  unfold bs_cc; rw [if_neg (by decide), if_neg (by decide), if_neg (by decide), if_neg (by decide)]
theorem bs_cc6 (b : Int32) : bs_cc 6 b = 2 := by
  unfold bs_cc; rw [if_neg (by decide), if_neg (by decide), if_neg (by decide), if_neg (by decide)]
/-- the ten kinds -/
theorem bd_10 {N k : Nat} {κ a b : Int32} (h : bd_nd N k κ a b) : κ = 0 ∨ κ = 1 ∨ κ = 2 ∨ κ = 3 ∨ κ = 4 ∨ κ = 5 ∨ κ = 6 ∨ κ = 7 ∨ κ = 8 ∨ κ = 9 := by
  obtain ⟨⟨q, hq, rfl⟩, _⟩ := h
  have : q = 0 ∨ q = 1 ∨ q = 2 ∨ q = 3 ∨ q = 4 ∨ q = 5 ∨ q = 6 ∨ q = 7 ∨ q = 8 ∨ q = 9 := by omega
  rcases this with rfl | rfl | rfl | rfl | rfl | rfl | rfl | rfl | rfl | rfl <;> decide
/-- a body: its first n rows are well made -/
def ab_bd (N k n : Nat) (K A B : Nat → Int32) (c : Nat → Nat) : Prop :=
  (∀ i, i < n → bd_nd N k (K i) (A i) (B i)) ∧ (∀ i, c i = bs_cc (K i) (B i)) ∧ bs_wf c n
theorem ab_c2 {N k n : Nat} {K A B : Nat → Int32} {c : Nat → Nat} (hb : ab_bd N k n K A B c) {i : Nat} (hi : i < n)
    (h0 : ¬ K i = 0) (h1 : ¬ K i = 1) (h2 : ¬ K i = 2) (h8 : ¬ K i = 8) (h9 : ¬ K i = 9) (h7 : ¬ K i = 7) : c i = 2 := by
  rw [hb.2.1 i]
  rcases bd_10 (hb.1 i hi) with h | h | h | h | h | h | h | h | h | h
  · exact absurd h h0
  · exact absurd h h1
  · exact absurd h h2
  · rw [h]; exact bs_cc3 _
  · rw [h]; exact bs_cc4 _
  · rw [h]; exact bs_cc5 _
  · rw [h]; exact bs_cc6 _
  · exact absurd h h7
  · exact absurd h h8
  · exact absurd h h9
theorem ab_c8 {N k n : Nat} {K A B : Nat → Int32} {c : Nat → Nat} (hb : ab_bd N k n K A B c) {i : Nat} (h : K i = 8) : c i = 3 := by
  rw [hb.2.1 i, h]; exact bs_cc8 _
theorem ab_c7 {N k n : Nat} {K A B : Nat → Int32} {c : Nat → Nat} (hb : ab_bd N k n K A B c) {i : Nat} (h : K i = 7) : c i = 1 := by
  rw [hb.2.1 i, h]; exact bs_cc7 _
theorem ab_c9 {N k n : Nat} {K A B : Nat → Int32} {c : Nat → Nat} (hb : ab_bd N k n K A B c) {i : Nat} (h : K i = 9) : c i = (B i).toNatClampNeg := by
  rw [hb.2.1 i, h]; exact bs_cc9 _
theorem ab_B {N k n : Nat} {K A B : Nat → Int32} {c : Nat → Nat} (hb : ab_bd N k n K A B c) {i : Nat} (hi : i < n) : B i = 0 ∨ B i = 1 ∨ B i = 2 := by
  obtain ⟨w, hw, e⟩ := (hb.1 i hi).2.2.2.2.2.1
  have : w = 0 ∨ w = 1 ∨ w = 2 := by omega
  rcases this with rfl | rfl | rfl <;> rw [e] <;> decide
theorem ab_c3 {N k n : Nat} {K A B : Nat → Int32} {c : Nat → Nat} (hb : ab_bd N k n K A B c) {i : Nat} (hi : i < n) : c i ≤ 3 := by
  rw [hb.2.1 i]
  rcases bd_10 (hb.1 i hi) with z | z | z | z | z | z | z | z | z | z <;> rw [z]
  · rw [bs_cc0]; decide
  · rw [bs_cc1]; decide
  · rw [bs_cc2]; decide
  · rw [bs_cc3]; decide
  · rw [bs_cc4]; decide
  · rw [bs_cc5]; decide
  · rw [bs_cc6]; decide
  · rw [bs_cc7]; decide
  · rw [bs_cc8]; decide
  · rw [bs_cc9]
    rcases ab_B hb hi with y | y | y <;> rw [y] <;> decide
theorem ab_ch {N k n : Nat} {K A B : Nat → Int32} {c : Nat → Nat} (hb : ab_bd N k n K A B c) {i j : Nat} (hi : i < n) (hj : j < c i) : bs_ch c i j < n :=
  Nat.lt_trans (bs_ch_lt hb.2.2 hi hj) hi
theorem ab_cB1 {N k n : Nat} {K A B : Nat → Int32} {c : Nat → Nat} (hb : ab_bd N k n K A B c) {i : Nat} (h : K i = 9) (h1 : B i = 1) : c i = 1 := by
  rw [ab_c9 hb h, h1]; decide
theorem ab_cB2 {N k n : Nat} {K A B : Nat → Int32} {c : Nat → Nat} (hb : ab_bd N k n K A B c) {i : Nat} (hi : i < n) (h : K i = 9) (h0 : ¬ B i = 0) (h1 : ¬ B i = 1) : c i = 2 ∧ B i = 2 := by
  rcases ab_B hb hi with z | z | z
  · exact absurd z h0
  · exact absurd z h1
  · rw [ab_c9 hb h, z]; decide
theorem ab_var {N k n : Nat} {K A B : Nat → Int32} {c : Nat → Nat} (hb : ab_bd N k n K A B c) {i : Nat} (hi : i < n) : K i = 2 → ∃ j : Nat, j < k ∧ A i = nI j := (hb.1 i hi).2.2.2.1
theorem ab_th_eo {N k n : Nat} {K A B : Nat → Int32} {c : Nat → Nat} (hb : ab_bd N k n K A B c) {i : Nat} (hi : i < n) (h8 : K i = 8) {t : ty_T} (ht : ty_ok t) {e : ab_E} (he : ab_eo k e) : ab_eo k (ab_th K A c i t e) := by
  have h3 := ab_c8 hb h8
  have hc := ab_ch hb hi (j := 0) (by omega)
  have h := ab_nv_eo (t := ty_bool) (ab_var hb hc) ty_bool_ok he
  unfold ab_th
  split
  · next z => exact ab_nv_eo (ab_var hb (ab_ch hb hc (j := 0) (by rw [ab_c7 hb z]; decide))) ht h
  · exact h
theorem ab_th_le {K A : Nat → Int32} {c : Nat → Nat} {i : Nat} {t : ty_T} {e e' : ab_E} (h : ab_el e e') : ab_el (ab_th K A c i t e) (ab_th K A c i t e') := by
  have h := ab_nv_le (K := K) (A := A) (p := bs_ch c i 0) (ty_le_rfl ty_bool) h
  unfold ab_th
  split
  · exact ab_nv_le (ty_le_rfl t) h
  · exact h
theorem ab_pow_ok {j : Nat} (h : j < 8) : ty_ok (2 ^ j, 0, 0) := ⟨Nat.pow_lt_pow_right (by decide) h, Or.inl ⟨rfl, rfl⟩⟩
theorem ab_lit_ok {m : Nat} (h : m < 256) : ty_ok (m, 0, 0) := ⟨h, Or.inl ⟨rfl, rfl⟩⟩
theorem ab_arg_po {N k n : Nat} {K A B : Nat → Int32} {c : Nat → Nat} (hb : ab_bd N k n K A B c) {i j : Nat} (hi : i < n) (hj : j < c i) {r q : ty_T} (hq : ty_ok q) {e : ab_E} (he : ab_eo k e) {go : ab_E → ab_O}
    (hg : ∀ e, ab_eo k e → ab_po k (go e)) : ab_po k (ab_arg K A c i j r q e go) := by
  unfold ab_arg
  split
  · exact ab_none_po k
  · exact hg _ (ab_nv_eo (ab_var hb (ab_ch hb hi hj)) hq he)
theorem ab_arg_le {K A : Nat → Int32} {c : Nat → Nat} {i j : Nat} {r q r' q' : ty_T} (hr : ty_le r r') (hq : ty_le q q') {e e' : ab_E} (he : ab_el e e') {go go' : ab_E → ab_O}
    (hg : ∀ e e', ab_el e e' → ab_le (go e) (go' e')) : ab_le (ab_arg K A c i j r q e go) (ab_arg K A c i j r' q' e' go') := by
  unfold ab_arg
  split
  · exact ab_none_le _
  · next z =>
    rw [if_neg (ty_le_ne (ty_meet_le hr hq) z)]
    exact hg _ _ (ab_nv_le hq he)
theorem ab_ev_po {N k n : Nat} {K A B st ar : Nat → Int32} {c : Nat → Nat} {tb : Nat → ty_T} (hb : ab_bd N k n K A B c) (ht : ∀ q, ty_ok (tb q)) :
    ∀ d i e, i < n → ab_eo k e → ab_po k (ab_ev K A B st ar c tb d i e) := by
  intro d
  induction d with
  | zero => intro i e _ _; exact ab_none_po k
  | succ d ih =>
    intro i e hi he
    show ab_po k (ab_node K A B st ar c tb (ab_ev K A B st ar c tb d) i e)
    unfold ab_node
    split
    · exact ab_fin_po (ty_r_ok (Int.le_refl _)) he
    · split
      · next h1 =>
        obtain ⟨j, hj, ej⟩ := (hb.1 i hi).2.2.1 h1
        rw [ej, nI_clamp (by omega)]
        exact ab_fin_po (ab_pow_ok hj) he
      · split
        · refine ab_fin_po ?_ he
          split
          · exact he.1
          · exact he.2.1
        · split
          · next h8 =>
            have h3 := ab_c8 hb h8
            unfold ab_if
            exact ab_bind_po (ih _ _ (ab_ch hb hi (by omega)) he) fun x hx => ab_jn_po
              (ab_gd_po (ih _ _ (ab_ch hb hi (by omega)) (ab_th_eo hb hi h8 ty_ints_ok hx.2.2.1)))
              (ab_gd_po (ih _ _ (ab_ch hb hi (by omega)) (ab_th_eo hb hi h8 ty_ats_ok hx.2.2.1)))
          · split
            · next h9 =>
              unfold ab_call
              split
              · exact ab_gd_po (ab_fin_po (ht _) he)
              · split
                · next b1 =>
                  have hc := ab_cB1 hb h9 b1
                  exact ab_bind_po (ih _ _ (ab_ch hb hi (by omega)) he) fun x hx => ab_gd_po
                    (ab_arg_po hb hi (by omega) (ht _) hx.2.2.1 fun n hn => ab_fin_po (ht _) hn)
                · next b0 b1 =>
                  have hc := (ab_cB2 hb hi h9 b0 b1).1
                  exact ab_bind_po (ih _ _ (ab_ch hb hi (by omega)) he) fun x hx =>
                    ab_bind_po (ih _ _ (ab_ch hb hi (by omega)) hx.2.2.1) fun y hy => ab_gd_po
                      (ab_arg_po hb hi (by omega) (ht _) hy.2.2.1 fun n hn => ab_arg_po hb hi (by omega) (ht _) hn fun n hn => ab_fin_po (ht _) hn)
            · split
              · next h7 =>
                have hc := ab_c7 hb h7
                unfold ab_isi
                refine ab_bind_po (ih _ _ (ab_ch hb hi (by omega)) he) fun x hx => ab_fin_po (ab_lit_ok ?_) hx.2.2.1
                split <;> split <;> decide
              · next h0 h1 h2 h8 h9 h7 =>
                have hc := ab_c2 hb hi h0 h1 h2 h8 h9 h7
                unfold ab_op
                refine ab_bind_po (ih _ _ (ab_ch hb hi (by omega)) he) fun x hx => ab_bind_po (ih _ _ (ab_ch hb hi (by omega)) hx.2.2.1) fun y hy => ?_
                unfold ab_opf
                split
                · refine ab_fin_po (ab_lit_ok ?_) hy.2.2.1
                  split <;> decide
                · split
                  · exact ab_none_po k
                  · next z =>
                    exact ab_fin_po (ab_num_ok hx.1 hy.1 (fun e => z (Or.inl e)) (fun e => z (Or.inr e)))
                      (ab_nv_eo (ab_var hb (ab_ch hb hi (by omega))) ty_ints_ok (ab_nv_eo (ab_var hb (ab_ch hb hi (by omega))) ty_ints_ok hy.2.2.1))
/-- a larger table and larger parameter types: a larger outcome -/
theorem ab_ev_le {N k n : Nat} {K A B st ar : Nat → Int32} {c : Nat → Nat} {tb tb' : Nat → ty_T} (hb : ab_bd N k n K A B c) (ht' : ∀ q, ty_ok (tb' q)) (hl : ∀ q, ty_le (tb q) (tb' q)) :
    ∀ d i e e', i < n → ab_eo k e' → ab_el e e' → ab_le (ab_ev K A B st ar c tb d i e) (ab_ev K A B st ar c tb' d i e') := by
  intro d
  induction d with
  | zero => intro i e e' _ _ _; exact ab_none_le _
  | succ d ih =>
    intro i e e' hi he' h
    have po := ab_ev_po (st := st) (ar := ar) hb ht' d
    show ab_le (ab_node K A B st ar c tb (ab_ev K A B st ar c tb d) i e) (ab_node K A B st ar c tb' (ab_ev K A B st ar c tb' d) i e')
    unfold ab_node
    split
    · exact ab_fin_le (ty_le_rfl _) h
    · split
      · exact ab_fin_le (ty_le_rfl _) h
      · split
        · refine ab_fin_le ?_ h
          split
          · exact h.1
          · exact h.2
        · split
          · next h8 =>
            have h3 := ab_c8 hb h8
            unfold ab_if
            have c0 := ab_ch hb hi (j := 0) (by omega)
            have c1 := ab_ch hb hi (j := 1) (by omega)
            have c2 := ab_ch hb hi (j := 2) (by omega)
            refine ab_bind_le (ih _ _ _ c0 he' h) fun x y _ hy hxy => ?_
            have gy := (po _ _ c0 he' y hy).2.2.1
            exact ab_jn_le (ab_gd_le (hxy.1.1 1) (ih _ _ _ c1 (ab_th_eo hb hi h8 ty_ints_ok gy) (ab_th_le hxy.2)))
              (ab_gd_le (hxy.1.1 0) (ih _ _ _ c2 (ab_th_eo hb hi h8 ty_ats_ok gy) (ab_th_le hxy.2)))
          · split
            · next h9 =>
              unfold ab_call
              split
              · exact ab_gd_le id (ab_fin_le (hl _) h)
              · split
                · next b1 =>
                  have hc := ab_cB1 hb h9 b1
                  have c0 := ab_ch hb hi (j := 0) (by omega)
                  exact ab_bind_le (ih _ _ _ c0 he' h) fun x y _ hy hxy => ab_gd_le id
                    (ab_arg_le hxy.1 (hl _) hxy.2 fun n n' hn => ab_fin_le (hl _) hn)
                · next b0 b1 =>
                  have hc := (ab_cB2 hb hi h9 b0 b1).1
                  have c0 := ab_ch hb hi (j := 0) (by omega)
                  have c1 := ab_ch hb hi (j := 1) (by omega)
                  exact ab_bind_le (ih _ _ _ c0 he' h) fun x x' _ hx' hx =>
                    ab_bind_le (ih _ _ _ c1 (po _ _ c0 he' x' hx').2.2.1 hx.2) fun y y' _ hy' hy => ab_gd_le id
                      (ab_arg_le hx.1 (hl _) hy.2 fun n n' hn => ab_arg_le hy.1 (hl _) hn fun n n' hn => ab_fin_le (hl _) hn)
            · split
              · next h7 =>
                have hc := ab_c7 hb h7
                have c0 := ab_ch hb hi (j := 0) (by omega)
                unfold ab_isi
                refine ab_bind_le (ih _ _ _ c0 he' h) fun x y _ hy hxy => ab_fin_le (ty_le_m (ty_ms_lit ?_)) hxy.2
                by_cases p : x.1.1 = 0
                · rw [if_pos p]
                  by_cases q : x.1.2.1 = 0
                  · rw [if_pos q]; exact Nat.zero_and _
                  · rw [if_neg q, if_neg (show ¬ y.1.2.1 = 0 from fun z => q (by have := hxy.1.2.1; omega))]
                    split <;> decide
                · rw [if_neg p, if_neg (ty_ms_ne hxy.1.1 p)]
                  by_cases q : x.1.2.1 = 0
                  · rw [if_pos q]; split <;> decide
                  · rw [if_neg q, if_neg (show ¬ y.1.2.1 = 0 from fun z => q (by have := hxy.1.2.1; omega))]; decide
              · next h0 h1 h2 h8 h9 h7 =>
                have hc := ab_c2 hb hi h0 h1 h2 h8 h9 h7
                have c0 := ab_ch hb hi (j := 0) (by omega)
                have c1 := ab_ch hb hi (j := 1) (by omega)
                unfold ab_op
                refine ab_bind_le (ih _ _ _ c0 he' h) fun x x' _ hx' hx => ?_
                have gx := po _ _ c0 he' x' hx'
                refine ab_bind_le (ih _ _ _ c1 gx.2.2.1 hx.2) fun y y' _ hy' hy => ?_
                have gy := po _ _ c1 gx.2.2.1 y' hy'
                unfold ab_opf
                split
                · refine ab_fin_le (ty_le_m (ty_ms_lit ?_)) hy.2
                  by_cases p : ty_meet x.1 y.1 = ty_0
                  · rw [if_pos p]; split <;> decide
                  · rw [if_neg p, if_neg (ty_le_ne (ty_meet_le hx.1 hy.1) p)]; decide
                · split
                  · exact ab_none_le _
                  · next z =>
                    have l1 := hx.1.2.1
                    have l2 := hy.1.2.1
                    rw [if_neg (show ¬ (x'.1.2.1 = 0 ∨ y'.1.2.1 = 0) from fun q => z (by omega))]
                    exact ab_fin_le (ab_num_le gx.1 gy.1 hx.1 hy.1) (ab_nv_le (ty_le_rfl _) (ab_nv_le (ty_le_rfl _) hy.2))
/-- nothing comes of an empty parameter type -/
theorem ab_fin_dead {r : ty_T} {e : ab_E} (h : e.1 = ty_0 ∨ e.2 = ty_0) : ab_fin r e = none := by
  unfold ab_fin; rw [if_pos (Or.inr h)]
theorem ab_dead {K A B st ar : Nat → Int32} {c : Nat → Nat} {tb : Nat → ty_T} : ∀ d i e, (e.1 = ty_0 ∨ e.2 = ty_0) → ab_ev K A B st ar c tb d i e = none := by
  intro d
  induction d with
  | zero => intro i e _; rfl
  | succ d ih =>
    intro i e h
    show ab_node K A B st ar c tb (ab_ev K A B st ar c tb d) i e = none
    unfold ab_node ab_if ab_call ab_isi ab_op ab_cl0
    simp only [ih _ e h, ab_fin_dead h, Option.bind_none, ab_gd, ite_self]
-- the evaluation, kind by kind
section
variable {K A B st ar : Nat → Int32} {c : Nat → Nat} {tb : Nat → ty_T} {d i : Nat} {e : ab_E}
theorem ab_ev_lf (h : K i = 0 ∨ K i = 1 ∨ K i = 2) : ab_ev K A B st ar c tb (d + 1) i e = ab_leaf K A i e := by
  show ab_node K A B st ar c tb (ab_ev K A B st ar c tb d) i e = _
  unfold ab_node ab_leaf
  by_cases h0 : K i = 0
  · rw [if_pos h0, if_pos h0]
  · rw [if_neg h0, if_neg h0]
    by_cases h1 : K i = 1
    · rw [if_pos h1, if_pos h1]
    · rw [if_neg h1, if_neg h1, if_pos ((h.resolve_left h0).resolve_left h1)]
theorem ab_ev_if (h : K i = 8) : ab_ev K A B st ar c tb (d + 1) i e = ab_if K A c (ab_ev K A B st ar c tb d) i e := by
  show ab_node K A B st ar c tb (ab_ev K A B st ar c tb d) i e = _
  unfold ab_node
  rw [if_neg (by rw [h]; decide), if_neg (by rw [h]; decide), if_neg (by rw [h]; decide), if_pos h]
theorem ab_ev_call (h : K i = 9) : ab_ev K A B st ar c tb (d + 1) i e = ab_call K A B st ar c tb (ab_ev K A B st ar c tb d) i e := by
  show ab_node K A B st ar c tb (ab_ev K A B st ar c tb d) i e = _
  unfold ab_node
  rw [if_neg (by rw [h]; decide), if_neg (by rw [h]; decide), if_neg (by rw [h]; decide), if_neg (by rw [h]; decide), if_pos h]
theorem ab_ev_isi (h : K i = 7) : ab_ev K A B st ar c tb (d + 1) i e = ab_isi c (ab_ev K A B st ar c tb d) i e := by
  show ab_node K A B st ar c tb (ab_ev K A B st ar c tb d) i e = _
  unfold ab_node
  rw [if_neg (by rw [h]; decide), if_neg (by rw [h]; decide), if_neg (by rw [h]; decide), if_neg (by rw [h]; decide), if_neg (by rw [h]; decide), if_pos h]
theorem ab_ev_op (h : K i = 3 ∨ K i = 4 ∨ K i = 5 ∨ K i = 6) : ab_ev K A B st ar c tb (d + 1) i e = ab_op K A c (ab_ev K A B st ar c tb d) i e := by
  show ab_node K A B st ar c tb (ab_ev K A B st ar c tb d) i e = _
  unfold ab_node
  rcases h with h | h | h | h <;>
    rw [if_neg (by rw [h]; decide), if_neg (by rw [h]; decide), if_neg (by rw [h]; decide), if_neg (by rw [h]; decide), if_neg (by rw [h]; decide), if_neg (by rw [h]; decide)]
end

/-- the component's abstract evaluation, one pass over the rows: arrays 0 nodeTypes, 1 paramsAfter, 2 params -/
def xa_ty (o : ab_O) : ty_T := match o with
  | none => ty_0
  | some x => x.1
def xa_en (o : ab_O) : ab_E := match o with
  | none => (ty_0, ty_0)
  | some x => x.2
def xa_st (Z : Nat → Nat → Int32) (r : Nat) (o : ab_O) : Prop := Z 0 r = ty_x (xa_ty o) ∧ Z 1 (r * 2) = ty_x (xa_en o).1 ∧ Z 1 (r * 2 + 1) = ty_x (xa_en o).2
def xa_cu (Z : Nat → Nat → Int32) (e : ab_E) : Prop := Z 2 0 = ty_x e.1 ∧ Z 2 1 = ty_x e.2
/-- nothing changed but rows lo to hi, and the parameters -/
def xa_ag (lo hi : Nat) (Z Z' : Nat → Nat → Int32) : Prop := (∀ j, (j < lo ∨ hi < j) → Z' 0 j = Z 0 j) ∧ (∀ j, (j < lo * 2 ∨ hi * 2 + 1 < j) → Z' 1 j = Z 1 j)
def xa_dd (e : ab_E) : Prop := e.1 = ty_0 ∨ e.2 = ty_0
def xa_eo (k : Nat) (e : ab_E) : Prop := ty_ok e.1 ∧ ty_ok e.2 ∧ (ab_eo k e ∨ xa_dd e)
theorem xa_ag_r (lo hi : Nat) (Z : Nat → Nat → Int32) : xa_ag lo hi Z Z := ⟨fun _ _ => rfl, fun _ _ => rfl⟩
theorem xa_ag_t {a b lo hi lo' hi' : Nat} {Z Z' Z'' : Nat → Nat → Int32} (h : xa_ag lo hi Z Z') (g : xa_ag lo' hi' Z' Z'') (h1 : a ≤ lo) (h2 : hi ≤ b) (h3 : a ≤ lo') (h4 : hi' ≤ b) : xa_ag a b Z Z'' :=
  ⟨fun j hj => (g.1 j (by omega)).trans (h.1 j (by omega)), fun j hj => (g.2 j (by omega)).trans (h.2 j (by omega))⟩
theorem xa_ag_w {a b lo hi : Nat} {Z Z' : Nat → Nat → Int32} (h : xa_ag lo hi Z Z') (h1 : a ≤ lo) (h2 : hi ≤ b) : xa_ag a b Z Z' := ⟨fun j hj => h.1 j (by omega), fun j hj => h.2 j (by omega)⟩
theorem xa_st_k {lo hi r : Nat} {Z Z' : Nat → Nat → Int32} {o : ab_O} (h : xa_st Z r o) (g : xa_ag lo hi Z Z') (hr : r < lo ∨ hi < r) : xa_st Z' r o :=
  ⟨(g.1 r hr).trans h.1, (g.2 _ (by omega)).trans h.2.1, (g.2 _ (by omega)).trans h.2.2⟩
theorem xa_st_e {r : Nat} {Z Z' : Nat → Nat → Int32} {o : ab_O} (h0 : Z' 0 = Z 0) (h1 : Z' 1 = Z 1) (h : xa_st Z r o) : xa_st Z' r o := by
  unfold xa_st; rw [h0, h1]; exact h
theorem xa_00 : ty_x ty_0 = 0 := ty_x_00
theorem xa_ty_ok {k : Nat} {o : ab_O} (h : ab_po k o) : ty_ok (xa_ty o) := by
  cases o with
  | none => exact ty_0_ok
  | some x => exact (h x rfl).1
theorem xa_en_eo {k : Nat} {o : ab_O} (h : ab_po k o) : xa_eo k (xa_en o) := by
  cases o with
  | none => exact ⟨ty_0_ok, ty_0_ok, Or.inr (Or.inl rfl)⟩
  | some x =>
    have := (h x rfl).2.2.1
    exact ⟨this.1, this.2.1, Or.inl this⟩
theorem xa_po {N k n : Nat} {K A B st ar : Nat → Int32} {c : Nat → Nat} {tb : Nat → ty_T} (hb : ab_bd N k n K A B c) (ht : ∀ q, ty_ok (tb q)) (d i : Nat) (e : ab_E) (hi : i < n) (he : xa_eo k e) : ab_po k (ab_ev K A B st ar c tb d i e) := by
  rcases he.2.2 with h | h
  · exact ab_ev_po hb ht d i e hi h
  · rw [ab_dead d i e h]; exact ab_none_po k
theorem xa_nv_0 (K A : Nat → Int32) (p : Nat) (t : ty_T) : ab_nv K A p t (ty_0, ty_0) = (ty_0, ty_0) := by
  unfold ab_nv
  simp only [ty_meet_0, ite_self]
theorem xa_fin_0 (r : ty_T) : ab_fin r (ty_0, ty_0) = none := ab_fin_dead (Or.inl rfl)
section
variable (k n S : Nat) (K A B st ar : Nat → Int32) (c : Nat → Nat) (tb : Nat → ty_T) (XA XT : Nat → (Nat → Nat → Int32) → Prop)
def xa_c (Z : Nat → Nat → Int32) (i : Nat) (o : ab_O) : Prop := ∀ Z', xa_ag (S + i) (S + i) Z Z' → xa_st Z' (S + i) o → xa_cu Z' (xa_en o) → XT (S + i) Z'
def xa_e (e : ab_E) : Prop := ty_ok e.1 ∧ ty_ok e.2
def xa_X1 : Prop := ∀ (i : Nat) (e : ab_E) (Z : Nat → Nat → Int32), i < n → (K i = 0 ∨ K i = 1 ∨ K i = 2) → xa_e e → xa_cu Z e → xa_c S XT Z i (ab_leaf K A i e) → XA (S + i) Z
def xa_X2 : Prop := ∀ (i : Nat) (x y : ty_T) (e : ab_E) (Z : Nat → Nat → Int32), i < n → (K i = 3 ∨ K i = 4 ∨ K i = 5 ∨ K i = 6) → ty_ok x → ty_ok y → xa_e e → xa_cu Z e →
  Z 0 (S + bs_ch c i 0) = ty_x x → Z 0 (S + bs_ch c i 1) = ty_x y → xa_c S XT Z i (ab_opf K A c i x y e) → XA (S + i) Z
def xa_X3 : Prop := ∀ (i : Nat) (x : ty_T) (e : ab_E) (Z : Nat → Nat → Int32), i < n → K i = 7 → ty_ok x → xa_e e → xa_cu Z e →
  Z 0 (S + bs_ch c i 0) = ty_x x → xa_c S XT Z i (ab_fin ((if x.1 = 0 then 0 else 1) + (if x.2.1 = 0 then 0 else 2), 0, 0) e) → XA (S + i) Z
def xa_X4 : Prop := ∀ (i : Nat) (o o' : ab_O) (Z : Nat → Nat → Int32), i < n → K i = 8 → ab_po k o → ab_po k o' → xa_st Z (S + bs_ch c i 1) o → xa_st Z (S + bs_ch c i 2) o' → xa_c S XT Z i (ab_jn o o') → XA (S + i) Z
def xa_X5 : Prop := ∀ (i : Nat) (e : ab_E) (Z : Nat → Nat → Int32), i < n → K i = 9 → B i = 0 → xa_e e → xa_cu Z e → xa_c S XT Z i (ab_cl0 A B st ar tb i e) → XA (S + i) Z
def xa_X6 : Prop := ∀ (i : Nat) (x : ty_T) (e : ab_E) (Z : Nat → Nat → Int32), i < n → K i = 9 → B i = 1 → ty_ok x → xa_e e → xa_cu Z e →
  Z 0 (S + bs_ch c i 0) = ty_x x → xa_c S XT Z i (ab_cl1 K A B st ar c tb i x e) → XA (S + i) Z
def xa_X7 : Prop := ∀ (i : Nat) (x y : ty_T) (e : ab_E) (Z : Nat → Nat → Int32), i < n → K i = 9 → B i = 2 → ty_ok x → ty_ok y → xa_e e → xa_cu Z e →
  Z 0 (S + bs_ch c i 0) = ty_x x → Z 0 (S + bs_ch c i 1) = ty_x y → xa_c S XT Z i (ab_cl2 K A B st ar c tb i x y e) → XA (S + i) Z
/-- behind a row that no branch hangs on -/
def xa_T1 : Prop := ∀ (i j : Nat) (Z : Nat → Nat → Int32), i < n → j < c i → (K i = 8 → j = 2) → XA (S + bs_ch c i j + 1) Z → XT (S + bs_ch c i j) Z
def xa_br (b : Bool) (e : ab_E) : ab_E := if b = true then e else (ty_0, e.2)
def xa_T2 : Prop := ∀ (i : Nat) (o : ab_O) (Z : Nat → Nat → Int32), i < n → K i = 8 → ab_po k o → xa_st Z (S + bs_ch c i 0) o →
  (∀ Z', Z' 0 = Z 0 → Z' 1 = Z 1 → xa_cu Z' (xa_br ((xa_ty o).1.testBit 1) (ab_th K A c i ty_ints (xa_en o))) → XA (S + bs_ch c i 0 + 1) Z') → XT (S + bs_ch c i 0) Z
def xa_T3 : Prop := ∀ (i : Nat) (o : ab_O) (Z : Nat → Nat → Int32), i < n → K i = 8 → ab_po k o → xa_st Z (S + bs_ch c i 0) o →
  (∀ Z', Z' 0 = Z 0 → Z' 1 = Z 1 → xa_cu Z' (xa_br ((xa_ty o).1.testBit 0) (ab_th K A c i ty_ats (xa_en o))) → XA (S + bs_ch c i 1 + 1) Z') → XT (S + bs_ch c i 1) Z
def xa_S (d : Nat) : Prop := ∀ (i : Nat) (e : ab_E) (Z : Nat → Nat → Int32), i < d → i < n → xa_eo k e → xa_cu Z e →
  (∀ Z', xa_ag (S + bs_ss c i) (S + i) Z Z' → xa_st Z' (S + i) (ab_ev K A B st ar c tb d i e) → xa_cu Z' (xa_en (ab_ev K A B st ar c tb d i e)) → XT (S + i) Z') → XA (S + bs_ss c i) Z
end
section
variable {N k n S : Nat} {K A B st ar : Nat → Int32} {c : Nat → Nat} {tb : Nat → ty_T} {XA XT : Nat → (Nat → Nat → Int32) → Prop}
theorem xa_opf_0 (i : Nat) (x y : ty_T) : ab_opf K A c i x y (ty_0, ty_0) = none := by
  unfold ab_opf
  simp only [xa_nv_0, xa_fin_0, ite_self]
theorem xa_cl1_0 (i : Nat) (x : ty_T) : ab_cl1 K A B st ar c tb i x (ty_0, ty_0) = none := by
  unfold ab_cl1 ab_arg ab_gd
  simp only [xa_nv_0, xa_fin_0, ite_self]
theorem xa_cl2_0 (i : Nat) (x y : ty_T) : ab_cl2 K A B st ar c tb i x y (ty_0, ty_0) = none := by
  unfold ab_cl2 ab_arg ab_gd
  simp only [xa_nv_0, xa_fin_0, ite_self]
theorem xa_ev_0 (d i : Nat) : ab_ev K A B st ar c tb d i (ty_0, ty_0) = none := ab_dead d i _ (Or.inl rfl)
/-- two children, one after the other, then the row's own outcome -/
theorem xa_two (ev : Nat → ab_E → ab_O) (h0 : ∀ i, ev i (ty_0, ty_0) = none) (f : ty_T → ty_T → ab_E → ab_O) (hf : ∀ x y, f x y (ty_0, ty_0) = none) (i j : Nat) (e : ab_E) :
    ((ev i e).bind fun x => (ev j x.2).bind fun y => f x.1 y.1 y.2) = f (xa_ty (ev i e)) (xa_ty (ev j (xa_en (ev i e)))) (xa_en (ev j (xa_en (ev i e)))) := by
  cases ho : ev i e with
  | none =>
    show none = f ty_0 (xa_ty (ev j (ty_0, ty_0))) (xa_en (ev j (ty_0, ty_0)))
    rw [h0 j]
    exact (hf _ _).symm
  | some x =>
    show ((ev j x.2).bind fun y => f x.1 y.1 y.2) = f x.1 (xa_ty (ev j x.2)) (xa_en (ev j x.2))
    cases hy : ev j x.2 with
    | none => exact (hf _ _).symm
    | some y => rfl
theorem xa_one (ev : Nat → ab_E → ab_O) (f : ty_T → ab_E → ab_O) (hf : ∀ x, f x (ty_0, ty_0) = none) (i : Nat) (e : ab_E) :
    ((ev i e).bind fun x => f x.1 x.2) = f (xa_ty (ev i e)) (xa_en (ev i e)) := by
  cases ho : ev i e with
  | none => exact (hf _).symm
  | some x => rfl
theorem xa_eo_e {k : Nat} {e : ab_E} (h : xa_eo k e) : xa_e e := ⟨h.1, h.2.1⟩
theorem xa_br_eo {k : Nat} {b : Bool} {e : ab_E} (h : xa_eo k e) : xa_eo k (xa_br b e) := by
  unfold xa_br
  split
  · exact h
  · exact ⟨ty_0_ok, h.2.1, Or.inr (Or.inl rfl)⟩
theorem xa_nv_eo {K A : Nat → Int32} {k p : Nat} {t : ty_T} {e : ab_E} (hp : K p = 2 → ∃ j : Nat, j < k ∧ A p = nI j) (ht : ty_ok t) (h : xa_eo k e) : xa_eo k (ab_nv K A p t e) := by
  obtain ⟨h1, h2, h3⟩ := h
  rcases h3 with h3 | h3
  · have := ab_nv_eo hp ht h3
    exact ⟨this.1, this.2.1, Or.inl this⟩
  · unfold ab_nv
    split
    · split
      · refine ⟨ty_meet_ok h1 ht, h2, Or.inr ?_⟩
        rcases h3 with z | z
        · left; show ty_meet e.1 t = ty_0; rw [z]; exact ty_meet_0 t
        · right; exact z
      · refine ⟨h1, ty_meet_ok h2 ht, Or.inr ?_⟩
        rcases h3 with z | z
        · left; exact z
        · right; show ty_meet e.2 t = ty_0; rw [z]; exact ty_meet_0 t
    · exact ⟨h1, h2, Or.inr h3⟩
theorem xa_th_eo (hb : ab_bd N k n K A B c) {i : Nat} (hi : i < n) (h8 : K i = 8) {t : ty_T} (ht : ty_ok t) {e : ab_E} (he : xa_eo k e) : xa_eo k (ab_th K A c i t e) := by
  have h3 := ab_c8 hb h8
  have hc := ab_ch hb hi (j := 0) (by omega)
  have h := xa_nv_eo (t := ty_bool) (ab_var hb hc) ty_bool_ok he
  unfold ab_th
  split
  · next z => exact xa_nv_eo (ab_var hb (ab_ch hb hc (j := 0) (by rw [ab_c7 hb z]; decide))) ht h
  · exact h
/-- one child: the component comes from its beginning to the row itself -/
theorem xa_s2 (hb : ab_bd N k n K A B c) (hT : ∀ q, ty_ok (tb q)) (T1 : xa_T1 n S K c XA XT) {d : Nat} (ih : xa_S k n S K A B st ar c tb XA XT d) {i : Nat} {e : ab_E} {Z : Nat → Nat → Int32} (hd : i < d + 1) (hi : i < n) (he : xa_eo k e) (hcu : xa_cu Z e) (h8 : ¬ K i = 8) (hc : c i = 2)
    (hk : ∀ Z', xa_ag (S + bs_ss c i) (S + i - 1) Z Z' → xa_st Z' (S + bs_ch c i 0) (ab_ev K A B st ar c tb d (bs_ch c i 0) e) →
      xa_st Z' (S + bs_ch c i 1) (ab_ev K A B st ar c tb d (bs_ch c i 1) (xa_en (ab_ev K A B st ar c tb d (bs_ch c i 0) e))) →
      xa_cu Z' (xa_en (ab_ev K A B st ar c tb d (bs_ch c i 1) (xa_en (ab_ev K A B st ar c tb d (bs_ch c i 0) e)))) → XA (S + i) Z') : XA (S + bs_ss c i) Z := by
  have l0 := bs_ch_lt hb.2.2 hi (k := 0) (by omega)
  have l1 := bs_ch_lt hb.2.2 hi (k := 1) (by omega)
  have q0 := bs_ch_0 hb.2.2 hi (by omega)
  have q1 := bs_ch_n hb.2.2 hi (k := 0) (by omega)
  have q2 := bs_ch_l hb.2.2 hi (k := 1) (by omega)
  have s0 := bs_ss_le c (bs_ch c i 0)
  have s1 := bs_ss_le c (bs_ch c i 1)
  rw [Nat.zero_add] at q1
  have po := xa_po hb hT (st := st) (ar := ar) d (bs_ch c i 0) e (by omega) he
  rw [← q0]
  refine ih (bs_ch c i 0) e Z (by omega) (by omega) he hcu ?_
  intro Z1 ag1 st1 cu1
  refine T1 i 0 Z1 hi (by omega) (fun z => absurd z h8) ?_
  rw [Nat.add_assoc, ← q1]
  refine ih (bs_ch c i 1) _ Z1 (by omega) (by omega) (xa_en_eo po) cu1 ?_
  intro Z2 ag2 st2 cu2
  refine T1 i 1 Z2 hi (by omega) (fun z => absurd z h8) ?_
  rw [Nat.add_assoc, q2]
  exact hk Z2 (xa_ag_t ag1 ag2 (by omega) (by omega) (by omega) (by omega)) (xa_st_k st1 ag2 (by omega)) st2 cu2
theorem xa_s1 (hb : ab_bd N k n K A B c) (T1 : xa_T1 n S K c XA XT) {d : Nat} (ih : xa_S k n S K A B st ar c tb XA XT d) {i : Nat} {e : ab_E} {Z : Nat → Nat → Int32} (hd : i < d + 1) (hi : i < n) (he : xa_eo k e) (hcu : xa_cu Z e) (h8 : ¬ K i = 8) (hc : c i = 1)
    (hk : ∀ Z', xa_ag (S + bs_ss c i) (S + i - 1) Z Z' → xa_st Z' (S + bs_ch c i 0) (ab_ev K A B st ar c tb d (bs_ch c i 0) e) →
      xa_cu Z' (xa_en (ab_ev K A B st ar c tb d (bs_ch c i 0) e)) → XA (S + i) Z') : XA (S + bs_ss c i) Z := by
  have l0 := bs_ch_lt hb.2.2 hi (k := 0) (by omega)
  have q0 := bs_ch_0 hb.2.2 hi (by omega)
  have q2 := bs_ch_l hb.2.2 hi (k := 0) (by omega)
  have s0 := bs_ss_le c (bs_ch c i 0)
  rw [← q0]
  refine ih (bs_ch c i 0) e Z (by omega) (by omega) he hcu ?_
  intro Z1 ag1 st1 cu1
  refine T1 i 0 Z1 hi (by omega) (fun z => absurd z h8) ?_
  rw [Nat.add_assoc, q2]
  exact hk Z1 (xa_ag_w ag1 (by omega) (by omega)) st1 cu1
theorem xa_sim (hb : ab_bd N k n K A B c) (hT : ∀ q, ty_ok (tb q)) (X1 : xa_X1 n S K A XA XT) (X2 : xa_X2 n S K A c XA XT) (X3 : xa_X3 n S K c XA XT) (X4 : xa_X4 k n S K c XA XT) (X5 : xa_X5 n S K A B st ar tb XA XT) (X6 : xa_X6 n S K A B st ar c tb XA XT) (X7 : xa_X7 n S K A B st ar c tb XA XT)
    (T1 : xa_T1 n S K c XA XT) (T2 : xa_T2 k n S K A c XA XT) (T3 : xa_T3 k n S K A c XA XT) : ∀ d, xa_S k n S K A B st ar c tb XA XT d := by
  intro d
  induction d with
  | zero => intro i e Z hd; exact absurd hd (Nat.not_lt_zero i)
  | succ d ih =>
    intro i e Z hd hi he hcu hk
    have sl := bs_ss_le c i
    have leaf : (K i = 0 ∨ K i = 1 ∨ K i = 2) → c i = 0 → XA (S + bs_ss c i) Z := by
      intro h hc
      rw [bs_ss_0 hc] at hk ⊢
      rw [ab_ev_lf h] at hk
      exact X1 i e Z hi h (xa_eo_e he) hcu hk
    have op : (K i = 3 ∨ K i = 4 ∨ K i = 5 ∨ K i = 6) → c i = 2 → XA (S + bs_ss c i) Z := by
      intro h hc
      have n8 : ¬ K i = 8 := by rcases h with h | h | h | h <;> rw [h] <;> decide
      have l0 := bs_ch_lt hb.2.2 hi (k := 0) (by omega)
      have l1 := bs_ch_lt hb.2.2 hi (k := 1) (by omega)
      have p0 := xa_po hb hT (st := st) (ar := ar) d (bs_ch c i 0) e (by omega) he
      have p1 := xa_po hb hT (st := st) (ar := ar) d (bs_ch c i 1) _ (by omega) (xa_en_eo p0)
      rw [ab_ev_op h, ab_op, xa_two _ (xa_ev_0 d) _ (xa_opf_0 i)] at hk
      refine xa_s2 hb hT T1 ih hd hi he hcu n8 hc fun Z1 ag st0 st1 cu => ?_
      exact X2 i _ _ _ Z1 hi h (xa_ty_ok p0) (xa_ty_ok p1) (xa_eo_e (xa_en_eo p1)) cu st0.1 st1.1 fun Z2 ag2 => hk Z2 (xa_ag_t ag ag2 (by omega) (by omega) (by omega) (by omega))
    rcases bd_10 (hb.1 i hi) with h | h | h | h | h | h | h | h | h | h
    · exact leaf (Or.inl h) (by rw [hb.2.1 i, h]; exact bs_cc0 _)
    · exact leaf (Or.inr (Or.inl h)) (by rw [hb.2.1 i, h]; exact bs_cc1 _)
    · exact leaf (Or.inr (Or.inr h)) (by rw [hb.2.1 i, h]; exact bs_cc2 _)
    · exact op (Or.inl h) (by rw [hb.2.1 i, h]; exact bs_cc3 _)
    · exact op (Or.inr (Or.inl h)) (by rw [hb.2.1 i, h]; exact bs_cc4 _)
    · exact op (Or.inr (Or.inr (Or.inl h))) (by rw [hb.2.1 i, h]; exact bs_cc5 _)
    · exact op (Or.inr (Or.inr (Or.inr h))) (by rw [hb.2.1 i, h]; exact bs_cc6 _)
    · have hc := ab_c7 hb h
      have n8 : ¬ K i = 8 := by rw [h]; decide
      have l0 := bs_ch_lt hb.2.2 hi (k := 0) (by omega)
      have p0 := xa_po hb hT (st := st) (ar := ar) d (bs_ch c i 0) e (by omega) he
      rw [ab_ev_isi h, ab_isi, xa_one (ab_ev K A B st ar c tb d) (fun x e => ab_fin ((if x.1 = 0 then 0 else 1) + (if x.2.1 = 0 then 0 else 2), 0, 0) e) (fun x => xa_fin_0 _)] at hk
      refine xa_s1 hb T1 ih hd hi he hcu n8 hc fun Z1 ag st0 cu => ?_
      exact X3 i _ _ Z1 hi h (xa_ty_ok p0) (xa_eo_e (xa_en_eo p0)) cu st0.1 fun Z2 ag2 => hk Z2 (xa_ag_t ag ag2 (by omega) (by omega) (by omega) (by omega))
    · have hc := ab_c8 hb h
      have l0 := bs_ch_lt hb.2.2 hi (k := 0) (by omega)
      have l1 := bs_ch_lt hb.2.2 hi (k := 1) (by omega)
      have l2 := bs_ch_lt hb.2.2 hi (k := 2) (by omega)
      have q0 := bs_ch_0 hb.2.2 hi (by omega)
      have q1 := bs_ch_n hb.2.2 hi (k := 0) (by omega)
      have q2 := bs_ch_n hb.2.2 hi (k := 1) (by omega)
      have q3 := bs_ch_l hb.2.2 hi (k := 2) (by omega)
      have s0 := bs_ss_le c (bs_ch c i 0)
      have s1 := bs_ss_le c (bs_ch c i 1)
      have s2 := bs_ss_le c (bs_ch c i 2)
      rw [Nat.zero_add] at q1
      rw [show 1 + 1 = 2 from rfl] at q2
      have po := xa_po hb hT (st := st) (ar := ar) d (bs_ch c i 0) e (by omega) he
      have eo := xa_en_eo po
      have e1 := xa_br_eo (b := (xa_ty (ab_ev K A B st ar c tb d (bs_ch c i 0) e)).1.testBit 1) (xa_th_eo hb hi h ty_ints_ok eo)
      have e2 := xa_br_eo (b := (xa_ty (ab_ev K A B st ar c tb d (bs_ch c i 0) e)).1.testBit 0) (xa_th_eo hb hi h ty_ats_ok eo)
      have p1 := xa_po hb hT (st := st) (ar := ar) d (bs_ch c i 1) _ (by omega) e1
      have p2 := xa_po hb hT (st := st) (ar := ar) d (bs_ch c i 2) _ (by omega) e2
      have br : ∀ (b : Bool) (j : Nat) (u : ab_E), ab_ev K A B st ar c tb d j (xa_br b u) = ab_gd b (ab_ev K A B st ar c tb d j u) := by
        intro b j u
        unfold xa_br ab_gd
        split
        · rfl
        · exact ab_dead d j _ (Or.inl rfl)
      have ev : ab_ev K A B st ar c tb (d + 1) i e = ab_jn (ab_ev K A B st ar c tb d (bs_ch c i 1) (xa_br ((xa_ty (ab_ev K A B st ar c tb d (bs_ch c i 0) e)).1.testBit 1) (ab_th K A c i ty_ints (xa_en (ab_ev K A B st ar c tb d (bs_ch c i 0) e)))))
          (ab_ev K A B st ar c tb d (bs_ch c i 2) (xa_br ((xa_ty (ab_ev K A B st ar c tb d (bs_ch c i 0) e)).1.testBit 0) (ab_th K A c i ty_ats (xa_en (ab_ev K A B st ar c tb d (bs_ch c i 0) e))))) := by
        rw [ab_ev_if h, ab_if, br, br]
        cases ab_ev K A B st ar c tb d (bs_ch c i 0) e with
        | none => rfl
        | some x => rfl
      rw [ev] at hk
      rw [← q0]
      refine ih (bs_ch c i 0) e Z (by omega) (by omega) he hcu ?_
      intro Z1 ag1 st1 cu1
      refine T2 i _ Z1 hi h po st1 ?_
      intro Z1' a0 a1 cu1'
      have agq : xa_ag (S + bs_ch c i 0 + 1) (S + bs_ch c i 0) Z1 Z1' := ⟨fun j _ => by rw [a0], fun j _ => by rw [a1]⟩
      have st1' : xa_st Z1' (S + bs_ch c i 0) (ab_ev K A B st ar c tb d (bs_ch c i 0) e) := by
        unfold xa_st; rw [a0, a1]; exact st1
      rw [Nat.add_assoc, ← q1]
      refine ih (bs_ch c i 1) _ Z1' (by omega) (by omega) e1 cu1' ?_
      intro Z2 ag2 st2 cu2
      have st12 := xa_st_k st1' ag2 (by omega)
      refine T3 i _ Z2 hi h po st12 ?_
      intro Z2' b0 b1 cu2'
      have st2' := xa_st_e b0 b1 st2
      have agq2 : xa_ag (S + bs_ch c i 1) (S + bs_ch c i 1) Z2 Z2' := ⟨fun j _ => by rw [b0], fun j _ => by rw [b1]⟩
      rw [Nat.add_assoc, ← q2]
      refine ih (bs_ch c i 2) _ Z2' (by omega) (by omega) e2 cu2' ?_
      intro Z3 ag3 st3 cu3
      refine T1 i 2 Z3 hi (by omega) (fun _ => rfl) ?_
      rw [Nat.add_assoc, q3]
      refine X4 i _ _ Z3 hi h p1 p2 (xa_st_k st2' ag3 (by omega)) st3 fun Z4 ag4 => hk Z4 ?_
      have g1 : xa_ag (S + bs_ss c (bs_ch c i 0)) (S + i) Z Z1' := xa_ag_t ag1 agq (by omega) (by omega) (by omega) (by omega)
      have g2 : xa_ag (S + bs_ss c (bs_ch c i 0)) (S + i) Z Z2' := xa_ag_t (xa_ag_t g1 ag2 (Nat.le_refl _) (Nat.le_refl _) (by omega) (by omega)) agq2 (Nat.le_refl _) (Nat.le_refl _) (by omega) (by omega)
      have g3 := xa_ag_t (xa_ag_t g2 ag3 (Nat.le_refl _) (Nat.le_refl _) (by omega) (by omega)) ag4 (Nat.le_refl _) (Nat.le_refl _) (by omega) (by omega)
      rw [q0] at g3
      exact g3
    · have n8 : ¬ K i = 8 := by rw [h]; decide
      rcases ab_B hb hi with b0 | b1 | b2
      · have hc : c i = 0 := by rw [ab_c9 hb h, b0]; decide
        rw [bs_ss_0 hc] at hk ⊢
        rw [ab_ev_call h, ab_call, if_pos b0] at hk
        exact X5 i e Z hi h b0 (xa_eo_e he) hcu hk
      · have hc := ab_cB1 hb h b1
        have l0 := bs_ch_lt hb.2.2 hi (k := 0) (by omega)
        have p0 := xa_po hb hT (st := st) (ar := ar) d (bs_ch c i 0) e (by omega) he
        rw [ab_ev_call h, ab_call, if_neg (by rw [b1]; decide), if_pos b1, xa_one _ (ab_cl1 K A B st ar c tb i) (xa_cl1_0 i)] at hk
        refine xa_s1 hb T1 ih hd hi he hcu n8 hc fun Z1 ag st0 cu => ?_
        exact X6 i _ _ Z1 hi h b1 (xa_ty_ok p0) (xa_eo_e (xa_en_eo p0)) cu st0.1 fun Z2 ag2 => hk Z2 (xa_ag_t ag ag2 (by omega) (by omega) (by omega) (by omega))
      · have hc := (ab_cB2 hb hi h (by rw [b2]; decide) (by rw [b2]; decide)).1
        have l0 := bs_ch_lt hb.2.2 hi (k := 0) (by omega)
        have l1 := bs_ch_lt hb.2.2 hi (k := 1) (by omega)
        have p0 := xa_po hb hT (st := st) (ar := ar) d (bs_ch c i 0) e (by omega) he
        have p1 := xa_po hb hT (st := st) (ar := ar) d (bs_ch c i 1) _ (by omega) (xa_en_eo p0)
        rw [ab_ev_call h, ab_call, if_neg (by rw [b2]; decide), if_neg (by rw [b2]; decide), xa_two _ (xa_ev_0 d) _ (xa_cl2_0 i)] at hk
        refine xa_s2 hb hT T1 ih hd hi he hcu n8 hc fun Z1 ag st0 st1 cu => ?_
        exact X7 i _ _ _ Z1 hi h b2 (xa_ty_ok p0) (xa_ty_ok p1) (xa_eo_e (xa_en_eo p1)) cu st0.1 st1.1 fun Z2 ag2 => hk Z2 (xa_ag_t ag ag2 (by omega) (by omega) (by omega) (by omega))
end

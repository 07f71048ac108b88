/-- what a run of one subtree gives: (-1, value, calls made so far), or the run's end (1 fails, 2 limit) -/
abbrev rn_R : Type := Int32 × Int32 × Nat
def rn_bd (p : rn_R) (f : Int32 → Nat → rn_R) : rn_R := if p.1 = -1 then f p.2.1 p.2.2 else p
def rn_ok (v : Int32) : Prop := (-99 ≤ v.toInt ∧ v.toInt ≤ 99) ∨ (1000 ≤ v.toInt ∧ v.toInt ≤ 1007)
def rn_ar (k v w : Int32) : Int32 := if k = 3 then v + w else v - w
def rn_op (k v w : Int32) (m : Nat) : rn_R :=
  if k = 6 then (-1, (if v = w then 1001 else 1000), m)
  else if 1000 ≤ v then (1, 0, m)
  else if 1000 ≤ w then (1, 0, m)
  else if k = 5 then (-1, (if v < w then 1001 else 1000), m)
  else if rn_ar k v w < -99 then (1, 0, m)
  else if 99 < rn_ar k v w then (1, 0, m)
  else (-1, rn_ar k v w, m)
section
variable (K A B : Nat → Nat → Int32) (st ar : Nat → Int32) (sz : Nat → Nat)
def rn_call (ev : Nat → Nat → Nat → Int32 → Int32 → Nat → rn_R) (fr g i : Nat) (v w : Int32) (m : Nat) : rn_R :=
  if st (A g i).toNatClampNeg = 2 then
    if ar (A g i).toNatClampNeg = B g i then
      if 200 ≤ m then (2, 0, m)
      else if 15 ≤ fr then (2, 0, m)
      else ev (fr + 1) (A g i).toNatClampNeg (sz (A g i).toNatClampNeg - 1) v w (m + 1)
    else (1, 0, m)
  else (1, 0, m)
def rn_node (ev : Nat → Nat → Nat → Int32 → Int32 → Nat → rn_R) (fr g i : Nat) (x y : Int32) (m : Nat) : rn_R :=
  if K g i = 0 then (-1, A g i, m)
  else if K g i = 1 then (-1, 1000 + A g i, m)
  else if K g i = 2 then (-1, (if A g i = 0 then x else y), m)
  else if K g i = 8 then rn_bd (ev fr g (bs_ch (sp_c K B g) i 0) x y m) fun v m =>
    if v = 1001 then ev fr g (bs_ch (sp_c K B g) i 1) x y m else if v = 1000 then ev fr g (bs_ch (sp_c K B g) i 2) x y m else (1, 0, m)
  else if K g i = 9 then
    if B g i = 0 then rn_call A B st ar sz ev fr g i 0 0 m
    else if B g i = 1 then rn_bd (ev fr g (bs_ch (sp_c K B g) i 0) x y m) fun v m => rn_call A B st ar sz ev fr g i v 0 m
    else rn_bd (ev fr g (bs_ch (sp_c K B g) i 0) x y m) fun v m => rn_bd (ev fr g (bs_ch (sp_c K B g) i 1) x y m) fun w m => rn_call A B st ar sz ev fr g i v w m
  else if K g i = 7 then rn_bd (ev fr g (bs_ch (sp_c K B g) i 0) x y m) fun v m => (-1, (if v < 1000 then 1001 else 1000), m)
  else rn_bd (ev fr g (bs_ch (sp_c K B g) i 0) x y m) fun v m => rn_bd (ev fr g (bs_ch (sp_c K B g) i 1) x y m) fun w m => rn_op (K g i) v w m
def rn_ev : Nat → Nat → Nat → Nat → Int32 → Int32 → Nat → rn_R
  | 0 => fun _ _ _ _ _ m => (1, 0, m)
  | d + 1 => rn_node K A B st ar sz (rn_ev d)
end
/-- a good outcome after m calls -/
def rn_gd (m : Nat) (r : rn_R) : Prop := (r.1 = -1 ∨ r.1 = 1 ∨ r.1 = 2) ∧ (r.1 = -1 → rn_ok r.2.1) ∧ m ≤ r.2.2 ∧ r.2.2 ≤ 200
def rn_ag (a x y : Int32) : Prop := (1 ≤ a → rn_ok x) ∧ (2 ≤ a → rn_ok y)
theorem rn_gd_1 {m m' : Nat} (h : m' ≤ m) (hm : m ≤ 200) : rn_gd m' (1, 0, m) := ⟨Or.inr (Or.inl rfl), fun z => absurd (show (1 : Int32) = -1 from z) (by decide), h, hm⟩
theorem rn_gd_2 {m m' : Nat} (h : m' ≤ m) (hm : m ≤ 200) : rn_gd m' (2, 0, m) := ⟨Or.inr (Or.inr rfl), fun z => absurd (show (2 : Int32) = -1 from z) (by decide), h, hm⟩
theorem rn_gd_v {v : Int32} {m m' : Nat} (h : m' ≤ m) (hm : m ≤ 200) (hv : rn_ok v) : rn_gd m' (-1, v, m) := ⟨Or.inl rfl, fun _ => hv, h, hm⟩
theorem rn_gd_bd {m m' : Nat} {p : rn_R} {f : Int32 → Nat → rn_R} (hp : rn_gd m p) (h : m' ≤ m) (hf : ∀ v m1, m ≤ m1 → m1 ≤ 200 → rn_ok v → rn_gd m1 (f v m1)) : rn_gd m' (rn_bd p f) := by
  obtain ⟨h1, h2, h3, h4⟩ := hp
  unfold rn_bd
  split
  · next z =>
    obtain ⟨g1, g2, g3, g4⟩ := hf p.2.1 p.2.2 h3 h4 (h2 z)
    exact ⟨g1, g2, by omega, g4⟩
  · exact ⟨h1, h2, by omega, h4⟩
theorem rn_gd_m {m m' : Nat} {r : rn_R} (h : rn_gd m r) (hm : m' ≤ m) : rn_gd m' r := ⟨h.1, h.2.1, by have := h.2.2.1; omega, h.2.2.2⟩
theorem rn_ok_t : rn_ok 1001 := Or.inr (by decide)
theorem rn_ok_f : rn_ok 1000 := Or.inr (by decide)
theorem rn_ok_0 : rn_ok 0 := Or.inl (by decide)
theorem rn_ok_if {p : Prop} [Decidable p] : rn_ok (if p then 1001 else 1000) := by
  split
  · exact rn_ok_t
  · exact rn_ok_f
theorem rn_ok_at : ∀ j, j < 8 → rn_ok (1000 + nI j) := by
  have h : ∀ j, j < 8 → 1000 ≤ (1000 + nI j).toInt ∧ (1000 + nI j).toInt ≤ 1007 := by decide
  exact fun j hj => Or.inr (h j hj)
theorem rn_op_gd {k v w : Int32} {m : Nat} (hm : m ≤ 200) : rn_gd m (rn_op k v w m) := by
  unfold rn_op
  split
  · exact rn_gd_v (Nat.le_refl _) hm rn_ok_if
  · split
    · exact rn_gd_1 (Nat.le_refl _) hm
    · split
      · exact rn_gd_1 (Nat.le_refl _) hm
      · split
        · exact rn_gd_v (Nat.le_refl _) hm rn_ok_if
        · split
          · exact rn_gd_1 (Nat.le_refl _) hm
          · split
            · exact rn_gd_1 (Nat.le_refl _) hm
            · next h1 h2 =>
              refine rn_gd_v (Nat.le_refl _) hm (Or.inl ?_)
              rw [Int32.lt_iff_toInt_lt, show (-99 : Int32).toInt = -99 by decide] at h1
              rw [Int32.lt_iff_toInt_lt, show (99 : Int32).toInt = 99 by decide] at h2
              omega
section
variable {N : Nat} {K A B : Nat → Nat → Int32} {st ar : Nat → Int32} {sz : Nat → Nat}
theorem rn_ev_gd (hN : N ≤ 8) (hp : sp_ok N K A B st ar sz) : ∀ d fr g i x y m, g < N → st g = 2 → i < sz g → rn_ag (ar g) x y → m ≤ 200 → rn_gd m (rn_ev K A B st ar sz d fr g i x y m) := by
  intro d
  induction d with
  | zero => intro fr g i x y m _ _ _ _ hm; exact rn_gd_1 (Nat.le_refl _) hm
  | succ d ih =>
    intro fr g i x y m hg hs hi hxy hm
    obtain ⟨k, hk, ek, hz0, hz, hb⟩ := hp g hg hs
    have nd := hb.1 i hi
    show rn_gd m (rn_node K A B st ar sz (rn_ev K A B st ar sz d) fr g i x y m)
    have call : ∀ v w m1, K g i = 9 → m ≤ m1 → m1 ≤ 200 → rn_ok v → rn_ok w → rn_gd m1 (rn_call A B st ar sz (rn_ev K A B st ar sz d) fr g i v w m1) := by
      intro v w m1 h9 h1 h2 hv hw
      unfold rn_call
      split
      · next s2 =>
        split
        · split
          · exact rn_gd_2 (Nat.le_refl _) h2
          · split
            · exact rn_gd_2 (Nat.le_refl _) h2
            · obtain ⟨a, ha, ea⟩ := nd.2.2.2.2.1 h9
              rw [ea, nI_clamp (by omega)] at s2 ⊢
              obtain ⟨k', _, _, z0, _, _⟩ := hp a ha s2
              exact rn_gd_m (ih _ _ _ _ _ _ ha s2 (by omega) ⟨fun _ => hv, fun _ => hw⟩ (by omega)) (by omega)
        · exact rn_gd_1 (Nat.le_refl _) h2
      · exact rn_gd_1 (Nat.le_refl _) h2
    have ch : ∀ j m1, j < sp_c K B g i → m1 ≤ 200 → rn_gd m1 (rn_ev K A B st ar sz d fr g (bs_ch (sp_c K B g) i j) x y m1) :=
      fun j m1 hj h1 => ih _ _ _ _ _ _ hg hs (ab_ch hb hi hj) hxy h1
    unfold rn_node
    split
    · next h0 => exact rn_gd_v (Nat.le_refl _) hm (Or.inl (nd.2.1 h0))
    · split
      · next h1 =>
        obtain ⟨j, hj, ej⟩ := nd.2.2.1 h1
        rw [ej]
        exact rn_gd_v (Nat.le_refl _) hm (rn_ok_at j hj)
      · split
        · next h2 =>
          obtain ⟨j, hj, ej⟩ := nd.2.2.2.1 h2
          refine rn_gd_v (Nat.le_refl _) hm ?_
          have one : (1 : Int32) = nI 1 := by decide
          have two : (2 : Int32) = nI 2 := by decide
          split
          · exact hxy.1 (by rw [ek, one]; exact nI_le (by omega) (by omega))
          · next z =>
            have : j ≠ 0 := fun e0 => z (by rw [ej, e0]; rfl)
            exact hxy.2 (by rw [ek, two]; exact nI_le (by omega) (by omega))
        · split
          · next h8 =>
            have h3 := ab_c8 hb h8
            refine rn_gd_bd (ch 0 m (by omega) hm) (Nat.le_refl _) fun v m1 h1 h2 hv => ?_
            split
            · exact ch 1 m1 (by omega) h2
            · split
              · exact ch 2 m1 (by omega) h2
              · exact rn_gd_1 (Nat.le_refl _) h2
          · split
            · next h9 =>
              split
              · exact call 0 0 m h9 (Nat.le_refl _) hm rn_ok_0 rn_ok_0
              · split
                · next b1 =>
                  have hc := ab_cB1 hb h9 b1
                  exact rn_gd_bd (ch 0 m (by omega) hm) (Nat.le_refl _) fun v m1 h1 h2 hv => call v 0 m1 h9 h1 h2 hv rn_ok_0
                · next b0 b1 =>
                  have hc := (ab_cB2 hb hi h9 b0 b1).1
                  exact rn_gd_bd (ch 0 m (by omega) hm) (Nat.le_refl _) fun v m1 h1 h2 hv =>
                    rn_gd_bd (ch 1 m1 (by omega) h2) (Nat.le_refl _) fun w m2 h3 h4 hw => call v w m2 h9 (by omega) h4 hv hw
            · split
              · next h7 =>
                have hc := ab_c7 hb h7
                exact rn_gd_bd (ch 0 m (by omega) hm) (Nat.le_refl _) fun v m1 h1 h2 hv => rn_gd_v (Nat.le_refl _) h2 rn_ok_if
              · next h0 h1 h2 h8 h9 h7 =>
                have hc := ab_c2 hb hi h0 h1 h2 h8 h9 h7
                exact rn_gd_bd (ch 0 m (by omega) hm) (Nat.le_refl _) fun v m1 h1 h2 hv =>
                  rn_gd_bd (ch 1 m1 (by omega) h2) (Nat.le_refl _) fun w m2 h3 h4 hw => rn_op_gd h4
end

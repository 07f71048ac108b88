/-- the reference's run as a machine: arrays 0 node, 1 stage, 2 frame, 3 values, 4 slot, 5 6 arguments -/
def yr_push (Z : Nat → Nat → Int32) (p i fr : Nat) : Nat → Nat → Int32 := ya_z (ya_z (ya_z Z 0 p (nI i)) 1 p 0) 2 p (nI fr)
def yr_call (Z : Nat → Nat → Int32) (p fr a b i : Nat) (v w : Int32) : Nat → Nat → Int32 :=
  yr_push (ya_z (ya_z (ya_z (ya_z Z 4 (fr + 1) (nI a)) 5 (fr + 1) v) 6 (fr + 1) w) 1 p (nI (b + 1))) (p + 1) i (fr + 1)
def yr_w (p q f : Nat) : Nat → Nat := fun a => if a < 3 then p else if a = 3 then q else f
def yr_ag (w : Nat → Nat) (Z Z' : Nat → Nat → Int32) : Prop := ∀ a j, j < w a → Z' a j = Z a j
theorem yr_ag_r (w : Nat → Nat) (Z : Nat → Nat → Int32) : yr_ag w Z Z := fun _ _ _ => rfl
theorem yr_ag_t {p q f p' q' f' : Nat} {Z Z' Z'' : Nat → Nat → Int32} (h : yr_ag (yr_w p q f) Z Z') (g : yr_ag (yr_w p' q' f') Z' Z'') (hp : p ≤ p') (hq : q ≤ q') (hf : f ≤ f') : yr_ag (yr_w p q f) Z Z'' := fun a j hj => by
  refine (g a j ?_).trans (h a j hj)
  unfold yr_w at hj ⊢
  split at hj
  · rw [if_pos (by assumption)]; omega
  · rw [if_neg (by assumption)]
    split at hj
    · rw [if_pos (by assumption)]; omega
    · rw [if_neg (by assumption)]; omega
theorem yr_ag_z {w : Nat → Nat} {Z Z' : Nat → Nat → Int32} {a q : Nat} {v : Int32} (h : yr_ag w Z Z') (hq : w a ≤ q) : yr_ag w Z (ya_z Z' a q v) := fun a' j hj => by
  rw [ya_zr, if_neg (fun z => by obtain ⟨rfl, rfl⟩ := z; omega)]; exact h a' j hj
theorem yr_ag_p {p q f : Nat} {Z Z' : Nat → Nat → Int32} {p' i fr : Nat} (h : yr_ag (yr_w p q f) Z Z') (hp : p ≤ p') : yr_ag (yr_w p q f) Z (yr_push Z' p' i fr) :=
  yr_ag_z (yr_ag_z (yr_ag_z h hp) hp) hp
theorem yr_push_0 (Z : Nat → Nat → Int32) (p i fr : Nat) : yr_push Z p i fr 0 p = nI i := by
  unfold yr_push; rw [ya_z_n _ _ _ _ (by decide), ya_z_n _ _ _ _ (by decide), ya_z_s]
theorem yr_push_1 (Z : Nat → Nat → Int32) (p i fr : Nat) : yr_push Z p i fr 1 p = 0 := by
  unfold yr_push; rw [ya_z_n _ _ _ _ (by decide), ya_z_s]
theorem yr_push_2 (Z : Nat → Nat → Int32) (p i fr : Nat) : yr_push Z p i fr 2 p = nI fr := by
  unfold yr_push; rw [ya_z_s]
theorem yr_push_l (Z : Nat → Nat → Int32) (p i fr a : Nat) {j : Nat} (h : j ≠ p) : yr_push Z p i fr a j = Z a j := by
  unfold yr_push; rw [ya_zr, if_neg (fun z => h z.2), ya_zr, if_neg (fun z => h z.2), ya_zr, if_neg (fun z => h z.2)]
theorem yr_push_h (Z : Nat → Nat → Int32) (p i fr a j : Nat) (h : 3 ≤ a) : yr_push Z p i fr a j = Z a j := by
  unfold yr_push; rw [ya_z_n _ _ _ _ (by omega), ya_z_n _ _ _ _ (by omega), ya_z_n _ _ _ _ (by omega)]
theorem yr_z_l (Z : Nat → Nat → Int32) (a j : Nat) (v : Int32) {a' j' : Nat} (h : j' ≠ j) : ya_z Z a j v a' j' = Z a' j' := by rw [ya_zr, if_neg (fun z => h z.2)]
section
variable (N : Nat) (K A B : Nat → Nat → Int32) (st ar : Nat → Int32) (sz : Nat → Nat) (RR : Nat → Nat → Nat → Nat → Nat → (Nat → Nat → Int32) → Prop) (RE : Int32 → Prop)
/-- the top of the stack: row i of slot g at stage s in frame fr -/
def yr_top (Z : Nat → Nat → Int32) (p fr g i s : Nat) : Prop := Z 0 p = nI i ∧ Z 1 p = nI s ∧ Z 2 p = nI fr ∧ Z 4 fr = nI g
def yr_in (t p q fr g i : Nat) : Prop := t < 1000000 ∧ p < 500 ∧ q < 500 ∧ fr < 16 ∧ g < N ∧ st g = 2 ∧ i < sz g
def yr_V1 : Prop := ∀ (t p q m a fr g i s : Nat) (Z : Nat → Nat → Int32), yr_in N st sz t p q fr g i → yr_top Z p fr g i s → (K g i = 0 ∨ K g i = 1 ∨ K g i = 2) →
  RR (t + 1) p (q + 1) m a (ya_z Z 3 q (if K g i = 0 then A g i else if K g i = 1 then 1000 + A g i else if A g i = 0 then Z 5 fr else Z 6 fr)) → RR t (p + 1) q m a Z
def yr_V2 : Prop := ∀ (t p q m a fr g i s : Nat) (Z : Nat → Nat → Int32), yr_in N st sz t p q fr g i → yr_top Z p fr g i s → s < sp_c K B g i → (K g i = 8 → s = 0) →
  RR (t + 1) (p + 2) q m a (yr_push (ya_z Z 1 p (nI (s + 1))) (p + 1) (bs_ch (sp_c K B g) i s) fr) → RR t (p + 1) q m a Z
def yr_V3 : Prop := ∀ (t p q m a fr g i : Nat) (Z : Nat → Nat → Int32), yr_in N st sz t p q fr g i → yr_top Z p fr g i 1 → K g i = 8 →
  (Z 3 q = 1001 → RR (t + 1) (p + 2) q m a (yr_push (ya_z Z 1 p (nI 2)) (p + 1) (bs_ch (sp_c K B g) i 1) fr)) →
  (Z 3 q = 1000 → RR (t + 1) (p + 2) q m a (yr_push (ya_z Z 1 p (nI 2)) (p + 1) (bs_ch (sp_c K B g) i 2) fr)) →
  (Z 3 q ≠ 1001 → Z 3 q ≠ 1000 → RE 1) → RR t (p + 1) (q + 1) m a Z
def yr_V4 : Prop := ∀ (t p q m a fr g i : Nat) (Z : Nat → Nat → Int32), yr_in N st sz t p q fr g i → yr_top Z p fr g i 2 → K g i = 8 → RR (t + 1) p q m a Z → RR t (p + 1) q m a Z
def yr_V5 : Prop := ∀ (t p q m a fr g i : Nat) (Z : Nat → Nat → Int32), yr_in N st sz t p q fr g i → yr_top Z p fr g i 1 → K g i = 7 →
  RR (t + 1) p (q + 1) m a (ya_z Z 3 q (if Z 3 q < 1000 then 1001 else 1000)) → RR t (p + 1) (q + 1) m a Z
def yr_V6 : Prop := ∀ (t p q m a fr g i : Nat) (Z : Nat → Nat → Int32), yr_in N st sz t p q fr g i → yr_top Z p fr g i 2 → (K g i = 3 ∨ K g i = 4 ∨ K g i = 5 ∨ K g i = 6) →
  ((rn_op (K g i) (Z 3 q) (Z 3 (q + 1)) m).1 = -1 → RR (t + 1) p (q + 1) m a (ya_z Z 3 q (rn_op (K g i) (Z 3 q) (Z 3 (q + 1)) m).2.1)) →
  ((rn_op (K g i) (Z 3 q) (Z 3 (q + 1)) m).1 ≠ -1 → RE (rn_op (K g i) (Z 3 q) (Z 3 (q + 1)) m).1) → RR t (p + 1) (q + 2) m a Z
/-- a call with b arguments, at most two -/
def yr_V7 : Prop := ∀ (t p q m fr g i b : Nat) (Z : Nat → Nat → Int32) (v w : Int32), yr_in N st sz t p q fr g i → m ≤ 200 → yr_top Z p fr g i b → K g i = 9 → B g i = nI b → b ≤ 2 →
  (b = 0 → v = 0 ∧ w = 0) → (b = 1 → v = Z 3 q ∧ w = 0) → (b = 2 → v = Z 3 q ∧ w = Z 3 (q + 1)) →
  (∀ a, a < N → A g i = nI a → st a = 2 → ar a = B g i → m < 200 → fr < 15 → RR (t + 1) (p + 2) q (m + 1) (fr + 2) (yr_call Z p fr a b (sz a - 1) v w)) →
  (st (A g i).toNatClampNeg = 2 → ar (A g i).toNatClampNeg = B g i → (200 ≤ m ∨ 15 ≤ fr) → RE 2) →
  (¬ (st (A g i).toNatClampNeg = 2 ∧ ar (A g i).toNatClampNeg = B g i) → RE 1) → RR t (p + 1) (q + b) m (fr + 1) Z
def yr_V8 : Prop := ∀ (t p q m a fr g i b : Nat) (Z : Nat → Nat → Int32), yr_in N st sz t p q fr g i → yr_top Z p fr g i (b + 1) → K g i = 9 → B g i = nI b → b ≤ 2 → a < 20 → RR (t + 1) p q m a Z → RR t (p + 1) q m (a + 1) Z
def yr_S (D : Nat → Nat → Nat) (d : Nat) : Prop := ∀ (fr g i m t p q : Nat) (x y : Int32) (Z : Nat → Nat → Int32), (15 - fr) * 128 + i < d → fr < 16 → g < N → st g = 2 → i < sz g → rn_ag (ar g) x y → m ≤ 200 →
  p + D g i ≤ 10 * (fr + 1) → q + 2 * D g i ≤ 20 * (fr + 1) → yr_top Z p fr g i 0 → Z 5 fr = x → Z 6 fr = y → t + 4 * (i + 1 - bs_ss (sp_c K B g) i) + 520 * (200 - m) ≤ 500000 →
  ((rn_ev K A B st ar sz d fr g i x y m).1 ≠ -1 → RE (rn_ev K A B st ar sz d fr g i x y m).1) →
  ((rn_ev K A B st ar sz d fr g i x y m).1 = -1 → ∀ (t' : Nat) (Z' : Nat → Nat → Int32), t' + 520 * (200 - (rn_ev K A B st ar sz d fr g i x y m).2.2) ≤ t + 4 * (i + 1 - bs_ss (sp_c K B g) i) + 520 * (200 - m) →
    yr_ag (yr_w p q (fr + 1)) Z Z' → Z' 3 q = (rn_ev K A B st ar sz d fr g i x y m).2.1 → RR t' p (q + 1) (rn_ev K A B st ar sz d fr g i x y m).2.2 (fr + 1) Z') → RR t (p + 1) q m (fr + 1) Z
end
-- the runs, kind by kind
section
variable {K A B : Nat → Nat → Int32} {st ar : Nat → Int32} {sz : Nat → Nat} {d fr g i m : Nat} {x y : Int32}
theorem rn_ev_lf (h : K g i = 0 ∨ K g i = 1 ∨ K g i = 2) : rn_ev K A B st ar sz (d + 1) fr g i x y m = (-1, (if K g i = 0 then A g i else if K g i = 1 then 1000 + A g i else if A g i = 0 then x else y), m) := by
  show rn_node K A B st ar sz (rn_ev K A B st ar sz d) fr g i x y m = _
  unfold rn_node
  by_cases h0 : K g i = 0
  · rw [if_pos h0, if_pos h0]
  · rw [if_neg h0, if_neg h0]
    by_cases h1 : K g i = 1
    · rw [if_pos h1, if_pos h1]
    · rw [if_neg h1, if_neg h1, if_pos ((h.resolve_left h0).resolve_left h1)]
theorem rn_ev_if (h : K g i = 8) : rn_ev K A B st ar sz (d + 1) fr g i x y m = rn_bd (rn_ev K A B st ar sz d fr g (bs_ch (sp_c K B g) i 0) x y m) fun v m =>
    if v = 1001 then rn_ev K A B st ar sz d fr g (bs_ch (sp_c K B g) i 1) x y m else if v = 1000 then rn_ev K A B st ar sz d fr g (bs_ch (sp_c K B g) i 2) x y m else (1, 0, m) := by
  show rn_node K A B st ar sz (rn_ev K A B st ar sz d) fr g i x y m = _
  unfold rn_node
  rw [if_neg (by rw [h]; decide), if_neg (by rw [h]; decide), if_neg (by rw [h]; decide), if_pos h]
theorem rn_ev_isi (h : K g i = 7) : rn_ev K A B st ar sz (d + 1) fr g i x y m = rn_bd (rn_ev K A B st ar sz d fr g (bs_ch (sp_c K B g) i 0) x y m) fun v m => (-1, (if v < 1000 then 1001 else 1000), m) := by
  show rn_node K A B st ar sz (rn_ev K A B st ar sz d) fr g i x y m = _
  unfold rn_node
  rw [if_neg (by rw [h]; decide), if_neg (by rw [h]; decide), if_neg (by rw [h]; decide), if_neg (by rw [h]; decide), if_neg (by rw [h]; decide), if_pos h]
theorem rn_ev_op (h : K g i = 3 ∨ K g i = 4 ∨ K g i = 5 ∨ K g i = 6) : rn_ev K A B st ar sz (d + 1) fr g i x y m =
    rn_bd (rn_ev K A B st ar sz d fr g (bs_ch (sp_c K B g) i 0) x y m) fun v m => rn_bd (rn_ev K A B st ar sz d fr g (bs_ch (sp_c K B g) i 1) x y m) fun w m => rn_op (K g i) v w m := by
  show rn_node K A B st ar sz (rn_ev K A B st ar sz d) fr g i x y m = _
  unfold rn_node
  rcases h with h | h | h | h <;>
    rw [if_neg (by rw [h]; decide), if_neg (by rw [h]; decide), if_neg (by rw [h]; decide), if_neg (by rw [h]; decide), if_neg (by rw [h]; decide), if_neg (by rw [h]; decide)]
theorem rn_ev_c0 (h : K g i = 9) (b : B g i = 0) : rn_ev K A B st ar sz (d + 1) fr g i x y m = rn_call A B st ar sz (rn_ev K A B st ar sz d) fr g i 0 0 m := by
  show rn_node K A B st ar sz (rn_ev K A B st ar sz d) fr g i x y m = _
  unfold rn_node
  rw [if_neg (by rw [h]; decide), if_neg (by rw [h]; decide), if_neg (by rw [h]; decide), if_neg (by rw [h]; decide), if_pos h, if_pos b]
theorem rn_ev_c1 (h : K g i = 9) (b : B g i = 1) : rn_ev K A B st ar sz (d + 1) fr g i x y m =
    rn_bd (rn_ev K A B st ar sz d fr g (bs_ch (sp_c K B g) i 0) x y m) fun v m => rn_call A B st ar sz (rn_ev K A B st ar sz d) fr g i v 0 m := by
  show rn_node K A B st ar sz (rn_ev K A B st ar sz d) fr g i x y m = _
  unfold rn_node
  rw [if_neg (by rw [h]; decide), if_neg (by rw [h]; decide), if_neg (by rw [h]; decide), if_neg (by rw [h]; decide), if_pos h, if_neg (by rw [b]; decide), if_pos b]
theorem rn_ev_c2 (h : K g i = 9) (b : B g i = 2) : rn_ev K A B st ar sz (d + 1) fr g i x y m =
    rn_bd (rn_ev K A B st ar sz d fr g (bs_ch (sp_c K B g) i 0) x y m) fun v m => rn_bd (rn_ev K A B st ar sz d fr g (bs_ch (sp_c K B g) i 1) x y m) fun w m => rn_call A B st ar sz (rn_ev K A B st ar sz d) fr g i v w m := by
  show rn_node K A B st ar sz (rn_ev K A B st ar sz d) fr g i x y m = _
  unfold rn_node
  rw [if_neg (by rw [h]; decide), if_neg (by rw [h]; decide), if_neg (by rw [h]; decide), if_neg (by rw [h]; decide), if_pos h, if_neg (by rw [b]; decide), if_neg (by rw [b]; decide)]
end
theorem rn_bd_t {p : rn_R} {f : Int32 → Nat → rn_R} (h : p.1 = -1) : rn_bd p f = f p.2.1 p.2.2 := if_pos h
theorem rn_bd_f {p : rn_R} {f : Int32 → Nat → rn_R} (h : p.1 ≠ -1) : rn_bd p f = p := if_neg h

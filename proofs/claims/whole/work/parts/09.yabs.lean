/-- a stack of the reference's abstract evaluation: array a, place j (0 node, 1 stage, 2 3 the parameters, 4 .. 10 what is kept) -/
def ya_z (Z : Nat → Nat → Int32) (a j : Nat) (v : Int32) : Nat → Nat → Int32 := fun a' => if a' = a then upd (Z a') j v else Z a'
theorem ya_zr (Z : Nat → Nat → Int32) (a j : Nat) (v : Int32) (a' j' : Nat) : ya_z Z a j v a' j' = if a' = a ∧ j' = j then v else Z a' j' := by
  unfold ya_z
  by_cases h : a' = a
  · rw [if_pos h]
    unfold upd
    by_cases g : j' = j
    · rw [if_pos g, if_pos ⟨h, g⟩]
    · rw [if_neg g, if_neg (fun z => g z.2)]
  · rw [if_neg h, if_neg (fun z => h z.1)]
def ya_push (Z : Nat → Nat → Int32) (p i : Nat) (e0 e1 : Int32) : Nat → Nat → Int32 := ya_z (ya_z (ya_z (ya_z Z 0 p (nI i)) 1 p 0) 2 p e0) 3 p e1
/-- what the walk goes on with, by an outcome -/
def ya_k (R : Int32 → Int32 → Int32 → Int32 → Prop) (o : ab_O) : Prop := match o with
  | none => ∀ r e0 e1, R 1 r e0 e1
  | some x => R 0 (ty_y x.1) (ty_y x.2.1) (ty_y x.2.2)
/-- the outcome that stands in the reference's four fields -/
def ya_at (b r e0 e1 : Int32) (o : ab_O) : Prop := match o with
  | none => b = 1
  | some x => b = 0 ∧ r = ty_y x.1 ∧ e0 = ty_y x.2.1 ∧ e1 = ty_y x.2.2
def ya_al (e : ab_E) : Prop := e.1 ≠ ty_0 ∧ e.2 ≠ ty_0
def ya_ag (p : Nat) (Z Z' : Nat → Nat → Int32) : Prop := ∀ a j, j < p → Z' a j = Z a j
theorem ya_ag_t {p p' : Nat} {Z Z' Z'' : Nat → Nat → Int32} (h : ya_ag p Z Z') (g : ya_ag p' Z' Z'') (hp : p ≤ p') : ya_ag p Z Z'' := fun a j hj => (g a j (by omega)).trans (h a j hj)
theorem ya_ag_z {p : Nat} {Z Z' : Nat → Nat → Int32} {a q : Nat} {v : Int32} (h : ya_ag p Z Z') (hq : p ≤ q) : ya_ag p Z (ya_z Z' a q v) := fun a' j hj => by
  rw [ya_zr, if_neg (fun z => by omega)]; exact h a' j hj
theorem ya_ag_r (p : Nat) (Z : Nat → Nat → Int32) : ya_ag p Z Z := fun _ _ _ => rfl
theorem ya_ag_p {p : Nat} {Z Z' : Nat → Nat → Int32} {q i : Nat} {e0 e1 : Int32} (h : ya_ag p Z Z') (hq : p ≤ q) : ya_ag p Z (ya_push Z' q i e0 e1) := ya_ag_z (ya_ag_z (ya_ag_z (ya_ag_z h hq) hq) hq) hq
theorem ya_push_0 (Z : Nat → Nat → Int32) (p i : Nat) (e0 e1 : Int32) : ya_push Z p i e0 e1 0 p = nI i := by
  unfold ya_push; rw [ya_zr, if_neg (by omega), ya_zr, if_neg (by omega), ya_zr, if_neg (by omega), ya_zr, if_pos ⟨rfl, rfl⟩]
theorem ya_push_1 (Z : Nat → Nat → Int32) (p i : Nat) (e0 e1 : Int32) : ya_push Z p i e0 e1 1 p = 0 := by
  unfold ya_push; rw [ya_zr, if_neg (by omega), ya_zr, if_neg (by omega), ya_zr, if_pos ⟨rfl, rfl⟩]
theorem ya_push_2 (Z : Nat → Nat → Int32) (p i : Nat) (e0 e1 : Int32) : ya_push Z p i e0 e1 2 p = e0 := by
  unfold ya_push; rw [ya_zr, if_neg (by omega), ya_zr, if_pos ⟨rfl, rfl⟩]
theorem ya_push_3 (Z : Nat → Nat → Int32) (p i : Nat) (e0 e1 : Int32) : ya_push Z p i e0 e1 3 p = e1 := by
  unfold ya_push; rw [ya_zr, if_pos ⟨rfl, rfl⟩]
theorem ya_push_l (Z : Nat → Nat → Int32) (p i : Nat) (e0 e1 : Int32) (a : Nat) {j : Nat} (h : j ≠ p) : ya_push Z p i e0 e1 a j = Z a j := by
  unfold ya_push; rw [ya_zr, if_neg (fun z => h z.2), ya_zr, if_neg (fun z => h z.2), ya_zr, if_neg (fun z => h z.2), ya_zr, if_neg (fun z => h z.2)]
theorem ya_z_s (Z : Nat → Nat → Int32) (a j : Nat) (v : Int32) : ya_z Z a j v a j = v := by rw [ya_zr, if_pos ⟨rfl, rfl⟩]
theorem ya_z_n (Z : Nat → Nat → Int32) (a j : Nat) (v : Int32) {a' j' : Nat} (h : a' ≠ a) : ya_z Z a j v a' j' = Z a' j' := by rw [ya_zr, if_neg (fun z => h z.1)]
theorem ya_i1 : (1 : Int32) = nI 1 := by decide
theorem ya_i2 : (2 : Int32) = nI 2 := by decide
theorem ya_i3 : (3 : Int32) = nI 3 := by decide
section
variable (N k n : Nat) (K A B st ar : Nat → Int32) (c : Nat → Nat) (tb : Nat → ty_T) (RA : Nat → Nat → (Nat → Nat → Int32) → Int32 → Int32 → Int32 → Int32 → Prop)
/-- the steps of the reference's abstract evaluation -/
def ya_R1 : Prop := ∀ (t p : Nat) (Z : Nat → Nat → Int32) (b r e0 e1 : Int32) (i : Nat) (e : ab_E), t < 4096 → p < 16 → i < n → Z 0 p = nI i → (K i = 0 ∨ K i = 1 ∨ K i = 2) → ab_eo k e → Z 2 p = ty_y e.1 → Z 3 p = ty_y e.2 →
  ya_k (RA (t + 1) p Z) (ab_leaf K A i e) → RA t (p + 1) Z b r e0 e1
def ya_R2 : Prop := ∀ (t p : Nat) (Z : Nat → Nat → Int32) (b r e0 e1 : Int32) (i : Nat), t < 4096 → p < 15 → i < n → Z 0 p = nI i → Z 1 p = 0 → 0 < c i →
  RA (t + 1) (p + 2) (ya_push (ya_z Z 1 p 1) (p + 1) (bs_ch c i 0) (Z 2 p) (Z 3 p)) b r e0 e1 → RA t (p + 1) Z b r e0 e1
def ya_R3 : Prop := ∀ (t p : Nat) (Z : Nat → Nat → Int32) (r e0 e1 : Int32) (i s : Nat), t < 4096 → p < 16 → i < n → Z 0 p = nI i → Z 1 p = nI s → 0 < s → s < 3 → 0 < c i → (K i = 8 → s = 1) →
  RA (t + 1) p Z 1 r e0 e1 → RA t (p + 1) Z 1 r e0 e1
def ya_R4 : Prop := ∀ (t p : Nat) (Z : Nat → Nat → Int32) (r e0 e1 : Int32) (i : Nat), t < 4096 → p < 15 → i < n → Z 0 p = nI i → Z 1 p = 1 → c i = 2 →
  RA (t + 1) (p + 2) (ya_push (ya_z (ya_z Z 4 p r) 1 p 2) (p + 1) (bs_ch c i 1) e0 e1) 0 r e0 e1 → RA t (p + 1) Z 0 r e0 e1
def ya_R5 : Prop := ∀ (t p : Nat) (Z : Nat → Nat → Int32) (i : Nat) (x : ty_T) (e : ab_E), t < 4096 → p < 16 → i < n → Z 0 p = nI i → Z 1 p = 1 → K i = 7 → ty_ok x → ab_eo k e →
  ya_k (RA (t + 1) p Z) (ab_fin ((if x.1 = 0 then 0 else 1) + (if x.2.1 = 0 then 0 else 2), 0, 0) e) → RA t (p + 1) Z 0 (ty_y x) (ty_y e.1) (ty_y e.2)
def ya_R6 : Prop := ∀ (t p : Nat) (Z : Nat → Nat → Int32) (i : Nat) (x y : ty_T) (e : ab_E), t < 4096 → p < 16 → i < n → Z 0 p = nI i → Z 1 p = 2 → (K i = 3 ∨ K i = 4 ∨ K i = 5 ∨ K i = 6) → Z 4 p = ty_y x → ty_ok x → ty_ok y → ab_eo k e →
  ya_k (RA (t + 1) p Z) (ab_opf K A c i x y e) → RA t (p + 1) Z 0 (ty_y y) (ty_y e.1) (ty_y e.2)
def ya_zi (Z : Nat → Nat → Int32) (p : Nat) (x : ty_T) (u : ab_E) : Nat → Nat → Int32 := ya_z (ya_z (ya_z (ya_z Z 4 p (nI x.1)) 5 p (ty_y u.1)) 6 p (ty_y u.2)) 1 p 2
def ya_R7 : Prop := ∀ (t p : Nat) (Z : Nat → Nat → Int32) (i : Nat) (x : ty_T) (e : ab_E), t < 4096 → p < 15 → i < n → Z 0 p = nI i → Z 1 p = 1 → K i = 8 → ty_ok x → ab_eo k e →
  (x.1.testBit 1 = true → ya_al (ab_th K A c i ty_ints e) → RA (t + 1) (p + 2) (ya_push (ya_zi Z p x (ab_th K A c i ty_ats e)) (p + 1) (bs_ch c i 1) (ty_y (ab_th K A c i ty_ints e).1) (ty_y (ab_th K A c i ty_ints e).2)) 0 (ty_y x) (ty_y e.1) (ty_y e.2)) →
  (¬ (x.1.testBit 1 = true ∧ ya_al (ab_th K A c i ty_ints e)) → RA (t + 1) (p + 1) (ya_zi Z p x (ab_th K A c i ty_ats e)) 1 (ty_y x) (ty_y e.1) (ty_y e.2)) →
  RA t (p + 1) Z 0 (ty_y x) (ty_y e.1) (ty_y e.2)
def ya_zj (Z : Nat → Nat → Int32) (p : Nat) (b r e0 e1 : Int32) : Nat → Nat → Int32 := ya_z (ya_z (ya_z (ya_z (ya_z Z 7 p b) 8 p r) 9 p e0) 10 p e1) 1 p 3
def ya_R8 : Prop := ∀ (t p : Nat) (Z : Nat → Nat → Int32) (b r e0 e1 : Int32) (i m : Nat) (u : ab_E), t < 4096 → p < 15 → i < n → Z 0 p = nI i → Z 1 p = 2 → K i = 8 → m < 256 → Z 4 p = nI m → Z 5 p = ty_y u.1 → Z 6 p = ty_y u.2 → ab_eo k u →
  (m.testBit 0 = true → ya_al u → RA (t + 1) (p + 2) (ya_push (ya_zj Z p b r e0 e1) (p + 1) (bs_ch c i 2) (ty_y u.1) (ty_y u.2)) b r e0 e1) →
  (¬ (m.testBit 0 = true ∧ ya_al u) → RA (t + 1) (p + 1) (ya_zj Z p b r e0 e1) 1 r e0 e1) →
  RA t (p + 1) Z b r e0 e1
def ya_R9 : Prop := ∀ (t p : Nat) (Z : Nat → Nat → Int32) (b r e0 e1 : Int32) (i : Nat) (o o' : ab_O), t < 4096 → p < 16 → i < n → Z 0 p = nI i → Z 1 p = 3 → K i = 8 → ab_po k o → ab_po k o' → ya_at (Z 7 p) (Z 8 p) (Z 9 p) (Z 10 p) o → ya_at b r e0 e1 o' →
  ya_k (RA (t + 1) p Z) (ab_jn o o') → RA t (p + 1) Z b r e0 e1
def ya_R10 : Prop := ∀ (t p : Nat) (Z : Nat → Nat → Int32) (b r e0 e1 : Int32) (i : Nat) (e : ab_E), t < 4096 → p < 16 → i < n → Z 0 p = nI i → Z 1 p = 0 → K i = 9 → B i = 0 → ab_eo k e → Z 2 p = ty_y e.1 → Z 3 p = ty_y e.2 →
  ya_k (RA (t + 1) p Z) (ab_cl0 A B st ar tb i e) → RA t (p + 1) Z b r e0 e1
def ya_R11 : Prop := ∀ (t p : Nat) (Z : Nat → Nat → Int32) (i : Nat) (x : ty_T) (e : ab_E), t < 4096 → p < 16 → i < n → Z 0 p = nI i → Z 1 p = 1 → K i = 9 → B i = 1 → ty_ok x → ab_eo k e →
  ya_k (RA (t + 1) p Z) (ab_cl1 K A B st ar c tb i x e) → RA t (p + 1) Z 0 (ty_y x) (ty_y e.1) (ty_y e.2)
def ya_R12 : Prop := ∀ (t p : Nat) (Z : Nat → Nat → Int32) (i : Nat) (x y : ty_T) (e : ab_E), t < 4096 → p < 16 → i < n → Z 0 p = nI i → Z 1 p = 2 → K i = 9 → B i = 2 → Z 4 p = ty_y x → ty_ok x → ty_ok y → ab_eo k e →
  ya_k (RA (t + 1) p Z) (ab_cl2 K A B st ar c tb i x y e) → RA t (p + 1) Z 0 (ty_y y) (ty_y e.1) (ty_y e.2)
end

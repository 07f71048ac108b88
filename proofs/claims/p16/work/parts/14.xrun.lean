/-- the component's run as a machine: arrays 0 values, 1 arguments, 2 frameSlots, 3 frameNodes -/
def xr_fin (Z Z' : Nat → Nat → Int32) (fr r : Nat) (v nx : Int32) : Prop :=
  Z' 0 (fr * 128 + r) = v ∧ (∀ j, j ≠ fr * 128 + r → Z' 0 j = Z 0 j) ∧ (∀ j, Z' 1 j = Z 1 j) ∧ (∀ j, Z' 2 j = Z 2 j) ∧ Z' 3 fr = nx ∧ (∀ j, j ≠ fr → Z' 3 j = Z 3 j)
def xr_ag (fr lo : Nat) (Z Z' : Nat → Nat → Int32) : Prop :=
  (∀ j, j < fr * 128 + lo → Z' 0 j = Z 0 j) ∧ (∀ j, j < fr * 2 + 2 → Z' 1 j = Z 1 j) ∧ (∀ j, j < fr + 1 → Z' 2 j = Z 2 j) ∧ (∀ j, j < fr → Z' 3 j = Z 3 j)
theorem xr_ag_r (fr lo : Nat) (Z : Nat → Nat → Int32) : xr_ag fr lo Z Z := ⟨fun _ _ => rfl, fun _ _ => rfl, fun _ _ => rfl, fun _ _ => rfl⟩
theorem xr_ag_t {fr lo lo' : Nat} {Z Z' Z'' : Nat → Nat → Int32} (h : xr_ag fr lo Z Z') (g : xr_ag fr lo' Z' Z'') (hl : lo ≤ lo') : xr_ag fr lo Z Z'' :=
  ⟨fun j hj => (g.1 j (by omega)).trans (h.1 j hj), fun j hj => (g.2.1 j hj).trans (h.2.1 j hj), fun j hj => (g.2.2.1 j hj).trans (h.2.2.1 j hj), fun j hj => (g.2.2.2 j hj).trans (h.2.2.2 j hj)⟩
theorem xr_ag_f {fr lo r : Nat} {Z Z' Z'' : Nat → Nat → Int32} {v nx : Int32} (h : xr_ag fr lo Z Z') (g : xr_fin Z' Z'' fr r v nx) (hl : lo ≤ r) : xr_ag fr lo Z Z'' :=
  ⟨fun j hj => (g.2.1 j (by omega)).trans (h.1 j hj), fun j hj => (g.2.2.1 j).trans (h.2.1 j hj), fun j hj => (g.2.2.2.1 j).trans (h.2.2.1 j hj), fun j hj => (g.2.2.2.2.2 j (by omega)).trans (h.2.2.2 j hj)⟩
section
variable (N : Nat) (K A B : Nat → Nat → Int32) (st ar : Nat → Int32) (sz S : Nat → Nat) (XR : Nat → Nat → Nat → (Nat → Nat → Int32) → Prop) (XF : Nat → Nat → Nat → Int32 → Nat → (Nat → Nat → Int32) → Prop) (XE : Int32 → Prop)
def xr_in (t fr g i : Nat) : Prop := t < 1000000 ∧ fr < 16 ∧ g < N ∧ st g = 2 ∧ i < sz g
/-- the frame fr stands at row i of slot g -/
def xr_at (Z : Nat → Nat → Int32) (fr g i : Nat) : Prop := Z 2 fr = nI g ∧ Z 3 fr = nI (S g + i)
def xr_v (Z : Nat → Nat → Int32) (fr g i : Nat) : Int32 := Z 0 (fr * 128 + (S g + i))
def xr_M1 : Prop := ∀ (t m fr g i : Nat) (Z : Nat → Nat → Int32), xr_in N st sz t fr g i → xr_at S Z fr g i → (K g i = 0 ∨ K g i = 1 ∨ K g i = 2) →
  XF (t + 1) fr (S g + i) (if K g i = 0 then A g i else if K g i = 1 then 1000 + A g i else if A g i = 0 then Z 1 (fr * 2) else Z 1 (fr * 2 + 1)) m Z → XR t (fr + 1) m Z
def xr_M2 : Prop := ∀ (t m fr g i : Nat) (v w : Int32) (Z : Nat → Nat → Int32), xr_in N st sz t fr g i → xr_at S Z fr g i → (K g i = 3 ∨ K g i = 4 ∨ K g i = 5 ∨ K g i = 6) → rn_ok v → rn_ok w →
  xr_v S Z fr g (bs_ch (sp_c K B g) i 0) = v → xr_v S Z fr g (bs_ch (sp_c K B g) i 1) = w →
  ((rn_op (K g i) v w m).1 = -1 → XF (t + 1) fr (S g + i) (rn_op (K g i) v w m).2.1 m Z) → ((rn_op (K g i) v w m).1 ≠ -1 → XE (rn_op (K g i) v w m).1) → XR t (fr + 1) m Z
def xr_M3 : Prop := ∀ (t m fr g i : Nat) (v : Int32) (Z : Nat → Nat → Int32), xr_in N st sz t fr g i → xr_at S Z fr g i → K g i = 7 → rn_ok v → xr_v S Z fr g (bs_ch (sp_c K B g) i 0) = v →
  XF (t + 1) fr (S g + i) (if v < 1000 then 1001 else 1000) m Z → XR t (fr + 1) m Z
def xr_M4 : Prop := ∀ (t m fr g i : Nat) (Z : Nat → Nat → Int32), xr_in N st sz t fr g i → xr_at S Z fr g i → K g i = 8 →
  XF (t + 1) fr (S g + i) (if xr_v S Z fr g (bs_ch (sp_c K B g) i 0) = 1001 then xr_v S Z fr g (bs_ch (sp_c K B g) i 1) else xr_v S Z fr g (bs_ch (sp_c K B g) i 2)) m Z → XR t (fr + 1) m Z
def xr_M5 : Prop := ∀ (t m fr g i b : Nat) (v w : Int32) (Z : Nat → Nat → Int32), xr_in N st sz t fr g i → xr_at S Z fr g i → K g i = 9 → B g i = nI b → b ≤ 2 → m ≤ 200 →
  (b = 0 → v = 0 ∧ w = 0) → (b = 1 → v = xr_v S Z fr g (bs_ch (sp_c K B g) i 0) ∧ w = 0) → (b = 2 → v = xr_v S Z fr g (bs_ch (sp_c K B g) i 0) ∧ w = xr_v S Z fr g (bs_ch (sp_c K B g) i 1)) →
  (∀ a, a < N → A g i = nI a → st a = 2 → ar a = B g i → m < 200 → fr < 15 →
    ∀ Z', (∀ j, Z' 0 j = Z 0 j) → (∀ j, j < fr * 2 + 2 → Z' 1 j = Z 1 j) → (∀ j, j < fr + 1 → Z' 2 j = Z 2 j) → (∀ j, j < fr + 1 → Z' 3 j = Z 3 j) → Z' 1 ((fr + 1) * 2) = v → Z' 1 ((fr + 1) * 2 + 1) = w → xr_at S Z' (fr + 1) a 0 → XR (t + 1) (fr + 2) (m + 1) Z') →
  (st (A g i).toNatClampNeg = 2 → ar (A g i).toNatClampNeg = B g i → (200 ≤ m ∨ 15 ≤ fr) → XE 2) →
  (¬ (st (A g i).toNatClampNeg = 2 ∧ ar (A g i).toNatClampNeg = B g i) → XE 1) → XR t (fr + 1) m Z
/-- the end of a called body -/
def xr_M6 : Prop := ∀ (t m fr g g' i' : Nat) (Z : Nat → Nat → Int32), t < 1000000 → fr < 15 → g < N → st g = 2 → 0 < sz g → Z 2 (fr + 1) = nI g → Z 3 (fr + 1) = nI (S g + sz g) → g' < N → st g' = 2 → i' < sz g' → Z 3 fr = nI (S g' + i') →
  XF (t + 1) fr (S g' + i') (xr_v S Z (fr + 1) g (sz g - 1)) m Z → XR t (fr + 2) m Z
def xr_F0 : Prop := ∀ (t m fr g : Nat) (v : Int32) (Z : Nat → Nat → Int32), fr < 16 → g < N → st g = 2 → 0 < sz g → rn_ok v → (∀ Z', xr_fin Z Z' fr (S g + (sz g - 1)) v (nI (S g + sz g)) → XR t (fr + 1) m Z') → XF t fr (S g + (sz g - 1)) v m Z
def xr_F1 : Prop := ∀ (t m fr g i j : Nat) (v : Int32) (Z : Nat → Nat → Int32), fr < 16 → g < N → st g = 2 → i < sz g → j < sp_c K B g i → (K g i = 8 → j = 2) → rn_ok v →
  (∀ Z', xr_fin Z Z' fr (S g + bs_ch (sp_c K B g) i j) v (nI (S g + (bs_ch (sp_c K B g) i j + 1))) → XR t (fr + 1) m Z') → XF t fr (S g + bs_ch (sp_c K B g) i j) v m Z
def xr_F2 : Prop := ∀ (t m fr g i : Nat) (v : Int32) (Z : Nat → Nat → Int32), fr < 16 → g < N → st g = 2 → i < sz g → K g i = 8 → rn_ok v →
  (v = 1001 → ∀ Z', xr_fin Z Z' fr (S g + bs_ch (sp_c K B g) i 0) v (nI (S g + (bs_ch (sp_c K B g) i 0 + 1))) → XR t (fr + 1) m Z') →
  (v = 1000 → ∀ Z', xr_fin Z Z' fr (S g + bs_ch (sp_c K B g) i 0) v (nI (S g + (bs_ch (sp_c K B g) i 1 + 1))) → XR t (fr + 1) m Z') →
  (v ≠ 1001 → v ≠ 1000 → XE 1) → XF t fr (S g + bs_ch (sp_c K B g) i 0) v m Z
def xr_F3 : Prop := ∀ (t m fr g i : Nat) (v : Int32) (Z : Nat → Nat → Int32), fr < 16 → g < N → st g = 2 → i < sz g → K g i = 8 → rn_ok v →
  (∀ Z', xr_fin Z Z' fr (S g + bs_ch (sp_c K B g) i 1) v (nI (S g + i)) → XR t (fr + 1) m Z') → XF t fr (S g + bs_ch (sp_c K B g) i 1) v m Z
def xr_S (d : Nat) : Prop := ∀ (fr g i m t : Nat) (x y : Int32) (Z : Nat → Nat → Int32), (15 - fr) * 128 + i < d → fr < 16 → g < N → st g = 2 → i < sz g → rn_ag (ar g) x y → m ≤ 200 → xr_at S Z fr g (bs_ss (sp_c K B g) i) → Z 1 (fr * 2) = x → Z 1 (fr * 2 + 1) = y →
  t + (i + 1 - bs_ss (sp_c K B g) i) + 130 * (200 - m) ≤ 100000 →
  ((rn_ev K A B st ar sz d fr g i x y m).1 ≠ -1 → XE (rn_ev K A B st ar sz d fr g i x y m).1) →
  ((rn_ev K A B st ar sz d fr g i x y m).1 = -1 → ∀ (t' : Nat) (Z' : Nat → Nat → Int32), t' + 130 * (200 - (rn_ev K A B st ar sz d fr g i x y m).2.2) ≤ t + (i + 1 - bs_ss (sp_c K B g) i) + 130 * (200 - m) →
    xr_ag fr (S g + bs_ss (sp_c K B g) i) Z Z' → XF t' fr (S g + i) (rn_ev K A B st ar sz d fr g i x y m).2.1 (rn_ev K A B st ar sz d fr g i x y m).2.2 Z') → XR t (fr + 1) m Z
end
section
variable {N : Nat} {K A B : Nat → Nat → Int32} {st ar : Nat → Int32} {sz S : Nat → Nat} {XR : Nat → Nat → Nat → (Nat → Nat → Int32) → Prop} {XF : Nat → Nat → Nat → Int32 → Nat → (Nat → Nat → Int32) → Prop} {XE : Int32 → Prop}
/-- a call, its body, and the way back to the calling row -/
theorem xr_cl (hN : N ≤ 8) (hp0 : sp_ok N K A B st ar sz) (hroot : ∀ g, g < N → st g = 2 → bs_ss (sp_c K B g) (sz g - 1) = 0) (hS : ∀ g, g < N → st g = 2 → S g + sz g ≤ 128) (M5 : xr_M5 N K A B st ar sz S XR XE) (M6 : xr_M6 N st sz S XR XF) (F0 : xr_F0 N st sz S XR XF) {d : Nat} (ih : xr_S N K A B st ar sz S XR XF XE d)
    {fr g i b m t lo : Nat} {v w : Int32} {Z : Nat → Nat → Int32} (hd : (15 - fr) * 128 + i < d + 1) (hf : fr < 16) (hg : g < N) (hs : st g = 2) (hi : i < sz g) (h9 : K g i = 9) (hb : B g i = nI b) (hb2 : b ≤ 2) (hv : rn_ok v) (hw : rn_ok w) (hm : m ≤ 200) (hat : xr_at S Z fr g i) (hlo : lo ≤ S g + i)
    (ht : t + 1 + 130 * (200 - m) ≤ 100000)
    (a0 : b = 0 → v = 0 ∧ w = 0) (a1 : b = 1 → v = xr_v S Z fr g (bs_ch (sp_c K B g) i 0) ∧ w = 0) (a2 : b = 2 → v = xr_v S Z fr g (bs_ch (sp_c K B g) i 0) ∧ w = xr_v S Z fr g (bs_ch (sp_c K B g) i 1))
    (hE : (rn_call A B st ar sz (rn_ev K A B st ar sz d) fr g i v w m).1 ≠ -1 → XE (rn_call A B st ar sz (rn_ev K A B st ar sz d) fr g i v w m).1)
    (hK : (rn_call A B st ar sz (rn_ev K A B st ar sz d) fr g i v w m).1 = -1 → ∀ (t' : Nat) (Z' : Nat → Nat → Int32), t' + 130 * (200 - (rn_call A B st ar sz (rn_ev K A B st ar sz d) fr g i v w m).2.2) ≤ t + 130 * (200 - m) →
      xr_ag fr lo Z Z' → XF t' fr (S g + i) (rn_call A B st ar sz (rn_ev K A B st ar sz d) fr g i v w m).2.1 (rn_call A B st ar sz (rn_ev K A B st ar sz d) fr g i v w m).2.2 Z') : XR t (fr + 1) m Z := by
  obtain ⟨_, _, _, _, hz, _⟩ := hp0 g hg hs
  refine M5 t m fr g i b v w Z ⟨by omega, hf, hg, hs, hi⟩ hat h9 hb hb2 hm a0 a1 a2 ?_ ?_ ?_
  · intro a ha ea sa aa hm2 hf2 Z1 z0 z1 z2 z3 zv zw zat
    have ec : rn_call A B st ar sz (rn_ev K A B st ar sz d) fr g i v w m = rn_ev K A B st ar sz d (fr + 1) a (sz a - 1) v w (m + 1) := by
      unfold rn_call
      rw [ea, nI_clamp (by omega), if_pos sa, if_pos aa, if_neg (by omega), if_neg (by omega)]
    rw [ec] at hE hK
    obtain ⟨k, _, _, y0, y1, _⟩ := hp0 a ha sa
    have r0 := hroot a ha sa
    have g1 := rn_ev_gd hN hp0 d (fr + 1) a (sz a - 1) v w (m + 1) ha sa (by omega) ⟨fun _ => hv, fun _ => hw⟩ (by omega)
    have g3 := g1.2.2.1
    have g4 := g1.2.2.2
    refine ih (fr + 1) a (sz a - 1) (m + 1) (t + 1) v w Z1 (by omega) (by omega) ha sa (by omega) ⟨fun _ => hv, fun _ => hw⟩ (by omega) (by rw [r0]; exact zat) zv zw (by omega) hE ?_
    intro e t2 Z2 ht2 ag2
    refine F0 t2 _ (fr + 1) a _ Z2 (by omega) ha sa y0 (g1.2.1 e) ?_
    intro Z3 fin
    refine M6 t2 _ fr a g i Z3 (by omega) (by omega) ha sa y0 ?_ fin.2.2.2.2.1 hg hs hi ?_ ?_
    · exact (fin.2.2.2.1 _).trans ((ag2.2.2.1 _ (by omega)).trans zat.1)
    · exact (fin.2.2.2.2.2 _ (by omega)).trans ((ag2.2.2.2 _ (by omega)).trans ((z3 _ (by omega)).trans hat.2))
    · have vv : xr_v S Z3 (fr + 1) a (sz a - 1) = (rn_ev K A B st ar sz d (fr + 1) a (sz a - 1) v w (m + 1)).2.1 := fin.1
      rw [vv]
      refine hK e (t2 + 1) Z3 (by omega) ⟨fun j hj => ?_, fun j hj => ?_, fun j hj => ?_, fun j hj => ?_⟩
      · have := hS g hg hs
        exact (fin.2.1 j (by omega)).trans ((ag2.1 j (by omega)).trans (z0 j))
      · exact (fin.2.2.1 j).trans ((ag2.2.1 j (by omega)).trans (z1 j hj))
      · exact (fin.2.2.2.1 j).trans ((ag2.2.2.1 j (by omega)).trans (z2 j hj))
      · exact (fin.2.2.2.2.2 j (by omega)).trans ((ag2.2.2.2 j (by omega)).trans (z3 j (by omega)))
  · intro sa aa lim
    have ec : rn_call A B st ar sz (rn_ev K A B st ar sz d) fr g i v w m = (2, 0, m) := by
      unfold rn_call
      rw [if_pos sa, if_pos aa]
      by_cases z : 200 ≤ m
      · rw [if_pos z]
      · rw [if_neg z, if_pos (by omega)]
    rw [ec] at hE
    exact hE (rn_n2 _ _)
  · intro no
    have ec : rn_call A B st ar sz (rn_ev K A B st ar sz d) fr g i v w m = (1, 0, m) := by
      unfold rn_call
      by_cases sa : st (A g i).toNatClampNeg = 2
      · rw [if_pos sa, if_neg (fun z => no ⟨sa, z⟩)]
      · rw [if_neg sa]
    rw [ec] at hE
    exact hE (rn_n1 _ _)
/-- a child of row i, from its beginning to the row nx where its end leads -/
theorem xr_go {d : Nat} (ih : xr_S N K A B st ar sz S XR XF XE d) (hN : N ≤ 8) (hp0 : sp_ok N K A B st ar sz)
    {fr g i j m t nx : Nat} {x y : Int32} {Z : Nat → Nat → Int32} (hd : (15 - fr) * 128 + i < d + 1) (hf : fr < 16) (hg : g < N) (hs : st g = 2) (hi : i < sz g) (hw : bs_wf (sp_c K B g) (sz g)) (hj : j < sp_c K B g i)
    (fin : ∀ (t' m' : Nat) (v : Int32) (Z1 : Nat → Nat → Int32), rn_ok v → (∀ Z', xr_fin Z1 Z' fr (S g + bs_ch (sp_c K B g) i j) v (nI (S g + nx)) → XR t' (fr + 1) m' Z') → XF t' fr (S g + bs_ch (sp_c K B g) i j) v m' Z1)
    (hxy : rn_ag (ar g) x y) (hm : m ≤ 200) (hat : xr_at S Z fr g (bs_ss (sp_c K B g) (bs_ch (sp_c K B g) i j))) (h5 : Z 1 (fr * 2) = x) (h6 : Z 1 (fr * 2 + 1) = y)
    (ht : t + (bs_ch (sp_c K B g) i j + 1 - bs_ss (sp_c K B g) (bs_ch (sp_c K B g) i j)) + 130 * (200 - m) ≤ 100000)
    (hE : (rn_ev K A B st ar sz d fr g (bs_ch (sp_c K B g) i j) x y m).1 ≠ -1 → XE (rn_ev K A B st ar sz d fr g (bs_ch (sp_c K B g) i j) x y m).1)
    (hK : (rn_ev K A B st ar sz d fr g (bs_ch (sp_c K B g) i j) x y m).1 = -1 → ∀ (t' : Nat) (Z' : Nat → Nat → Int32),
      t' + 130 * (200 - (rn_ev K A B st ar sz d fr g (bs_ch (sp_c K B g) i j) x y m).2.2) ≤ t + (bs_ch (sp_c K B g) i j + 1 - bs_ss (sp_c K B g) (bs_ch (sp_c K B g) i j)) + 130 * (200 - m) →
      xr_ag fr (S g + bs_ss (sp_c K B g) (bs_ch (sp_c K B g) i j)) Z Z' → xr_at S Z' fr g nx → xr_v S Z' fr g (bs_ch (sp_c K B g) i j) = (rn_ev K A B st ar sz d fr g (bs_ch (sp_c K B g) i j) x y m).2.1 →
      Z' 1 (fr * 2) = x → Z' 1 (fr * 2 + 1) = y → XR t' (fr + 1) (rn_ev K A B st ar sz d fr g (bs_ch (sp_c K B g) i j) x y m).2.2 Z') : XR t (fr + 1) m Z := by
  have lt := bs_ch_lt hw hi hj
  have sl := bs_ss_le (sp_c K B g) (bs_ch (sp_c K B g) i j)
  have g0 := rn_ev_gd hN hp0 d fr g (bs_ch (sp_c K B g) i j) x y m hg hs (by omega) hxy hm
  refine ih fr g (bs_ch (sp_c K B g) i j) m t x y Z (by omega) hf hg hs (by omega) hxy hm hat h5 h6 ht hE ?_
  intro e t1 Z1 ht1 ag1
  refine fin t1 _ _ Z1 (g0.2.1 e) ?_
  intro Z2 f2
  exact hK e t1 Z2 ht1 (xr_ag_f ag1 f2 (by omega)) ⟨(f2.2.2.2.1 fr).trans ((ag1.2.2.1 fr (by omega)).trans hat.1), f2.2.2.2.2.1⟩ f2.1
    ((f2.2.2.1 _).trans ((ag1.2.1 _ (by omega)).trans h5)) ((f2.2.2.1 _).trans ((ag1.2.1 _ (by omega)).trans h6))
theorem xr_vk {fr g lo j : Nat} {Z Z' : Nat → Nat → Int32} (h : xr_ag fr (S g + lo) Z Z') (hj : j < lo) : xr_v S Z' fr g j = xr_v S Z fr g j := h.1 _ (by omega)
theorem xr_sim (hN : N ≤ 8) (hp0 : sp_ok N K A B st ar sz) (hroot : ∀ g, g < N → st g = 2 → bs_ss (sp_c K B g) (sz g - 1) = 0) (hS : ∀ g, g < N → st g = 2 → S g + sz g ≤ 128)
    (M1 : xr_M1 N K A st sz S XR XF) (M2 : xr_M2 N K B st sz S XR XF XE) (M3 : xr_M3 N K B st sz S XR XF) (M4 : xr_M4 N K B st sz S XR XF) (M5 : xr_M5 N K A B st ar sz S XR XE) (M6 : xr_M6 N st sz S XR XF)
    (F0 : xr_F0 N st sz S XR XF) (F1 : xr_F1 N K B st sz S XR XF) (F2 : xr_F2 N K B st sz S XR XF XE) (F3 : xr_F3 N K B st sz S XR XF) : ∀ d, xr_S N K A B st ar sz S XR XF XE d := by
  intro d
  induction d with
  | zero => intro fr g i m t x y Z hd; exact absurd hd (Nat.not_lt_zero _)
  | succ d ih =>
    intro fr g i m t x y Z hd hf hg hs hi hxy hm hat h5 h6 ht hE hK
    obtain ⟨k, hk, ek, hz0, hz, hb⟩ := hp0 g hg hs
    have sl := bs_ss_le (sp_c K B g) i
    have gd : ∀ j m1, j < sp_c K B g i → m1 ≤ 200 → rn_gd m1 (rn_ev K A B st ar sz d fr g (bs_ch (sp_c K B g) i j) x y m1) :=
      fun j m1 hj h1 => rn_ev_gd hN hp0 d fr g _ x y m1 hg hs (ab_ch hb hi hj) hxy h1
    have c0 : 0 < sp_c K B g i → bs_ss (sp_c K B g) (bs_ch (sp_c K B g) i 0) = bs_ss (sp_c K B g) i := fun h => bs_ch_0 hb.2.2 hi h
    have lt : ∀ j, j < sp_c K B g i → bs_ch (sp_c K B g) i j < i := fun j hj => bs_ch_lt hb.2.2 hi hj
    have sle : ∀ j, bs_ss (sp_c K B g) j ≤ j := bs_ss_le _
    have f1 : ∀ j, j < sp_c K B g i → (K g i = 8 → j = 2) → ∀ (t' m' : Nat) (v : Int32) (Z1 : Nat → Nat → Int32), rn_ok v →
        (∀ Z', xr_fin Z1 Z' fr (S g + bs_ch (sp_c K B g) i j) v (nI (S g + (bs_ch (sp_c K B g) i j + 1))) → XR t' (fr + 1) m' Z') → XF t' fr (S g + bs_ch (sp_c K B g) i j) v m' Z1 :=
      fun j hj h8 t' m' v Z1 hv k => F1 t' m' fr g i j v Z1 hf hg hs hi hj h8 hv k
    have leaf : (K g i = 0 ∨ K g i = 1 ∨ K g i = 2) → sp_c K B g i = 0 → XR t (fr + 1) m Z := by
      intro h hc
      have s0 := bs_ss_0 hc
      rw [s0] at hat ht hK
      rw [rn_ev_lf h] at hK
      refine M1 t m fr g i Z ⟨by omega, hf, hg, hs, hi⟩ hat h ?_
      rw [h5, h6]
      exact hK rfl (t + 1) Z (by dsimp only; omega) (xr_ag_r ..)
    have op : (K g i = 3 ∨ K g i = 4 ∨ K g i = 5 ∨ K g i = 6) → sp_c K B g i = 2 → XR t (fr + 1) m Z := by
      intro h hc
      have n8 : ¬ K g i = 8 := by rcases h with h | h | h | h <;> rw [h] <;> decide
      have e1 := c0 (by omega)
      have e2 := bs_ch_n hb.2.2 hi (k := 0) (by omega)
      have e3 := bs_ch_l hb.2.2 hi (k := 1) (by omega)
      have l0 := lt 0 (by omega)
      have l1 := lt 1 (by omega)
      have s0 := sle (bs_ch (sp_c K B g) i 0)
      have s1 := sle (bs_ch (sp_c K B g) i 1)
      have g0 := gd 0 m (by omega) hm
      rw [Nat.zero_add] at e2
      refine xr_go ih hN hp0 hd hf hg hs hi hb.2.2 (j := 0) (by omega) (f1 0 (by omega) (fun z => absurd z n8)) hxy hm (by rw [e1]; exact hat) h5 h6 (by omega) (fun n => ?_) (fun y1 t1 Z1 ht1 ag1 at1 v1 q5 q6 => ?_)
      · rw [rn_ev_op h, rn_bd_f n] at hE
        exact hE n
      · have g1 := gd 1 _ (by omega) g0.2.2.2
        refine xr_go ih hN hp0 hd hf hg hs hi hb.2.2 (j := 1) (by omega) (f1 1 (by omega) (fun z => absurd z n8)) hxy g0.2.2.2 (by rw [e2]; exact at1) q5 q6 (by omega) (fun n => ?_) (fun y2 t2 Z2 ht2 ag2 at2 v2 q5 q6 => ?_)
        · rw [rn_ev_op h, rn_bd_t y1, rn_bd_f n] at hE
          exact hE n
        · rw [rn_ev_op h, rn_bd_t y1, rn_bd_t y2] at hE hK
          rw [rn_op_m] at hK
          rw [e3] at at2
          refine M2 t2 _ fr g i _ _ Z2 ⟨by omega, hf, hg, hs, hi⟩ at2 h (g0.2.1 y1) (g1.2.1 y2) ((xr_vk ag2 (by omega)).trans v1) v2 (fun o => ?_) hE
          exact hK o (t2 + 1) Z2 (by omega) (xr_ag_t (by rw [← e1]; exact ag1) ag2 (by omega))
    rcases bd_10 (hb.1 i hi) with h | h | h | h | h | h | h | h | h | h
    · exact leaf (Or.inl h) (by rw [hb.2.1 i, h]; exact bs_cc0 _)
    · exact leaf (Or.inr (Or.inl h)) (by rw [hb.2.1 i, h]; exact bs_cc1 _)
    · exact leaf (Or.inr (Or.inr h)) (by rw [hb.2.1 i, h]; exact bs_cc2 _)
    · exact op (Or.inl h) (by rw [hb.2.1 i, h]; exact bs_cc3 _)
    · exact op (Or.inr (Or.inl h)) (by rw [hb.2.1 i, h]; exact bs_cc4 _)
    · exact op (Or.inr (Or.inr (Or.inl h))) (by rw [hb.2.1 i, h]; exact bs_cc5 _)
    · exact op (Or.inr (Or.inr (Or.inr h))) (by rw [hb.2.1 i, h]; exact bs_cc6 _)
    · have hc := ab_c7 hb h
      have n8 : ¬ K g i = 8 := by rw [h]; decide
      have e1 := c0 (by omega)
      have e3 := bs_ch_l hb.2.2 hi (k := 0) (by omega)
      have l0 := lt 0 (by omega)
      have s0 := sle (bs_ch (sp_c K B g) i 0)
      have g0 := gd 0 m (by omega) hm
      refine xr_go ih hN hp0 hd hf hg hs hi hb.2.2 (j := 0) (by omega) (f1 0 (by omega) (fun z => absurd z n8)) hxy hm (by rw [e1]; exact hat) h5 h6 (by omega) (fun n => ?_) (fun y1 t1 Z1 ht1 ag1 at1 v1 q5 q6 => ?_)
      · rw [rn_ev_isi h, rn_bd_f n] at hE
        exact hE n
      · rw [rn_ev_isi h, rn_bd_t y1] at hK
        rw [e3] at at1
        exact M3 t1 _ fr g i _ Z1 ⟨by omega, hf, hg, hs, hi⟩ at1 h (g0.2.1 y1) v1 (hK rfl (t1 + 1) Z1 (by dsimp only; omega) (by rw [← e1]; exact ag1))
    · have hc := ab_c8 hb h
      have e1 := c0 (by omega)
      have e2 := bs_ch_n hb.2.2 hi (k := 0) (by omega)
      have e3 := bs_ch_n hb.2.2 hi (k := 1) (by omega)
      have e4 := bs_ch_l hb.2.2 hi (k := 2) (by omega)
      have l0 := lt 0 (by omega)
      have l1 := lt 1 (by omega)
      have l2 := lt 2 (by omega)
      have s0 := sle (bs_ch (sp_c K B g) i 0)
      have s1 := sle (bs_ch (sp_c K B g) i 1)
      have s2 := sle (bs_ch (sp_c K B g) i 2)
      have g0 := gd 0 m (by omega) hm
      rw [Nat.zero_add] at e2
      rw [show 1 + 1 = 2 from rfl] at e3
      refine ih fr g (bs_ch (sp_c K B g) i 0) m t x y Z (by omega) hf hg hs (by omega) hxy hm (by rw [e1]; exact hat) h5 h6 (by omega) (fun n => ?_) (fun y1 t1 Z1 ht1 ag1 => ?_)
      · rw [rn_ev_if h, rn_bd_f n] at hE
        exact hE n
      · rw [rn_ev_if h, rn_bd_t y1] at hE hK
        refine F2 t1 _ fr g i _ Z1 hf hg hs hi h (g0.2.1 y1) (fun vt Z2 f2 => ?_) (fun vf Z2 f2 => ?_) (fun nt nf => ?_)
        · rw [if_pos vt] at hE hK
          have ag2 : xr_ag fr (S g + bs_ss (sp_c K B g) (bs_ch (sp_c K B g) i 0)) Z Z2 := xr_ag_f ag1 f2 (by omega)
          have g1 := gd 1 _ (by omega) g0.2.2.2
          refine xr_go ih hN hp0 hd hf hg hs hi hb.2.2 (j := 1) (nx := i) (by omega) (fun t' m' v Z1 hv k => F3 t' m' fr g i v Z1 hf hg hs hi h hv k) hxy g0.2.2.2
            ⟨(f2.2.2.2.1 fr).trans ((ag1.2.2.1 fr (by omega)).trans hat.1), by rw [e2]; exact f2.2.2.2.2.1⟩ ((ag2.2.1 _ (by omega)).trans h5) ((ag2.2.1 _ (by omega)).trans h6) (by omega) hE (fun y2 t3 Z3 ht3 ag3 at3 v3 q5 q6 => ?_)
          refine M4 t3 _ fr g i Z3 ⟨by omega, hf, hg, hs, hi⟩ at3 h ?_
          rw [if_pos ((xr_vk ag3 (by omega)).trans (f2.1.trans vt)), v3]
          exact hK y2 (t3 + 1) Z3 (by omega) (xr_ag_t (by rw [← e1]; exact ag2) ag3 (by omega))
        · rw [if_neg (by rw [vf]; decide), if_pos vf] at hE hK
          have ag2 : xr_ag fr (S g + bs_ss (sp_c K B g) (bs_ch (sp_c K B g) i 0)) Z Z2 := xr_ag_f ag1 f2 (by omega)
          have g1 := gd 2 _ (by omega) g0.2.2.2
          refine xr_go ih hN hp0 hd hf hg hs hi hb.2.2 (j := 2) (by omega) (f1 2 (by omega) (fun _ => rfl)) hxy g0.2.2.2
            ⟨(f2.2.2.2.1 fr).trans ((ag1.2.2.1 fr (by omega)).trans hat.1), by rw [e3]; exact f2.2.2.2.2.1⟩ ((ag2.2.1 _ (by omega)).trans h5) ((ag2.2.1 _ (by omega)).trans h6) (by omega) hE (fun y2 t3 Z3 ht3 ag3 at3 v3 q5 q6 => ?_)
          rw [e4] at at3
          refine M4 t3 _ fr g i Z3 ⟨by omega, hf, hg, hs, hi⟩ at3 h ?_
          rw [if_neg (by rw [xr_vk ag3 (by omega)]; show ¬ Z2 0 _ = 1001; rw [f2.1, vf]; decide), v3]
          exact hK y2 (t3 + 1) Z3 (by omega) (xr_ag_t (by rw [← e1]; exact ag2) ag3 (by omega))
        · rw [if_neg nt, if_neg nf] at hE
          exact hE (rn_n1 _ _)
    · have n8 : ¬ K g i = 8 := by rw [h]; decide
      rcases ab_B hb hi with b0 | b1 | b2
      · have hc : sp_c K B g i = 0 := by rw [ab_c9 hb h, b0]; decide
        have s0 := bs_ss_0 hc
        rw [s0] at hat ht hK
        rw [rn_ev_c0 h b0] at hE hK
        exact xr_cl hN hp0 hroot hS M5 M6 F0 ih (b := 0) hd hf hg hs hi h b0 (by decide) rn_ok_0 rn_ok_0 hm hat (Nat.le_refl _) (by omega) (fun _ => ⟨rfl, rfl⟩) (fun z => absurd z (by decide)) (fun z => absurd z (by decide)) hE
          (fun e t' Z' ht' ag => hK e t' Z' (by omega) ag)
      · have hc := ab_cB1 hb h b1
        have e1 := c0 (by omega)
        have e3 := bs_ch_l hb.2.2 hi (k := 0) (by omega)
        have l0 := lt 0 (by omega)
        have s0 := sle (bs_ch (sp_c K B g) i 0)
        have g0 := gd 0 m (by omega) hm
        refine xr_go ih hN hp0 hd hf hg hs hi hb.2.2 (j := 0) (by omega) (f1 0 (by omega) (fun z => absurd z n8)) hxy hm (by rw [e1]; exact hat) h5 h6 (by omega) (fun n => ?_) (fun y1 t1 Z1 ht1 ag1 at1 v1 q5 q6 => ?_)
        · rw [rn_ev_c1 h b1, rn_bd_f n] at hE
          exact hE n
        · rw [rn_ev_c1 h b1, rn_bd_t y1] at hE hK
          rw [e3] at at1
          rw [e1] at ag1
          exact xr_cl hN hp0 hroot hS M5 M6 F0 ih (b := 1) (lo := S g + bs_ss (sp_c K B g) i) hd hf hg hs hi h b1 (by decide) (g0.2.1 y1) rn_ok_0 g0.2.2.2 at1 (by omega) (by omega) (fun z => absurd z (by decide)) (fun _ => ⟨v1.symm, rfl⟩) (fun z => absurd z (by decide)) hE
            (fun e t' Z' ht' ag => hK e t' Z' (by omega) (xr_ag_t ag1 ag (Nat.le_refl _)))
      · have hc := (ab_cB2 hb hi h (by rw [b2]; decide) (by rw [b2]; decide)).1
        have e1 := c0 (by omega)
        have e2 := bs_ch_n hb.2.2 hi (k := 0) (by omega)
        have e3 := bs_ch_l hb.2.2 hi (k := 1) (by omega)
        have l0 := lt 0 (by omega)
        have l1 := lt 1 (by omega)
        have s0 := sle (bs_ch (sp_c K B g) i 0)
        have s1 := sle (bs_ch (sp_c K B g) i 1)
        have g0 := gd 0 m (by omega) hm
        rw [Nat.zero_add] at e2
        refine xr_go ih hN hp0 hd hf hg hs hi hb.2.2 (j := 0) (by omega) (f1 0 (by omega) (fun z => absurd z n8)) hxy hm (by rw [e1]; exact hat) h5 h6 (by omega) (fun n => ?_) (fun y1 t1 Z1 ht1 ag1 at1 v1 q5 q6 => ?_)
        · rw [rn_ev_c2 h b2, rn_bd_f n] at hE
          exact hE n
        · have g1 := gd 1 _ (by omega) g0.2.2.2
          refine xr_go ih hN hp0 hd hf hg hs hi hb.2.2 (j := 1) (by omega) (f1 1 (by omega) (fun z => absurd z n8)) hxy g0.2.2.2 (by rw [e2]; exact at1) q5 q6 (by omega) (fun n => ?_) (fun y2 t2 Z2 ht2 ag2 at2 v2 q5 q6 => ?_)
          · rw [rn_ev_c2 h b2, rn_bd_t y1, rn_bd_f n] at hE
            exact hE n
          · rw [rn_ev_c2 h b2, rn_bd_t y1, rn_bd_t y2] at hE hK
            rw [e3] at at2
            rw [e1] at ag1
            have vq := (xr_vk ag2 (show bs_ch (sp_c K B g) i 0 < _ by omega)).trans v1
            have ag12 : xr_ag fr (S g + bs_ss (sp_c K B g) i) Z Z2 := xr_ag_t ag1 ag2 (by omega)
            exact xr_cl hN hp0 hroot hS M5 M6 F0 ih (b := 2) (lo := S g + bs_ss (sp_c K B g) i) hd hf hg hs hi h b2 (by decide) (g0.2.1 y1) (g1.2.1 y2) g1.2.2.2 at2 (by omega) (by omega) (fun z => absurd z (by decide)) (fun z => absurd z (by decide)) (fun _ => ⟨vq.symm, v2.symm⟩) hE
              (fun e t' Z' ht' ag => hK e t' Z' (by omega) (xr_ag_t ag12 ag (Nat.le_refl _)))
end

theorem ty_or (a b : Nat) : nI a ||| nI b = nI (a ||| b) := by
  apply Int32.toBitVec_inj.1
  show BitVec.ofNat 32 a ||| BitVec.ofNat 32 b = BitVec.ofNat 32 (a ||| b)
  apply BitVec.eq_of_getLsbD_eq
  intro i hi
  simp [hi]
theorem ty_mask (w k n : Nat) : n &&& ((2 ^ w - 1) * 2 ^ k) = (n / 2 ^ k % 2 ^ w) * 2 ^ k := by
  rw [← Nat.shiftLeft_eq, ← Nat.shiftLeft_eq, ← Nat.shiftRight_eq_div_pow]
  apply Nat.eq_of_testBit_eq
  intro i
  rw [Nat.testBit_and, Nat.testBit_shiftLeft, Nat.testBit_shiftLeft, Nat.testBit_mod_two_pow, Nat.testBit_shiftRight, Nat.testBit_two_pow_sub_one]
  by_cases h : k ≤ i
  · rw [Nat.add_sub_cancel' h]
    simp [h, Bool.and_comm]
  · simp [h]
/-- the four fields of a number: eight bits, eight bits, eight bits, the rest -/
theorem ty_f0 {m L H F : Nat} (hm : m < 256) : (m + 256 * L + 65536 * H + 16777216 * F) &&& 255 = m := by
  have h : (m + 256 * L + 65536 * H + 16777216 * F) &&& 255 = (m + 256 * L + 65536 * H + 16777216 * F) / 1 % 256 * 1 := ty_mask 8 0 _
  rw [h]; omega
theorem ty_f1 {m L H F : Nat} (hm : m < 256) (hL : L < 256) : (m + 256 * L + 65536 * H + 16777216 * F) &&& 65280 = 256 * L := by
  have h : (m + 256 * L + 65536 * H + 16777216 * F) &&& 65280 = (m + 256 * L + 65536 * H + 16777216 * F) / 256 % 256 * 256 := ty_mask 8 8 _
  rw [h]; omega
theorem ty_f2 {m L H F : Nat} (hm : m < 256) (hL : L < 256) (hH : H < 256) : (m + 256 * L + 65536 * H + 16777216 * F) &&& 16711680 = 65536 * H := by
  have h : (m + 256 * L + 65536 * H + 16777216 * F) &&& 16711680 = (m + 256 * L + 65536 * H + 16777216 * F) / 65536 % 256 * 65536 := ty_mask 8 16 _
  rw [h]; omega
theorem ty_f12 {m L H F : Nat} (hm : m < 256) (hL : L < 256) (hH : H < 256) : (m + 256 * L + 65536 * H + 16777216 * F) &&& 16776960 = 256 * L + 65536 * H := by
  have h : (m + 256 * L + 65536 * H + 16777216 * F) &&& 16776960 = (m + 256 * L + 65536 * H + 16777216 * F) / 256 % 65536 * 256 := ty_mask 16 8 _
  rw [h]; omega
theorem ty_o1 {m : Nat} (hm : m < 256) (L : Nat) : m ||| 256 * L = m + 256 * L := by
  have := Nat.two_pow_add_eq_or_of_lt (i := 8) hm L
  rw [Nat.or_comm]
  have e : (2 : Nat) ^ 8 = 256 := by decide
  rw [e] at this
  omega
theorem ty_o2 {m : Nat} (hm : m < 65536) (H : Nat) : m ||| 65536 * H = m + 65536 * H := by
  have := Nat.two_pow_add_eq_or_of_lt (i := 16) hm H
  rw [Nat.or_comm]
  have e : (2 : Nat) ^ 16 = 65536 := by decide
  rw [e] at this
  omega
theorem ty_o3 {m : Nat} (hm : m < 16777216) (H : Nat) : m ||| 16777216 * H = m + 16777216 * H := by
  have := Nat.two_pow_add_eq_or_of_lt (i := 24) hm H
  rw [Nat.or_comm]
  have e : (2 : Nat) ^ 24 = 16777216 := by decide
  rw [e] at this
  omega
/-- a type as the component keeps it, and as the reference keeps it -/
def ty_L (l : Nat) : Nat := if l = 0 then 0 else if l = 18 then 1 else 109 - l
def ty_H (h : Nat) : Nat := if h = 0 then 0 else if h = 18 then 199 else 91 + h
def ty_e (l : Nat) : Nat := if l = 0 then 0 else 1
def ty_xn (t : ty_T) : Nat := t.1 + 256 * ty_L t.2.1 + 65536 * ty_H t.2.2 + 16777216 * 0
def ty_yn (t : ty_T) : Nat := t.1 + 256 * (ty_L t.2.1 + 28 * ty_e t.2.1) + 65536 * (ty_H t.2.2 + 28 * ty_e t.2.1) + 16777216 * ty_e t.2.1
def ty_x (t : ty_T) : Int32 := nI (ty_xn t)
def ty_y (t : ty_T) : Int32 := nI (ty_yn t)
theorem ty_L_lt (l : Nat) : ty_L l < 110 := by
  unfold ty_L; split <;> (try split) <;> omega
theorem ty_H_lt {h : Nat} (hh : h ≤ 18) : ty_H h < 200 := by
  unfold ty_H; split <;> (try split) <;> omega
theorem ty_e_le (l : Nat) : ty_e l ≤ 1 := by
  unfold ty_e; split <;> omega
theorem ty_ok_h {t : ty_T} (h : ty_ok t) : t.2.2 ≤ 18 := by
  obtain ⟨_, h⟩ := h; omega
theorem ty_ok_l {t : ty_T} (h : ty_ok t) : t.2.1 ≤ 18 := by
  obtain ⟨_, h⟩ := h; omega
theorem ty_xn_lt {t : ty_T} (h : ty_ok t) : ty_xn t < 2 ^ 24 := by
  have h1 := ty_L_lt t.2.1
  have h2 := ty_H_lt (ty_ok_h h)
  have h3 := h.1
  unfold ty_xn
  omega
theorem ty_yn_lt {t : ty_T} (h : ty_ok t) : ty_yn t < 2 ^ 25 := by
  have h1 := ty_L_lt t.2.1
  have h2 := ty_H_lt (ty_ok_h h)
  have h3 := h.1
  have h4 := ty_e_le t.2.1
  unfold ty_yn
  omega
theorem ty_L_inj {l l' : Nat} (h : l ≤ 18) (h' : l' ≤ 18) (e : ty_L l = ty_L l') : l = l' := by
  unfold ty_L at e
  split at e <;> split at e <;> (try split at e) <;> (try split at e) <;> omega
theorem ty_H_inj {l l' : Nat} (h : l ≤ 18) (h' : l' ≤ 18) (e : ty_H l = ty_H l') : l = l' := by
  unfold ty_H at e
  split at e <;> split at e <;> (try split at e) <;> (try split at e) <;> omega
theorem ty_x_inj {s t : ty_T} (hs : ty_ok s) (ht : ty_ok t) (e : ty_x s = ty_x t) : s = t := by
  have a := ty_xn_lt hs
  have b := ty_xn_lt ht
  have e := (nI_eq (by omega) (by omega)).mp e
  have h1 := ty_L_lt s.2.1
  have h2 := ty_H_lt (ty_ok_h hs)
  have h3 := hs.1
  have g1 := ty_L_lt t.2.1
  have g2 := ty_H_lt (ty_ok_h ht)
  have g3 := ht.1
  unfold ty_xn at e
  exact ty_ext (by omega) (ty_L_inj (ty_ok_l hs) (ty_ok_l ht) (by omega)) (ty_H_inj (ty_ok_h hs) (ty_ok_h ht) (by omega))
theorem ty_e_eq {l : Nat} : ty_e l = 0 ↔ l = 0 := by
  unfold ty_e; split <;> omega
theorem ty_y_inj {s t : ty_T} (hs : ty_ok s) (ht : ty_ok t) (e : ty_y s = ty_y t) : s = t := by
  have a := ty_yn_lt hs
  have b := ty_yn_lt ht
  have e := (nI_eq (by omega) (by omega)).mp e
  have h1 := ty_L_lt s.2.1
  have h2 := ty_H_lt (ty_ok_h hs)
  have h3 := hs.1
  have h4 := ty_e_le s.2.1
  have g1 := ty_L_lt t.2.1
  have g2 := ty_H_lt (ty_ok_h ht)
  have g3 := ht.1
  have g4 := ty_e_le t.2.1
  unfold ty_yn at e
  have e0 : ty_e s.2.1 = ty_e t.2.1 := by omega
  rw [e0] at e
  exact ty_ext (by omega) (ty_L_inj (ty_ok_l hs) (ty_ok_l ht) (by omega)) (ty_H_inj (ty_ok_h hs) (ty_ok_h ht) (by omega))
theorem ty_x_00 : ty_x ty_0 = 0 := by decide
theorem ty_y_00 : ty_y ty_0 = 0 := by decide
theorem ty_x_0 {t : ty_T} (h : ty_ok t) : ty_x t = 0 ↔ t = ty_0 := by
  rw [← ty_x_00]
  exact ⟨ty_x_inj h ty_0_ok, fun e => by rw [e]⟩
theorem ty_y_0 {t : ty_T} (h : ty_ok t) : ty_y t = 0 ↔ t = ty_0 := by
  rw [← ty_y_00]
  exact ⟨ty_y_inj h ty_0_ok, fun e => by rw [e]⟩
theorem ty_i255 : (255 : Int32) = nI 255 := by decide
theorem ty_xm {t : ty_T} (h : ty_ok t) : ty_x t &&& 255 = nI t.1 := by
  rw [ty_i255, ty_x, nx_and, ty_xn, ty_f0 h.1]
theorem ty_xl {t : ty_T} (h : ty_ok t) : ty_x t &&& 65280 = nI (256 * ty_L t.2.1) := by
  rw [show (65280 : Int32) = nI 65280 by decide, ty_x, nx_and, ty_xn, ty_f1 h.1 (Nat.lt_trans (ty_L_lt _) (by decide))]
theorem ty_xh {t : ty_T} (h : ty_ok t) : ty_x t &&& 16711680 = nI (65536 * ty_H t.2.2) := by
  rw [show (16711680 : Int32) = nI 16711680 by decide, ty_x, nx_and, ty_xn, ty_f2 h.1 (Nat.lt_trans (ty_L_lt _) (by decide)) (Nat.lt_trans (ty_H_lt (ty_ok_h h)) (by decide))]
theorem ty_xi {t : ty_T} (h : ty_ok t) : ty_x t &&& 16776960 = nI (256 * ty_L t.2.1 + 65536 * ty_H t.2.2) := by
  rw [show (16776960 : Int32) = nI 16776960 by decide, ty_x, nx_and, ty_xn, ty_f12 h.1 (Nat.lt_trans (ty_L_lt _) (by decide)) (Nat.lt_trans (ty_H_lt (ty_ok_h h)) (by decide))]
theorem ty_L_0 {l : Nat} (h : l ≤ 18) : ty_L l = 0 ↔ l = 0 := by
  unfold ty_L; split <;> (try split) <;> omega
theorem ty_H_0 {l : Nat} : ty_H l = 0 ↔ l = 0 := by
  unfold ty_H; split <;> (try split) <;> omega
theorem ty_ok_0 {t : ty_T} (h : ty_ok t) : t.2.1 = 0 ↔ t.2.2 = 0 := by
  obtain ⟨_, h⟩ := h; omega
/-- hasInts -/
theorem ty_xi0 {t : ty_T} (h : ty_ok t) : ty_x t &&& 16776960 = 0 ↔ t.2.1 = 0 := by
  rw [ty_xi h, ← nI_0]
  have h1 := ty_L_lt t.2.1
  have h2 := ty_H_lt (ty_ok_h h)
  rw [nI_eq (by omega) (by omega)]
  have h3 := ty_L_0 (ty_ok_l h)
  have h4 := @ty_H_0 t.2.2
  have h5 := ty_ok_0 h
  omega
/-- the component's parts put together -/
theorem ty_x3 (m l h : Nat) (hm : m < 256) (hh : h ≤ 18) : nI m ||| nI (256 * ty_L l) ||| nI (65536 * ty_H h) = ty_x (m, l, h) := by
  have h1 := ty_L_lt l
  rw [ty_or, ty_or, ty_o1 hm, ty_o2 (by omega)]
  rfl
theorem ty_x2 (l h : Nat) (hh : h ≤ 18) : nI (256 * ty_L l) ||| nI (65536 * ty_H h) = ty_x (0, l, h) := by
  rw [← ty_x3 0 l h (by decide) hh, nI_0, Int32.zero_or]
theorem ty_x2' (m l h : Nat) (hm : m < 256) (hh : h ≤ 18) : nI m ||| nI (256 * ty_L l + 65536 * ty_H h) = ty_x (m, l, h) := by
  have h1 := ty_L_lt l
  rw [ty_or, show 256 * ty_L l + 65536 * ty_H h = 256 * (ty_L l + 256 * ty_H h) by omega, ty_o1 hm, show m + 256 * (ty_L l + 256 * ty_H h) = m + 256 * ty_L l + 65536 * ty_H h + 16777216 * 0 by omega]
  rfl
theorem ty_x1 (m : Nat) : nI m = ty_x (m, 0, 0) := rfl
theorem ty_y1 (m : Nat) : nI m = ty_y (m, 0, 0) := rfl
/-- the bounds' values as ints -/
def ty_lw (l : Nat) : Int32 := Int32.ofInt (ty_lv l)
def ty_hw (h : Nat) : Int32 := Int32.ofInt (ty_hv h)
theorem ty_lw_t : ∀ l, l < 19 → (ty_lw l).toInt = ty_lv l := by decide +kernel
theorem ty_hw_t : ∀ l, l < 19 → (ty_hw l).toInt = ty_hv l := by decide +kernel
theorem ty_lw_x : ∀ l, l < 19 → 0 < l → nI (ty_L l) - 100 = ty_lw l := by decide +kernel
theorem ty_hw_x : ∀ l, l < 19 → 0 < l → nI (ty_H l) - 100 = ty_hw l := by decide +kernel
theorem ty_lw_y : ∀ l, l < 19 → 0 < l → nI (ty_L l + 28 * ty_e l) - 128 = ty_lw l := by decide +kernel
theorem ty_hw_y : ∀ l, l < 19 → 0 < l → nI (ty_H l + 28 * ty_e l) - 128 = ty_hw l := by decide +kernel
theorem ty_lw_a : ∀ l, l < 19 → 0 < l → ty_lw l + 100 = nI (ty_L l) := by decide +kernel
theorem ty_hw_a : ∀ l, l < 19 → 0 < l → ty_hw l + 100 = nI (ty_H l) := by decide +kernel
theorem ty_lw_b : ∀ l, l < 19 → 0 < l → ty_lw l + 128 = nI (ty_L l + 28 * ty_e l) := by decide +kernel
theorem ty_hw_b : ∀ l, l < 19 → 0 < l → ty_hw l + 128 = nI (ty_H l + 28 * ty_e l) := by decide +kernel
theorem ty_sh8 {n : Nat} (h : n < 2 ^ 31) : nI n >>> ((8 : Int32) &&& 31) = nI (n / 256) := pk_shrN h _ 8 (by decide)
theorem ty_sh16 {n : Nat} (h : n < 2 ^ 31) : nI n >>> ((16 : Int32) &&& 31) = nI (n / 65536) := pk_shrN h _ 16 (by decide)
theorem ty_sh24 {n : Nat} (h : n < 2 ^ 31) : nI n >>> ((24 : Int32) &&& 31) = nI (n / 16777216) := pk_shrN h _ 24 (by decide)
theorem ty_sl8 {n : Nat} (h : n < 2 ^ 16) : nI n <<< ((8 : Int32) &&& 31) = nI (256 * n) := by
  rw [Nat.mul_comm]; exact pk_shlN _ 8 (by decide) (by omega)
theorem ty_sl16 {n : Nat} (h : n < 2 ^ 14) : nI n <<< ((16 : Int32) &&& 31) = nI (65536 * n) := by
  rw [Nat.mul_comm]; exact pk_shlN _ 16 (by decide) (by omega)
/-- lowOf, highOf -/
theorem ty_xlow {t : ty_T} (h : ty_ok t) (h0 : t.2.1 ≠ 0) : ((ty_x t &&& 65280) >>> ((8 : Int32) &&& 31)) - 100 = ty_lw t.2.1 := by
  have h1 := ty_L_lt t.2.1
  rw [ty_xl h, ty_sh8 (by omega), show 256 * ty_L t.2.1 / 256 = ty_L t.2.1 by omega]
  exact ty_lw_x _ (by have := ty_ok_l h; omega) (by omega)
theorem ty_xhigh {t : ty_T} (h : ty_ok t) (h0 : t.2.1 ≠ 0) : ((ty_x t &&& 16711680) >>> ((16 : Int32) &&& 31)) - 100 = ty_hw t.2.2 := by
  have h1 := ty_H_lt (ty_ok_h h)
  have h2 := ty_ok_0 h
  rw [ty_xh h, ty_sh16 (by omega), show 65536 * ty_H t.2.2 / 65536 = ty_H t.2.2 by omega]
  exact ty_hw_x _ (by have := ty_ok_h h; omega) (by omega)
/-- has, lo, hi of the reference -/
theorem ty_ym {t : ty_T} (h : ty_ok t) : ty_y t &&& 255 = nI t.1 := by
  rw [ty_i255, ty_y, nx_and, ty_yn, ty_f0 h.1]
theorem ty_a255 (n : Nat) : nI n &&& 255 = nI (n % 256) := by
  have h : n &&& 255 = n / 1 % 256 * 1 := ty_mask 8 0 _
  rw [ty_i255, nx_and, h, Nat.div_one, Nat.mul_one]
theorem ty_a1 (n : Nat) : nI n &&& 1 = nI (n % 2) := by
  have h : n &&& 1 = n / 1 % 2 * 1 := ty_mask 1 0 _
  rw [show (1 : Int32) = nI 1 by decide, nx_and, h, Nat.div_one, Nat.mul_one]
theorem ty_yhas {t : ty_T} (h : ty_ok t) : (ty_y t >>> ((24 : Int32) &&& 31)) &&& 1 = nI (ty_e t.2.1) := by
  have h0 := ty_yn_lt h
  have h1 := ty_L_lt t.2.1
  have h2 := ty_H_lt (ty_ok_h h)
  have h3 := h.1
  have h4 := ty_e_le t.2.1
  rw [ty_y, ty_sh24 (by omega), ty_a1]
  congr 1
  unfold ty_yn
  rcases (show ty_e t.2.1 = 0 ∨ ty_e t.2.1 = 1 by omega) with e | e <;> rw [e] <;> omega
theorem ty_yhas0 {t : ty_T} (h : ty_ok t) : (ty_y t >>> ((24 : Int32) &&& 31)) &&& 1 = 0 ↔ t.2.1 = 0 := by
  have h4 := ty_e_le t.2.1
  rw [ty_yhas h, ← nI_0, nI_eq (by omega) (by omega)]
  exact ty_e_eq
theorem ty_e_lh {t : ty_T} (h : ty_ok t) : ty_e t.2.1 = ty_e t.2.2 := by
  have := ty_ok_0 h
  unfold ty_e; split <;> split <;> omega
theorem ty_ylow {t : ty_T} (h : ty_ok t) (h0 : t.2.1 ≠ 0) : ((ty_y t >>> ((8 : Int32) &&& 31)) &&& 255) - 128 = ty_lw t.2.1 := by
  have hn := ty_yn_lt h
  have h1 := ty_L_lt t.2.1
  have h2 := ty_H_lt (ty_ok_h h)
  have h3 := h.1
  have h4 := ty_e_le t.2.1
  rw [ty_y, ty_sh8 (by omega), ty_a255, show ty_yn t / 256 % 256 = ty_L t.2.1 + 28 * ty_e t.2.1 by unfold ty_yn; omega]
  exact ty_lw_y _ (by have := ty_ok_l h; omega) (by omega)
theorem ty_yhigh {t : ty_T} (h : ty_ok t) (h0 : t.2.1 ≠ 0) : ((ty_y t >>> ((16 : Int32) &&& 31)) &&& 255) - 128 = ty_hw t.2.2 := by
  have hn := ty_yn_lt h
  have h1 := ty_L_lt t.2.1
  have h2 := ty_H_lt (ty_ok_h h)
  have h3 := h.1
  have h4 := ty_e_le t.2.1
  have h5 := ty_ok_0 h
  rw [ty_y, ty_sh16 (by omega), ty_a255, show ty_yn t / 65536 % 256 = ty_H t.2.2 + 28 * ty_e t.2.1 by unfold ty_yn; rcases (show ty_e t.2.1 = 0 ∨ ty_e t.2.1 = 1 by omega) with e | e <;> rw [e] <;> omega, ty_e_lh h]
  exact ty_hw_y _ (by have := ty_ok_h h; omega) (by omega)
/-- the reference's mk -/
theorem ty_mk0 (m : Nat) (hm : m < 256) : nI m &&& 255 = ty_y (m, 0, 0) := by
  rw [ty_a255, Nat.mod_eq_of_lt hm]; rfl
theorem ty_mk1 {m l h : Nat} (hm : m < 256) (hl0 : 0 < l) (hl : l ≤ 18) (hh0 : 0 < h) (hh : h ≤ 18) :
    ((nI m &&& 255) ||| (((ty_lw l + 128) &&& 255) <<< ((8 : Int32) &&& 31))) ||| (((ty_hw h + 128) &&& 255) <<< ((16 : Int32) &&& 31)) ||| 16777216 = ty_y (m, l, h) := by
  have h1 := ty_L_lt l
  have h2 := ty_H_lt hh
  have e1 : ty_e l = 1 := by unfold ty_e; split <;> omega
  have e2 : ty_e h = 1 := by unfold ty_e; split <;> omega
  rw [ty_lw_b l (by omega) hl0, ty_hw_b h (by omega) hh0, ty_a255, ty_a255, ty_a255, e1, e2,
    Nat.mod_eq_of_lt hm, Nat.mod_eq_of_lt (show ty_L l + 28 * 1 < 256 by omega), Nat.mod_eq_of_lt (show ty_H h + 28 * 1 < 256 by omega),
    ty_sl8 (by omega), ty_sl16 (by omega), show (16777216 : Int32) = nI (16777216 * 1) by decide,
    ty_or, ty_or, ty_or, ty_o1 hm, ty_o2 (by omega), ty_o3 (by omega)]
  unfold ty_y ty_yn
  simp only [e1]
/-- the range's bounds -/
def ty_rz (a : Int32) : Int32 := if -8 ≤ a then (if a ≤ 8 then a else 8) else -99
def ty_rw (b : Int32) : Int32 := if b ≤ 8 then (if -8 ≤ b then b else -8) else 99
theorem ty_n8 : (-8 : Int32).toInt = -8 := by decide
theorem ty_p8 : (8 : Int32).toInt = 8 := by decide
theorem ty_rz_lw (a : Int32) : ty_rz a = ty_lw (ty_rl a.toInt) := by
  unfold ty_rz ty_rl ty_lw ty_lv
  simp only [Int32.le_iff_toInt_le, ty_n8, ty_p8]
  by_cases h : -8 ≤ a.toInt
  · rw [if_pos h, if_neg (show ¬ a.toInt < -8 by omega)]
    by_cases h2 : a.toInt ≤ 8
    · rw [if_pos h2, if_neg (show ¬ 8 < a.toInt by omega), if_neg (by omega), show (9 : Int) - ((9 - a.toInt).toNat : Int) = a.toInt by omega, Int32.ofInt_toInt]
    · rw [if_neg h2, if_pos (show 8 < a.toInt by omega)]; decide
  · rw [if_neg h, if_pos (show a.toInt < -8 by omega)]; decide
theorem ty_rw_hw (a : Int32) : ty_rw a = ty_hw (ty_rh a.toInt) := by
  unfold ty_rw ty_rh ty_hw ty_hv
  simp only [Int32.le_iff_toInt_le, ty_n8, ty_p8]
  by_cases h2 : a.toInt ≤ 8
  · rw [if_pos h2, if_neg (show ¬ 8 < a.toInt by omega)]
    by_cases h : -8 ≤ a.toInt
    · rw [if_pos h, if_neg (show ¬ a.toInt < -8 by omega), if_neg (by omega), show ((a.toInt + 9).toNat : Int) - 9 = a.toInt by omega, Int32.ofInt_toInt]
    · rw [if_neg h, if_pos (show a.toInt < -8 by omega)]; decide
  · rw [if_neg h2, if_pos (show 8 < a.toInt by omega)]; decide
theorem ty_xn_m {t : ty_T} (h : ty_ok t) : ty_xn t % 256 = t.1 := by
  have := h.1
  unfold ty_xn
  omega
theorem ty_yn_m {t : ty_T} (h : ty_ok t) : ty_yn t % 256 = t.1 := by
  have := h.1
  unfold ty_yn
  omega
theorem ty_tb (m i : Nat) : m.testBit i = true ↔ m / 2 ^ i % 2 = 1 := by
  rw [Nat.testBit_eq_decide_div_mod_eq, decide_eq_true_iff]
theorem ty_b1 {n m : Nat} (h : n % 256 = m) : nI n &&& 2 = 0 ↔ ¬ m.testBit 1 = true := by
  have e : n &&& 2 = n / 2 % 2 * 2 := ty_mask 1 1 n
  rw [show (2 : Int32) = nI 2 by decide, nx_and, e, ← nI_0, nI_eq (by omega) (by omega), ty_tb]
  omega
theorem ty_b0 {n m : Nat} (h : n % 256 = m) : nI n &&& 1 = 0 ↔ ¬ m.testBit 0 = true := by
  have e : n &&& 1 = n / 1 % 2 * 1 := ty_mask 1 0 n
  rw [show (1 : Int32) = nI 1 by decide, nx_and, e, ← nI_0, nI_eq (by omega) (by omega), ty_tb]
  omega
/-- one atom's bit -/
theorem ty_bit {n m j : Nat} (h : n % 256 = m) (hn : n < 2 ^ 31) (hj : j < 8) : (nI n >>> (nI j &&& 31)) &&& 1 = nI (m / 2 ^ j % 2) := by
  have hs : ∀ j, j < 8 → ((nI j &&& 31).toBitVec.smod 32).toNat = j := by decide
  rw [pk_shrN hn _ j (hs j hj), ty_a1]
  congr 1
  have : j = 0 ∨ j = 1 ∨ j = 2 ∨ j = 3 ∨ j = 4 ∨ j = 5 ∨ j = 6 ∨ j = 7 := by omega
  rcases this with rfl | rfl | rfl | rfl | rfl | rfl | rfl | rfl <;> omega
theorem ty_and3 (a b m : Nat) : (a &&& b) &&& m = (a &&& m) &&& (b &&& m) := by
  apply Nat.eq_of_testBit_eq
  intro i
  simp only [Nat.testBit_and]
  cases a.testBit i <;> cases b.testBit i <;> cases m.testBit i <;> rfl
theorem ty_or3 (a b m : Nat) : (a ||| b) &&& m = (a &&& m) ||| (b &&& m) := by
  apply Nat.eq_of_testBit_eq
  intro i
  simp only [Nat.testBit_and, Nat.testBit_or]
  cases a.testBit i <;> cases b.testBit i <;> cases m.testBit i <;> rfl
theorem ty_xand {s t : ty_T} (hs : ty_ok s) (ht : ty_ok t) : (ty_x s &&& ty_x t) &&& 255 = nI (s.1 &&& t.1) := by
  rw [ty_i255, ty_x, ty_x, nx_and, nx_and, ty_and3, ty_xn, ty_xn, ty_f0 hs.1, ty_f0 ht.1]
theorem ty_xor {s t : ty_T} (hs : ty_ok s) (ht : ty_ok t) : (ty_x s ||| ty_x t) &&& 255 = nI (s.1 ||| t.1) := by
  rw [ty_i255, ty_x, ty_x, ty_or, nx_and, ty_or3, ty_xn, ty_xn, ty_f0 hs.1, ty_f0 ht.1]
theorem ty_yand {s t : ty_T} (hs : ty_ok s) (ht : ty_ok t) : (ty_y s &&& ty_y t) &&& 255 = nI (s.1 &&& t.1) := by
  rw [ty_i255, ty_y, ty_y, nx_and, nx_and, ty_and3, ty_yn, ty_yn, ty_f0 hs.1, ty_f0 ht.1]
theorem ty_yor {s t : ty_T} (hs : ty_ok s) (ht : ty_ok t) : (ty_y s ||| ty_y t) &&& 255 = nI (s.1 ||| t.1) := by
  rw [ty_i255, ty_y, ty_y, ty_or, nx_and, ty_or3, ty_yn, ty_yn, ty_f0 hs.1, ty_f0 ht.1]
theorem ty_ym256 {t : ty_T} (h : ty_ok t) {m : Nat} (hm : m < 256) : (ty_y t &&& (-256)) ||| nI m = ty_y (m, t.2.1, t.2.2) := by
  have hn := ty_yn_lt h
  have h1 := h.1
  have e : ty_yn t &&& 4294967040 = ty_yn t / 256 % 16777216 * 256 := ty_mask 24 8 _
  rw [show (-256 : Int32) = nI 4294967040 by decide, ty_y, nx_and, e, ty_or, Nat.or_comm, Nat.mul_comm, ty_o1 hm]
  unfold ty_y
  congr 1
  unfold ty_yn at hn ⊢
  simp only
  omega
theorem ty_lw_le : ∀ l, l < 19 → ∀ l', l' < 19 → 0 < l → 0 < l' → (ty_lw l ≤ ty_lw l' ↔ l' ≤ l) := by decide +kernel
theorem ty_hw_le : ∀ l, l < 19 → ∀ l', l' < 19 → 0 < l → 0 < l' → (ty_hw l ≤ ty_hw l' ↔ l ≤ l') := by decide +kernel
theorem ty_lh_le : ∀ l, l < 19 → ∀ l', l' < 19 → 0 < l → 0 < l' → (ty_lw l ≤ ty_hw l' ↔ 18 ≤ l + l') := by decide +kernel
theorem ty_L_le : ∀ l, l < 19 → ∀ l', l' < 19 → 0 < l → 0 < l' → (ty_L l ≤ ty_L l' ↔ l' ≤ l) := by decide +kernel
theorem ty_H_le : ∀ l, l < 19 → ∀ l', l' < 19 → 0 < l → 0 < l' → (ty_H l ≤ ty_H l' ↔ l ≤ l') := by decide +kernel
theorem ty_LH_le : ∀ l, l < 19 → ∀ l', l' < 19 → 0 < l → 0 < l' → (ty_L l ≤ ty_H l' ↔ 18 ≤ l + l') := by decide +kernel

section
variable {K A B : Nat → Nat → Int32} {st ar : Nat → Int32} {sz : Nat → Nat} {d fr g i m : Nat} {x y : Int32}
theorem rn_ev_lf (h : K g i = 0 ∨ K g i = 1 ∨ K g i = 2) : rn_ev K A B st ar sz (d + 1) fr g i x y m = (-1, (if K g i = 0 then A g i else if K g i = 1 then 1000 + A g i else if A g i = 0 then x else y), m) := by
  show rn_node K A B st ar sz (rn_ev K A B st ar sz d) fr g i x y m = _
  unfold rn_node
  by_cases h0 : K g i = 0
  · rw [if_pos h0, if_pos h0]
  · rw [if_neg h0, if_neg h0]
    by_cases h1 : K g i = 1
    · rw [if_pos h1, if_pos h1]
    · rw [if_neg h1, if_neg h1, if_pos ((h.resolve_left h0).resolve_left h1)]
theorem rn_ev_if (h : K g i = 8) : rn_ev K A B st ar sz (d + 1) fr g i x y m = rn_bd (rn_ev K A B st ar sz d fr g (bs_ch (sp_c K B g) i 0) x y m) fun v m =>
    if v = 1001 then rn_ev K A B st ar sz d fr g (bs_ch (sp_c K B g) i 1) x y m else if v = 1000 then rn_ev K A B st ar sz d fr g (bs_ch (sp_c K B g) i 2) x y m else (1, 0, m) := by
  show rn_node K A B st ar sz (rn_ev K A B st ar sz d) fr g i x y m = _
  unfold rn_node
  rw [if_neg (by rw [h]; decide), if_neg (by rw [h]; decide), if_neg (by rw [h]; decide), if_pos h]
theorem rn_ev_isi (h : K g i = 7) : rn_ev K A B st ar sz (d + 1) fr g i x y m = rn_bd (rn_ev K A B st ar sz d fr g (bs_ch (sp_c K B g) i 0) x y m) fun v m => (-1, (if v < 1000 then 1001 else 1000), m) := by
  show rn_node K A B st ar sz (rn_ev K A B st ar sz d) fr g i x y m = _
  unfold rn_node
  rw [if_neg (by rw [h]; decide), if_neg (by rw [h]; decide), if_neg (by rw [h]; decide), if_neg (by rw [h]; decide), if_neg (by rw [h]; decide), if_pos h]
theorem rn_ev_op (h : K g i = 3 ∨ K g i = 4 ∨ K g i = 5 ∨ K g i = 6) : rn_ev K A B st ar sz (d + 1) fr g i x y m =
    rn_bd (rn_ev K A B st ar sz d fr g (bs_ch (sp_c K B g) i 0) x y m) fun v m => rn_bd (rn_ev K A B st ar sz d fr g (bs_ch (sp_c K B g) i 1) x y m) fun w m => rn_op (K g i) v w m := by
  show rn_node K A B st ar sz (rn_ev K A B st ar sz d) fr g i x y m = _
  unfold rn_node
  rcases h with h | h | h | h <;>
    rw [if_neg (by rw [h]; decide), if_neg (by rw [h]; decide), if_neg (by rw [h]; decide), if_neg (by rw [h]; decide), if_neg (by rw [h]; decide), if_neg (by rw [h]; decide)]
theorem rn_ev_c0 (h : K g i = 9) (b : B g i = 0) : rn_ev K A B st ar sz (d + 1) fr g i x y m = rn_call A B st ar sz (rn_ev K A B st ar sz d) fr g i 0 0 m := by
  show rn_node K A B st ar sz (rn_ev K A B st ar sz d) fr g i x y m = _
  unfold rn_node
  rw [if_neg (by rw [h]; decide), if_neg (by rw [h]; decide), if_neg (by rw [h]; decide), if_neg (by rw [h]; decide), if_pos h, if_pos b]
theorem rn_ev_c1 (h : K g i = 9) (b : B g i = 1) : rn_ev K A B st ar sz (d + 1) fr g i x y m =
    rn_bd (rn_ev K A B st ar sz d fr g (bs_ch (sp_c K B g) i 0) x y m) fun v m => rn_call A B st ar sz (rn_ev K A B st ar sz d) fr g i v 0 m := by
  show rn_node K A B st ar sz (rn_ev K A B st ar sz d) fr g i x y m = _
  unfold rn_node
  rw [if_neg (by rw [h]; decide), if_neg (by rw [h]; decide), if_neg (by rw [h]; decide), if_neg (by rw [h]; decide), if_pos h, if_neg (by rw [b]; decide), if_pos b]
theorem rn_ev_c2 (h : K g i = 9) (b : B g i = 2) : rn_ev K A B st ar sz (d + 1) fr g i x y m =
    rn_bd (rn_ev K A B st ar sz d fr g (bs_ch (sp_c K B g) i 0) x y m) fun v m => rn_bd (rn_ev K A B st ar sz d fr g (bs_ch (sp_c K B g) i 1) x y m) fun w m => rn_call A B st ar sz (rn_ev K A B st ar sz d) fr g i v w m := by
  show rn_node K A B st ar sz (rn_ev K A B st ar sz d) fr g i x y m = _
  unfold rn_node
  rw [if_neg (by rw [h]; decide), if_neg (by rw [h]; decide), if_neg (by rw [h]; decide), if_neg (by rw [h]; decide), if_pos h, if_neg (by rw [b]; decide), if_neg (by rw [b]; decide)]
theorem rn_bd_t {p : rn_R} {f : Int32 → Nat → rn_R} (h : p.1 = -1) : rn_bd p f = f p.2.1 p.2.2 := if_pos h
theorem rn_bd_f {p : rn_R} {f : Int32 → Nat → rn_R} (h : p.1 ≠ -1) : rn_bd p f = p := if_neg h
end
theorem rn_n1 (v : Int32) (m : Nat) : ((1, v, m) : rn_R).1 ≠ -1 := show (1 : Int32) ≠ -1 by decide
theorem rn_n2 (v : Int32) (m : Nat) : ((2, v, m) : rn_R).1 ≠ -1 := show (2 : Int32) ≠ -1 by decide
theorem rn_op_m (k v w : Int32) (m : Nat) : (rn_op k v w m).2.2 = m := by
  unfold rn_op
  repeat (first | rfl | split)

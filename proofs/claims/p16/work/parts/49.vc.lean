theorem i_vc (xs : Nat → Int32) (L : Nat) (hL : L ≤ 260) : wpL_law (fun r => r = 1) L xs := by
  unfold wpL_law
  refine zl_cell (i := 0) hL (by decide) rfl fun r => ?_
  intro x1 ex
  obtain ⟨j, hj, ej⟩ := pk_andE r (m := 3) 2 (by decide)
  rw [ej, nI_1] at ex
  subst ex
  refine ⟨20, 3730, by omega, by omega, ?_⟩
  unfold wpX_init
  dsimp only
  refine ⟨by decide, by decide, by decide, by decide, by decide, by decide, by decide, by decide, by decide, by decide, by decide, by decide, by decide, by decide, by decide, by decide, by decide, by decide, by decide, by decide, by decide, by decide, by decide, by decide, by decide, by decide, by decide, by decide, by decide, by decide, by decide, by decide, by decide, by decide, by decide, by decide, by decide, by decide, by decide, by decide, ?_⟩
  have c1 : rd_c (nI (j + 1)) 1 8 (j + 1) := Or.inr (Or.inr ⟨nI_le (by omega) (by omega), nI_le (by omega) (by omega), rfl⟩)
  have c2 : rd_c (nI 128) 16 128 128 := Or.inr (Or.inr ⟨nI_le (by omega) (by omega), nI_le (by omega) (by omega), rfl⟩)
  refine xd_clamp (lo := 1) (hi := 8) c1 (xd_clamp (lo := 16) (hi := 128) c2 ?_)
  have n0 : ¬ nI (j + 1) = 0 := fun z => by
    rw [show (0 : Int32) = nI 0 by decide, nI_eq (by omega) (by omega)] at z
    omega
  exact ⟨L + 1, zl_24 hL n0 (L + 1) 1 _ _ _ _ _ _ _ _ _ _ _ _ _ _ _ _ _ _ _ _ _ _ _ _ _ _ _ _ _ _ (by omega) (by omega) (zi_init (by omega) (by omega))⟩

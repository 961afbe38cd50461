/-! THE LAW'S PROGRAM, PURE, ANSWERS 1 -/
theorem law_pure : LawPure := by
  intro L xs hL
  rw [lz_start]
  exact lp_loop hL 512 0 (S0 ++ []) RZ IZ rfl lz_rel

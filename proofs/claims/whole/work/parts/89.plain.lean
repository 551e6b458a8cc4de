/-- what is left: over the plain functions the law answers 1, within the room -/
theorem pl_law (L : Nat) (hL : L ≤ 3072) (xs : Nat → Int32) : ∃ mF, fL_law L xs ml_E0 = some (1, mF) ∧ ml_n mF ≤ 600000 ∧ ml_s mF ≤ 7302250 := sorry

/-! THE LAW answers 1. -/
theorem pl_law1000 {L : Nat} (hL : L ≤ 1000) (xs : Nat → Int32) : ∃ mF, fL_law L xs ml_E0 = some (1, mF) ∧ ml_n mF ≤ 600000 ∧ ml_s mF ≤ 7302250 := by
  obtain ⟨nl, nt, np, n, A, B, r, h1, h2, h3, h4, h5, h6, h7, -, h9, h10⟩ := pw_law1 hL xs
  obtain ⟨A1, B1, r1, a1, a2, a3, a4, a5⟩ := pm_531 (L := L) (xs := xs) h6 h7 h4
  have R1 := h7.e a3 a4
  obtain ⟨A2, r2, b1, b2, b3, b4⟩ := pm_636 (L := L) (xs := xs) a2 R1 h2 h4
  obtain ⟨-, -, s3, -⟩ := a3.S
  obtain ⟨-, -, s4, -⟩ := b3.S
  rw [s3] at b1
  have R2 := R1.e b3 (pm_e.refl _)
  obtain ⟨A3, r3, c1, c2, c3, c4⟩ := pm_861 (L := L) (xs := xs) b2 R2.1.2.2.2.1.1 h4
  rw [s4, s3] at c1
  have n3 : pl_N A3 0 3 0 = n := by rw [c3 3 (by decide)]; exact R2.1.2.2.2.1.1
  have n5 : pl_N A3 0 5 0 = 0 := by rw [c3 5 (by decide)]; exact R2.1.2.2.2.2.2.1
  obtain ⟨A4, r4, d1, d2, d3, d4⟩ := pm_1019 (L := L) (xs := xs) c2 n3 h4
  obtain ⟨A5, B5, r5, e1, e2, e3, e4⟩ := pm_pieces hL (xs := xs) d2 (by rw [d3.2 5 (by decide)]; exact n5) R2.1.2.2.2.2.2.2
  have n35 : pl_N A5 0 3 0 = n := by rw [e3, d3.2 3 (by decide)]; exact n3
  obtain ⟨A6, r6, f1, f2, f3⟩ := pm_fewest e2 n35 h4
  have hc := ((((a5.trans b4).trans c4).trans d4).trans e4).trans f3
  have hc := hc.le (show 14 + 8 * (n + 1) + (5 + 4 * n) + (1 + 3 * n) + 25 + 2 ≤ 162 by omega)
  refine ⟨r6, ?_, ?_, ?_⟩
  · rw [h5, a1, b1, c1, d1]
    unfold fL_law_1153
    rw [e1, pl_b2, if_neg (by decide), f1, pl_b2, if_neg (by decide)]
  · have := hc.2.1; omega
  · have := hc.2.2; omega
theorem pl_law : ∀ L, L ≤ 260 → ∀ xs : Nat → Int32, ∃ mF, fL_law L xs ml_E0 = some (1, mF) ∧ ml_n mF ≤ 600000 ∧ ml_s mF ≤ 7302250 := fun L h xs => pl_law1000 (by omega) xs

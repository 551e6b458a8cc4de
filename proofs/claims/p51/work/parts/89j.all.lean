/-! THE LAW up to the answers of both. -/
theorem pw_law1 {L : Nat} (hL : L ≤ 1000) (xs : Nat → Int32) : ∃ nl nt np n A B r, (2 ≤ nl ∧ nl ≤ 5) ∧ (2 ≤ nt ∧ nt ≤ 4) ∧ np ≤ 2 ∧ n ≤ 7 ∧ fL_law L xs ml_E0 = fL_law_531 L xs 1 33 (nI nt) (nI n) r ∧ ph_2 1 33 A B r ∧ pm_R A B nl nt np n ∧ (∀ q, pl_N A 8 q 0 = 0) ∧ ml_n r ≤ 69 + 1000 * 338 ∧ ml_s r ≤ 52000 + 14000 * 338 := by
  obtain ⟨nl, nt, np, n, A, B, r, h1, h2, h3, h4, h5, h6, h7, h8, h9, h10, h11⟩ := pw_law0 hL xs
  have := pw_for (F := fun fu i (s : ml_M) => fL_law_202 L xs fu 1 33 69 (nI nl) (nI nt) (nI n) (nI i) s) (Inv := fun i s => ∃ A B, ph_2 1 33 A B s ∧ pm_R A B nl nt np i ∧ (∀ q, pl_N A 8 q 0 = 0) ∧ ph_d (20 * i) r s) (Post := fun R => ∃ A B r1, R = fL_law_531 L xs 1 33 (nI nt) (nI n) r1 ∧ ph_2 1 33 A B r1 ∧ pm_R A B nl nt np n ∧ (∀ q, pl_N A 8 q 0 = 0) ∧ ph_d (20 * n) r r1) n (fun fu i s hi hv => ?_) (fun fu s hv => ?_) ml_fu (by rw [pl_fu]; omega) r ⟨A, B, h6, h7, h8, ph_d.refl _⟩
  · obtain ⟨A', B', r1, e1, e2, e3, e4, e5⟩ := this
    refine ⟨nl, nt, np, n, A', B', r1, h1, h2, h3, h4, h5.trans e1, e2, e3, e4, ?_, ?_⟩
    · have := e5.2.1; omega
    · have := e5.2.2; omega
  · obtain ⟨A', B', v1, v2, v3, v4⟩ := hv
    obtain ⟨A1, B1, r1, e1, e2, e3, e4, e5⟩ := pw_turn hL (xs := xs) v1 v2 (by rw [v4.1]; exact h9) hi h4 h1 h2 v3 fu
    exact ⟨r1, e1, A1, B1, e2, e3, e4, (v4.trans e5).le (by omega)⟩
  · obtain ⟨A', B', v1, v2, v3, v4⟩ := hv
    refine ⟨A', B', s, ?_, v1, v2, v3, v4⟩
    show fL_law_202 L xs (fu + 1) 1 33 69 (nI nl) (nI nt) (nI n) (nI n) s = _
    rw [fL_law_202, if_pos (nI_le (Nat.le_refl _) (by omega))]

/-! THE LAW: its turns. Printed by wip/whole/src/mklaw.py from the text of the printed law. -/
theorem pl_lgs (v : Int64) : (lg_cmp v v = 0) = True := by
  refine eq_true ?_
  unfold lg_cmp
  rw [if_neg Int64.lt_irrefl, if_pos rfl]
theorem pl_turn {L : Nat} {xs : Nat → Int32} (hL : L ≤ 3072) {A : pl_A} {m : ml_M} (hR : pl_Rel A m) {i : Nat} (hi : 6 * i + 6 ≤ L) (fu : Nat) : ∃ B m2, fL_law_18 L xs (fu + 1) 1 33 (nI (6 * i)) m = fL_law_18 L xs fu 1 33 (nI (6 * (i + 1))) m2 ∧ ml_n m2 ≤ ml_n m + 1000 ∧ ml_s m2 ≤ ml_s m + 14000 ∧ pl_Rel B m2 := by
  have hS := hR.1
  have k1 := pl_k1 hS
  have k33 := pl_k33 hS
  have hend : ¬ (Int32.ofNat L - 6 < nI (6 * i)) := by
    have e6 : (6 : Int32) = nI 6 := rfl
    rw [pl_ofN, e6, pl_sub (by omega), nI_ltI (by omega) (by omega)]
    omega
  have hin : ∀ j, j < 6 → (¬ (nI (6 * i + j) < 0 ∨ L ≤ (nI (6 * i + j)).toNatClampNeg)) = True := fun j hj => by
    rw [pl_lt0 (by omega), nI_clamp (by omega)]
    refine eq_true ?_
    rw [false_or]
    omega
  have i0 : (¬ (nI (6 * i) < 0 ∨ L ≤ (nI (6 * i)).toNatClampNeg)) = True := hin 0 (by decide)
  have l1 : nI (6 * i) + 1 = nI (6 * i + 1) := nI_add _ 1
  have l2 : nI (6 * i) + 2 = nI (6 * i + 2) := nI_add _ 2
  have l3 : nI (6 * i) + 3 = nI (6 * i + 3) := nI_add _ 3
  have l4 : nI (6 * i) + 4 = nI (6 * i + 4) := nI_add _ 4
  have l5 : nI (6 * i) + 5 = nI (6 * i + 5) := nI_add _ 5
  have l6 : nI (6 * i) + 6 = nI (6 * (i + 1)) := nI_add _ 6
  have i1 := hin 1 (by decide)
  have i2 := hin 2 (by decide)
  have i3 := hin 3 (by decide)
  have i4 := hin 4 (by decide)
  have i5 := hin 5 (by decide)
  have same : ∀ B m2, pl_Rel B m2 → ml_n m2 = ml_n m → ml_s m2 = ml_s m → ml_n m2 ≤ ml_n m + 1000 ∧ ml_s m2 ≤ ml_s m + 14000 ∧ pl_Rel B m2 := fun B m2 h h1 h2 => ⟨by omega, by omega, h⟩
  rw [fL_law_18, if_neg hend, if_pos (of_eq_true i0)]
  generalize hx : xs (nI (6 * i)).toNatClampNeg &&& (63 : Int32) = x
  by_cases h0 : x = (0 : Int32)
  · rw [if_pos h0]
    obtain ⟨v, m1, m2, B, e1, e2, hn, hs, hk, hB⟩ := pl_op_row (xs (nI (6 * i + 1)).toNatClampNeg) (xs (nI (6 * i + 2)).toNatClampNeg) A m hR
    exact ⟨B, m2, by simp only [l1, l2, l3, l4, l5, i1, i2, i3, i4, i5, k1, hk, if_true, e1, e2, pl_b2, fL_law_1572, l6], hn, hs, hB⟩
  rw [if_neg h0]
  by_cases h1 : x = (1 : Int32)
  · rw [if_pos h1]
    obtain ⟨v, m1, m2, B, e1, e2, hn, hs, hk, hB⟩ := pl_op_lay (xs (nI (6 * i + 1)).toNatClampNeg) (xs (nI (6 * i + 2)).toNatClampNeg) (xs (nI (6 * i + 3)).toNatClampNeg) A m hR
    exact ⟨B, m2, by simp only [l1, l2, l3, l4, l5, i1, i2, i3, i4, i5, k1, hk, if_true, e1, e2, pl_b2, fL_law_1572, l6], hn, hs, hB⟩
  rw [if_neg h1]
  by_cases h2 : x = (2 : Int32)
  · rw [if_pos h2]
    obtain ⟨v, m1, m2, B, e1, e2, hn, hs, hk, hB⟩ := pl_op_at (xs (nI (6 * i + 1)).toNatClampNeg) (xs (nI (6 * i + 2)).toNatClampNeg) A m hR
    exact ⟨B, m2, by simp only [l1, l2, l3, l4, l5, i1, i2, i3, i4, i5, k1, hk, if_true, e1, e2, pl_b2, fL_law_1572, l6], hn, hs, hB⟩
  rw [if_neg h2]
  by_cases h3 : x = (3 : Int32)
  · rw [if_pos h3]
    obtain ⟨v, m1, m2, B, e1, e2, hn, hs, hk, hB⟩ := pl_op_tear (xs (nI (6 * i + 1)).toNatClampNeg) A m hR
    exact ⟨B, m2, by simp only [l1, l2, l3, l4, l5, i1, i2, i3, i4, i5, k1, hk, if_true, e1, e2, pl_b2, fL_law_1572, l6], hn, hs, hB⟩
  rw [if_neg h3]
  by_cases h4 : x = (4 : Int32)
  · rw [if_pos h4]
    obtain ⟨v, m1, m2, B, e1, e2, hn, hs, hk, hB⟩ := pl_op_copy (xs (nI (6 * i + 1)).toNatClampNeg) (xs (nI (6 * i + 2)).toNatClampNeg) (xs (nI (6 * i + 3)).toNatClampNeg) (xs (nI (6 * i + 4)).toNatClampNeg) (xs (nI (6 * i + 5)).toNatClampNeg) A m hR
    exact ⟨B, m2, by simp only [l1, l2, l3, l4, l5, i1, i2, i3, i4, i5, k1, hk, if_true, e1, e2, pl_b2, fL_law_1572, l6], hn, hs, hB⟩
  rw [if_neg h4]
  by_cases h5 : x = (5 : Int32)
  · rw [if_pos h5]
    obtain ⟨v, m1, m2, B, e1, e2, hn, hs, hk, hB⟩ := pl_op_mean (xs (nI (6 * i + 1)).toNatClampNeg) A m hR
    exact ⟨B, m2, by simp only [l1, l2, l3, l4, l5, i1, i2, i3, i4, i5, k1, hk, if_true, e1, e2, pl_b2, fL_law_1572, l6], hn, hs, hB⟩
  rw [if_neg h5]
  by_cases h6 : x = (6 : Int32)
  · rw [if_pos h6]
    obtain ⟨v, m1, m2, B, e1, e2, hn, hs, hk, hB⟩ := pl_op_text (xs (nI (6 * i + 1)).toNatClampNeg) (xs (nI (6 * i + 2)).toNatClampNeg) A m hR
    exact ⟨B, m2, by simp only [l1, l2, l3, l4, l5, i1, i2, i3, i4, i5, k1, hk, if_true, e1, e2, pl_b2, fL_law_1572, l6], hn, hs, hB⟩
  rw [if_neg h6]
  by_cases h7 : x = (7 : Int32)
  · rw [if_pos h7]
    obtain ⟨v, m1, m2, B, e1, e2, hn, hs, hk, hB⟩ := pl_op_put (xs (nI (6 * i + 1)).toNatClampNeg) (xs (nI (6 * i + 2)).toNatClampNeg) (xs (nI (6 * i + 3)).toNatClampNeg) A m hR
    exact ⟨B, m2, by simp only [l1, l2, l3, l4, l5, i1, i2, i3, i4, i5, k1, hk, if_true, e1, e2, pl_b2, fL_law_1572, l6], hn, hs, hB⟩
  rw [if_neg h7]
  by_cases h8 : x = (8 : Int32)
  · rw [if_pos h8]
    obtain ⟨v, m1, m2, B, e1, e2, hn, hs, hk, hB⟩ := pl_op_fault (xs (nI (6 * i + 1)).toNatClampNeg) A m hR
    exact ⟨B, m2, by simp only [l1, l2, l3, l4, l5, i1, i2, i3, i4, i5, k1, hk, if_true, e1, e2, pl_b2, fL_law_1572, l6], hn, hs, hB⟩
  rw [if_neg h8]
  by_cases h9 : x = (9 : Int32)
  · rw [if_pos h9]
    obtain ⟨v, m1, m2, B, e1, e2, hn, hs, hk, hB⟩ := pl_op_book (xs (nI (6 * i + 1)).toNatClampNeg) A m hR
    exact ⟨B, m2, by simp only [l1, l2, l3, l4, l5, i1, i2, i3, i4, i5, k1, hk, if_true, e1, e2, pl_b2, fL_law_1572, l6], hn, hs, hB⟩
  rw [if_neg h9]
  by_cases h10 : x = (10 : Int32)
  · rw [if_pos h10]
    obtain ⟨v, m1, m2, B, e1, e2, hn, hs, hk, hB⟩ := pl_op_wear (xs (nI (6 * i + 1)).toNatClampNeg) A m hR
    exact ⟨B, m2, by simp only [l1, l2, l3, l4, l5, i1, i2, i3, i4, i5, k1, hk, if_true, e1, e2, pl_b2, fL_law_1572, l6], hn, hs, hB⟩
  rw [if_neg h10]
  by_cases h11 : x = (11 : Int32)
  · rw [if_pos h11]
    obtain ⟨v, m1, m2, B, e1, e2, hn, hs, hk, hB⟩ := pl_op_lodger (xs (nI (6 * i + 1)).toNatClampNeg) (xs (nI (6 * i + 2)).toNatClampNeg) A m hR
    exact ⟨B, m2, by simp only [l1, l2, l3, l4, l5, i1, i2, i3, i4, i5, k1, hk, if_true, e1, e2, pl_b2, fL_law_1572, l6], hn, hs, hB⟩
  rw [if_neg h11]
  by_cases h12 : x = (12 : Int32)
  · rw [if_pos h12]
    obtain ⟨v, m1, m2, B, e1, e2, hn, hs, hk, hB⟩ := pl_op_trunk (xs (nI (6 * i + 1)).toNatClampNeg) (xs (nI (6 * i + 2)).toNatClampNeg) A m hR
    exact ⟨B, m2, by simp only [l1, l2, l3, l4, l5, i1, i2, i3, i4, i5, k1, hk, if_true, e1, e2, pl_b2, fL_law_1572, l6], hn, hs, hB⟩
  rw [if_neg h12]
  by_cases h13 : x = (13 : Int32)
  · rw [if_pos h13]
    obtain ⟨v, m1, m2, B, e1, e2, hn, hs, hk, hB⟩ := pl_op_thing (xs (nI (6 * i + 1)).toNatClampNeg) (xs (nI (6 * i + 2)).toNatClampNeg) (xs (nI (6 * i + 3)).toNatClampNeg) (xs (nI (6 * i + 4)).toNatClampNeg) (xs (nI (6 * i + 5)).toNatClampNeg) A m hR
    exact ⟨B, m2, by simp only [l1, l2, l3, l4, l5, i1, i2, i3, i4, i5, k1, hk, if_true, e1, e2, pl_b2, fL_law_1572, l6], hn, hs, hB⟩
  rw [if_neg h13]
  by_cases h14 : x = (14 : Int32)
  · rw [if_pos h14]
    rcases Classical.em (xs (nI (6 * i + 3)).toNatClampNeg = 0) with z | z
    · obtain ⟨v, m1, m2, B, e1, e2, hn, hs, hk, hB⟩ := pl_op_lies (xs (nI (6 * i + 1)).toNatClampNeg) (xs (nI (6 * i + 2)).toNatClampNeg) 0 (by decide) A m hR
      rw [show nI 0 = (0 : Int32) from rfl] at e1 e2
      exact ⟨B, m2, by simp only [l1, l2, l3, i1, i2, i3, z, k1, hk, if_true, if_false, fL_law_756, fL_law_783, e1, e2, pl_b2, fL_law_1572, l6], hn, hs, hB⟩
    · obtain ⟨v, m1, m2, B, e1, e2, hn, hs, hk, hB⟩ := pl_op_lies (xs (nI (6 * i + 1)).toNatClampNeg) (xs (nI (6 * i + 2)).toNatClampNeg) 1 (by decide) A m hR
      rw [show nI 1 = (1 : Int32) from rfl] at e1 e2
      exact ⟨B, m2, by simp only [l1, l2, l3, i1, i2, i3, z, k1, hk, if_true, if_false, fL_law_756, fL_law_783, e1, e2, pl_b2, fL_law_1572, l6], hn, hs, hB⟩
  rw [if_neg h14]
  by_cases h15 : x = (15 : Int32)
  · rw [if_pos h15]
    obtain ⟨v, m1, m2, B, e1, e2, hn, hs, hk, hB⟩ := pl_op_told (xs (nI (6 * i + 1)).toNatClampNeg) (xs (nI (6 * i + 2)).toNatClampNeg) A m hR
    exact ⟨B, m2, by simp only [l1, l2, l3, l4, l5, i1, i2, i3, i4, i5, k1, hk, if_true, e1, e2, pl_b2, fL_law_1572, l6], hn, hs, hB⟩
  rw [if_neg h15]
  by_cases h16 : x = (16 : Int32)
  · rw [if_pos h16]
    obtain ⟨v, m1, m2, B, e1, e2, hn, hs, hk, hB⟩ := pl_op_mark (xs (nI (6 * i + 1)).toNatClampNeg) (xs (nI (6 * i + 2)).toNatClampNeg) A m hR
    exact ⟨B, m2, by simp only [l1, l2, l3, l4, l5, i1, i2, i3, i4, i5, k1, hk, if_true, e1, e2, pl_b2, fL_law_1572, l6], hn, hs, hB⟩
  rw [if_neg h16]
  by_cases h17 : x = (17 : Int32)
  · rw [if_pos h17]
    obtain ⟨v, e1, e2⟩ := pl_op_may (xs (nI (6 * i + 1)).toNatClampNeg) A m hR
    exact ⟨A, m, by simp only [l1, l2, l3, l4, l5, i1, i2, i3, i4, i5, k1, k33, if_true, e1, e2, pl_b1, pl_lgs, fL_law_1572, l6], same A m hR rfl rfl⟩
  rw [if_neg h17]
  by_cases h18 : x = (18 : Int32)
  · rw [if_pos h18]
    obtain ⟨v, m1, m2, B, e1, e2, hn, hs, hk, hB⟩ := pl_op_fewest  A m hR
    exact ⟨B, m2, by simp only [l1, l2, l3, l4, l5, i1, i2, i3, i4, i5, k1, hk, if_true, e1, e2, pl_b2, fL_law_1572, l6], hn, hs, hB⟩
  rw [if_neg h18]
  by_cases h19 : x = (19 : Int32)
  · rw [if_pos h19]
    obtain ⟨v, m1, m2, B, e1, e2, hn, hs, hk, hB⟩ := pl_op_fits  A m hR
    exact ⟨B, m2, by simp only [l1, l2, l3, l4, l5, i1, i2, i3, i4, i5, k1, hk, if_true, e1, e2, pl_b2, fL_law_1572, l6], hn, hs, hB⟩
  rw [if_neg h19]
  by_cases h20 : x = (20 : Int32)
  · rw [if_pos h20]
    obtain ⟨v, m1, m2, B, e1, e2, hn, hs, hk, hB⟩ := pl_op_opens (xs (nI (6 * i + 1)).toNatClampNeg) A m hR
    exact ⟨B, m2, by simp only [l1, l2, l3, l4, l5, i1, i2, i3, i4, i5, k1, hk, if_true, e1, e2, pl_b2, fL_law_1572, l6], hn, hs, hB⟩
  rw [if_neg h20]
  by_cases h21 : x = (21 : Int32)
  · rw [if_pos h21]
    obtain ⟨v, m1, m2, B, e1, e2, hn, hs, hk, hB⟩ := pl_op_strange  A m hR
    exact ⟨B, m2, by simp only [l1, l2, l3, l4, l5, i1, i2, i3, i4, i5, k1, hk, if_true, e1, e2, pl_b2, fL_law_1572, l6], hn, hs, hB⟩
  rw [if_neg h21]
  by_cases h22 : x = (22 : Int32)
  · rw [if_pos h22]
    obtain ⟨v, m1, m2, B, e1, e2, hn, hs, hk, hB⟩ := pl_op_water  A m hR
    exact ⟨B, m2, by simp only [l1, l2, l3, l4, l5, i1, i2, i3, i4, i5, k1, hk, if_true, e1, e2, pl_b2, fL_law_1572, l6], hn, hs, hB⟩
  rw [if_neg h22]
  by_cases h23 : x = (23 : Int32)
  · rw [if_pos h23]
    obtain ⟨v, m1, m2, B, e1, e2, hn, hs, hk, hB⟩ := pl_op_piling (xs (nI (6 * i + 1)).toNatClampNeg) A m hR
    exact ⟨B, m2, by simp only [l1, l2, l3, l4, l5, i1, i2, i3, i4, i5, k1, hk, if_true, e1, e2, pl_b2, fL_law_1572, l6], hn, hs, hB⟩
  rw [if_neg h23]
  by_cases h24 : x = (24 : Int32)
  · rw [if_pos h24]
    obtain ⟨v, m1, m2, B, e1, e2, hn, hs, hk, hB⟩ := pl_op_share (xs (nI (6 * i + 1)).toNatClampNeg) A m hR
    exact ⟨B, m2, by simp only [l1, l2, l3, l4, l5, i1, i2, i3, i4, i5, k1, hk, if_true, e1, e2, pl_b2, fL_law_1572, l6], hn, hs, hB⟩
  rw [if_neg h24]
  by_cases h25 : x = (25 : Int32)
  · rw [if_pos h25]
    obtain ⟨v, m1, m2, B, e1, e2, hn, hs, hk, hB⟩ := pl_op_ways (xs (nI (6 * i + 1)).toNatClampNeg) A m hR
    exact ⟨B, m2, by simp only [l1, l2, l3, l4, l5, i1, i2, i3, i4, i5, k1, hk, if_true, e1, e2, pl_b2, fL_law_1572, l6], hn, hs, hB⟩
  rw [if_neg h25]
  by_cases h26 : x = (26 : Int32)
  · rw [if_pos h26]
    obtain ⟨v, m1, m2, B, e1, e2, hn, hs, hk, hB⟩ := pl_op_whose (xs (nI (6 * i + 1)).toNatClampNeg) (xs (nI (6 * i + 2)).toNatClampNeg) A m hR
    exact ⟨B, m2, by simp only [l1, l2, l3, l4, l5, i1, i2, i3, i4, i5, k1, hk, if_true, e1, e2, pl_b2, fL_law_1572, l6], hn, hs, hB⟩
  rw [if_neg h26]
  by_cases h27 : x = (27 : Int32)
  · rw [if_pos h27]
    obtain ⟨v, m1, m2, B, e1, e2, hn, hs, hk, hB⟩ := pl_op_sure (xs (nI (6 * i + 1)).toNatClampNeg) A m hR
    exact ⟨B, m2, by simp only [l1, l2, l3, l4, l5, i1, i2, i3, i4, i5, k1, hk, if_true, e1, e2, pl_b2, fL_law_1572, l6], hn, hs, hB⟩
  rw [if_neg h27]
  by_cases h28 : x = (28 : Int32)
  · rw [if_pos h28]
    obtain ⟨v, m1, m2, B, e1, e2, hn, hs, hk, hB⟩ := pl_op_next (xs (nI (6 * i + 1)).toNatClampNeg) A m hR
    exact ⟨B, m2, by simp only [l1, l2, l3, l4, l5, i1, i2, i3, i4, i5, k1, hk, if_true, e1, e2, pl_b2, fL_law_1572, l6], hn, hs, hB⟩
  rw [if_neg h28]
  by_cases h29 : x = (29 : Int32)
  · rw [if_pos h29]
    obtain ⟨v, m1, m2, B, e1, e2, hn, hs, hk, hB⟩ := pl_op_moves (xs (nI (6 * i + 1)).toNatClampNeg) (xs (nI (6 * i + 2)).toNatClampNeg) A m hR
    exact ⟨B, m2, by simp only [l1, l2, l3, l4, l5, i1, i2, i3, i4, i5, k1, hk, if_true, e1, e2, pl_b2, fL_law_1572, l6], hn, hs, hB⟩
  rw [if_neg h29]
  by_cases h30 : x = (30 : Int32)
  · rw [if_pos h30]
    obtain ⟨v, m1, m2, B, e1, e2, hn, hs, hk, hB⟩ := pl_op_line (xs (nI (6 * i + 1)).toNatClampNeg) (xs (nI (6 * i + 2)).toNatClampNeg) (xs (nI (6 * i + 3)).toNatClampNeg) A m hR
    exact ⟨B, m2, by simp only [l1, l2, l3, l4, l5, i1, i2, i3, i4, i5, k1, hk, if_true, e1, e2, pl_b2, fL_law_1572, l6], hn, hs, hB⟩
  rw [if_neg h30]
  by_cases h31 : x = (31 : Int32)
  · rw [if_pos h31]
    obtain ⟨v, m1, m2, B, e1, e2, hn, hs, hk, hB⟩ := pl_op_readings  A m hR
    exact ⟨B, m2, by simp only [l1, l2, l3, l4, l5, i1, i2, i3, i4, i5, k1, hk, if_true, e1, e2, pl_b2, fL_law_1572, l6], hn, hs, hB⟩
  rw [if_neg h31]
  by_cases h32 : x = (32 : Int32)
  · rw [if_pos h32]
    obtain ⟨v, m1, m2, B, e1, e2, hn, hs, hk, hB⟩ := pl_op_lineOf (xs (nI (6 * i + 1)).toNatClampNeg) A m hR
    exact ⟨B, m2, by simp only [l1, l2, l3, l4, l5, i1, i2, i3, i4, i5, k1, hk, if_true, e1, e2, pl_b2, fL_law_1572, l6], hn, hs, hB⟩
  rw [if_neg h32]
  by_cases h33 : x = (33 : Int32)
  · rw [if_pos h33]
    obtain ⟨v, m1, m2, B, e1, e2, hn, hs, hk, hB⟩ := pl_op_bit (xs (nI (6 * i + 1)).toNatClampNeg) (xs (nI (6 * i + 2)).toNatClampNeg) (xs (nI (6 * i + 3)).toNatClampNeg) (xs (nI (6 * i + 4)).toNatClampNeg) A m hR
    exact ⟨B, m2, by simp only [l1, l2, l3, l4, l5, i1, i2, i3, i4, i5, k1, hk, if_true, e1, e2, pl_b2, fL_law_1572, l6], hn, hs, hB⟩
  rw [if_neg h33]
  by_cases h34 : x = (34 : Int32)
  · rw [if_pos h34]
    obtain ⟨v, e1, e2⟩ := pl_op_joins (xs (nI (6 * i + 1)).toNatClampNeg) (xs (nI (6 * i + 2)).toNatClampNeg) A m hR
    exact ⟨A, m, by simp only [l1, l2, l3, l4, l5, i1, i2, i3, i4, i5, k1, k33, if_true, e1, e2, pl_b1, pl_lgs, fL_law_1572, l6], same A m hR rfl rfl⟩
  rw [if_neg h34]
  by_cases h35 : x = (35 : Int32)
  · rw [if_pos h35]
    obtain ⟨v, m1, m2, B, e1, e2, hn, hs, hk, hB⟩ := pl_op_sheets (xs (nI (6 * i + 1)).toNatClampNeg) A m hR
    exact ⟨B, m2, by simp only [l1, l2, l3, l4, l5, i1, i2, i3, i4, i5, k1, hk, if_true, e1, e2, pl_b2, fL_law_1572, l6], hn, hs, hB⟩
  rw [if_neg h35]
  by_cases h36 : x = (36 : Int32)
  · rw [if_pos h36]
    obtain ⟨v, m1, m2, B, e1, e2, hn, hs, hk, hB⟩ := pl_op_laid  A m hR
    exact ⟨B, m2, by simp only [l1, l2, l3, l4, l5, i1, i2, i3, i4, i5, k1, hk, if_true, e1, e2, pl_b2, fL_law_1572, l6], hn, hs, hB⟩
  rw [if_neg h36]
  by_cases h37 : x = (37 : Int32)
  · rw [if_pos h37]
    obtain ⟨v, m1, m2, B, e1, e2, hn, hs, hk, hB⟩ := pl_op_travellers  A m hR
    exact ⟨B, m2, by simp only [l1, l2, l3, l4, l5, i1, i2, i3, i4, i5, k1, hk, if_true, e1, e2, pl_b2, fL_law_1572, l6], hn, hs, hB⟩
  rw [if_neg h37]
  by_cases h38 : x = (38 : Int32)
  · rw [if_pos h38]
    obtain ⟨v, m1, m2, B, e1, e2, hn, hs, hk, hB⟩ := pl_op_journey (xs (nI (6 * i + 1)).toNatClampNeg) A m hR
    exact ⟨B, m2, by simp only [l1, l2, l3, l4, l5, i1, i2, i3, i4, i5, k1, hk, if_true, e1, e2, pl_b2, fL_law_1572, l6], hn, hs, hB⟩
  rw [if_neg h38]
  by_cases h39 : x = (39 : Int32)
  · rw [if_pos h39]
    obtain ⟨v, m1, m2, B, e1, e2, hn, hs, hk, hB⟩ := pl_op_claim (xs (nI (6 * i + 1)).toNatClampNeg) (xs (nI (6 * i + 2)).toNatClampNeg) (xs (nI (6 * i + 3)).toNatClampNeg) A m hR
    exact ⟨B, m2, by simp only [l1, l2, l3, l4, l5, i1, i2, i3, i4, i5, k1, hk, if_true, e1, e2, pl_b2, fL_law_1572, l6], hn, hs, hB⟩
  rw [if_neg h39]
  by_cases h40 : x = (40 : Int32)
  · rw [if_pos h40]
    obtain ⟨v, m1, m2, B, e1, e2, hn, hs, hk, hB⟩ := pl_op_judge (xs (nI (6 * i + 1)).toNatClampNeg) A m hR
    exact ⟨B, m2, by simp only [l1, l2, l3, l4, l5, i1, i2, i3, i4, i5, k1, hk, if_true, e1, e2, pl_b2, fL_law_1572, l6], hn, hs, hB⟩
  rw [if_neg h40]
  by_cases h41 : x = (41 : Int32)
  · rw [if_pos h41]
    obtain ⟨v, m1, m2, B, e1, e2, hn, hs, hk, hB⟩ := pl_op_heir (xs (nI (6 * i + 1)).toNatClampNeg) (xs (nI (6 * i + 2)).toNatClampNeg) A m hR
    exact ⟨B, m2, by simp only [l1, l2, l3, l4, l5, i1, i2, i3, i4, i5, k1, hk, if_true, e1, e2, pl_b2, fL_law_1572, l6], hn, hs, hB⟩
  rw [if_neg h41]
  by_cases h42 : x = (42 : Int32)
  · rw [if_pos h42]
    obtain ⟨v, e1, e2⟩ := pl_op_asked  A m hR
    exact ⟨A, m, by simp only [l1, l2, l3, l4, l5, i1, i2, i3, i4, i5, k1, k33, if_true, e1, e2, pl_b1, pl_lgs, fL_law_1572, l6], same A m hR rfl rfl⟩
  rw [if_neg h42]
  by_cases h43 : x = (43 : Int32)
  · rw [if_pos h43]
    obtain ⟨v, e1, e2⟩ := pl_op_many  A m hR
    exact ⟨A, m, by simp only [l1, l2, l3, l4, l5, i1, i2, i3, i4, i5, k1, k33, if_true, e1, e2, pl_b1, pl_lgs, fL_law_1572, l6], same A m hR rfl rfl⟩
  rw [if_neg h43]
  by_cases h44 : x = (44 : Int32)
  · rw [if_pos h44]
    obtain ⟨v, e1, e2⟩ := pl_op_count (xs (nI (6 * i + 1)).toNatClampNeg) A m hR
    exact ⟨A, m, by simp only [l1, l2, l3, l4, l5, i1, i2, i3, i4, i5, k1, k33, if_true, e1, e2, pl_b1, pl_lgs, fL_law_1572, l6], same A m hR rfl rfl⟩
  rw [if_neg h44]
  by_cases h45 : x = (45 : Int32)
  · rw [if_pos h45]
    obtain ⟨v, e1, e2⟩ := pl_op_finding  A m hR
    exact ⟨A, m, by simp only [l1, l2, l3, l4, l5, i1, i2, i3, i4, i5, k1, k33, if_true, e1, e2, pl_b1, pl_lgs, fL_law_1572, l6], same A m hR rfl rfl⟩
  rw [if_neg h45]
  by_cases h46 : x = (46 : Int32)
  · rw [if_pos h46]
    obtain ⟨v, e1, e2⟩ := pl_op_findings (xs (nI (6 * i + 1)).toNatClampNeg) A m hR
    exact ⟨A, m, by simp only [l1, l2, l3, l4, l5, i1, i2, i3, i4, i5, k1, k33, if_true, e1, e2, pl_b1, pl_lgs, fL_law_1572, l6], same A m hR rfl rfl⟩
  rw [if_neg h46]
  by_cases h47 : x = (47 : Int32)
  · rw [if_pos h47]
    obtain ⟨v, m2, e1, e2, e3, e4, hB⟩ := pl_op_digest A m hR
    exact ⟨A, m2, by simp only [k1, k33, if_true, e1, e2, pl_b1, pl_b2, pl_lgs, fL_law_1572, l6], same A m2 hB e3 e4⟩
  rw [if_neg h47]
  exact ⟨A, m, by simp only [fL_law_1572, l6], same A m hR rfl rfl⟩
theorem pl_ar {a b c k i : Nat} (h : a ≤ b + k) (h2 : b ≤ c + k * i) : a ≤ c + k * (i + 1) := by
  rw [Nat.mul_succ]
  omega
theorem pl_law (L : Nat) (hL : L ≤ 3072) (xs : Nat → Int32) : ∃ mF, fL_law L xs ml_E0 = some (1, mF) ∧ ml_n mF ≤ 600000 ∧ ml_s mF ≤ 7302250 := by
  rw [pl_begin]
  have hp := pl_loop (F := fun fu (s : Nat × ml_M) => fL_law_18 L xs fu 1 33 (nI (6 * s.1)) s.2) (μ := fun s => 512 - s.1) (Inv := fun s => 6 * s.1 ≤ L ∧ ml_n s.2 ≤ 60 + 1000 * s.1 ∧ ml_s s.2 ≤ 100000 + 14000 * s.1 ∧ ∃ A, pl_Rel A s.2) (Post := fun o => ∃ mF, o = some (1, mF) ∧ ml_n mF ≤ 600000 ∧ ml_s mF ≤ 7302250) ?_ ml_fu (0, pl_m0) (by rw [pl_fu]; show 512 - 0 < 4194304; omega) ⟨by show 6 * 0 ≤ L; omega, by show ml_n pl_m0 ≤ _; rw [pl_i5.1]; omega, by show ml_s pl_m0 ≤ _; have := pl_i5.2; omega, pl_A0, pl_rel0⟩
  · exact hp
  · rintro fu ⟨i, m⟩ ⟨h1, h2, h3, A, hR⟩
    simp only at h1 h2 h3
    by_cases hi : 6 * i + 6 ≤ L
    · obtain ⟨B, m2, e, g1, g2, g3⟩ := pl_turn (xs := xs) hL hR hi fu
      have q1 : 6 * (i + 1) ≤ L := by omega
      have q2 : ml_n m2 ≤ 60 + 1000 * (i + 1) := pl_ar (k := 1000) g1 h2
      have q3 : ml_s m2 ≤ 100000 + 14000 * (i + 1) := pl_ar (k := 14000) g2 h3
      have q4 : 512 - (i + 1) < 512 - i := by omega
      refine Or.inr ⟨(i + 1, m2), e, ?_, ?_⟩
      · simp only
        exact ⟨q1, q2, q3, B, g3⟩
      · simp only
        exact q4
    · refine Or.inl ⟨m, ?_, by omega, by omega⟩
      show fL_law_18 L xs (fu + 1) 1 33 (nI (6 * i)) m = some (1, m)
      have e6 : (6 : Int32) = nI 6 := rfl
      have hend : Int32.ofNat L - 6 < nI (6 * i) := by
        rw [pl_ofN, e6]
        by_cases hL6 : 6 ≤ L
        · rw [pl_sub hL6, nI_ltI (by omega) (by omega)]; omega
        · rw [Int32.lt_iff_toInt_lt, pk_sub_toInt (by omega) (by decide), nI_toInt (by omega)]; omega
      rw [fL_law_18, if_pos hend]

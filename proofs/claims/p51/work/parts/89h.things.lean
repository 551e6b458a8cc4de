/-! ONE TURN OF THE LAW'S LOOP over things. -/
theorem pw_cellT {L : Nat} (hL : L ≤ 1000) (xs : Nat → Int32) {nl nt i : Nat} (hi : i < 8) (hnl : 2 ≤ nl ∧ nl ≤ 5) (r : ml_M) :
    fL_thing L xs 1 (nI (80 + 4 * i)) (nI nl) (nI nt) 69 (nI i) r = fL_thing_228 L xs 1 (nI nt) 69 (nI i) (nI (1 + pw_c L xs (80 + 4 * i) % 5)) (nI (pw_c L xs (80 + 4 * i + 1) % 40)) (nI (pw_c L xs (80 + 4 * i + 1) % 40 + pw_c L xs (80 + 4 * i + 2) % 15)) (nI (pw_c L xs (80 + 4 * i + 3))) (nI (pw_one (1 + pw_c L xs (80 + 4 * i) % 5) (pw_c L xs (80 + 4 * i + 3)))) (nI (pw_oth nl (1 + pw_c L xs (80 + 4 * i) % 5) (pw_c L xs (80 + 4 * i + 3)))) r := by
  have c0 := pw_c_lt L xs (show 80 + 4 * i ≤ 1000 by omega)
  have c1 := pw_c_lt L xs (show 80 + 4 * i + 1 ≤ 1000 by omega)
  have c2 := pw_c_lt L xs (show 80 + 4 * i + 2 ≤ 1000 by omega)
  have c3 := pw_c_lt L xs (show 80 + 4 * i + 3 ≤ 1000 by omega)
  have cl : ∀ k, k ≤ 1000 → fL_cell L xs (nI k) r = some (nI (pw_c L xs k)) := fun k hk => pw_cell hL xs hk r
  obtain ⟨x, hx⟩ : ∃ x, x = pw_c L xs (80 + 4 * i + 3) := ⟨_, rfl⟩
  obtain ⟨k, hk⟩ : ∃ k, k = 1 + pw_c L xs (80 + 4 * i) % 5 := ⟨_, rfl⟩
  have cx : fL_cell L xs (nI (80 + 4 * i + 3)) r = some (nI x) := by rw [hx]; exact cl _ (by omega)
  rw [← hx] at c3
  rw [← hx, ← hk]
  have n0 : nI 0 = (0 : Int32) := nI_0
  have ek : fL_thing L xs 1 (nI (80 + 4 * i)) (nI nl) (nI nt) 69 (nI i) r = fL_thing_24 L xs 1 (nI (80 + 4 * i)) (nI nl) (nI nt) 69 (nI i) (nI k) r := by
    have e1 : (1 : Int32) + (nI (pw_c L xs (80 + 4 * i)) - nI (pw_c L xs (80 + 4 * i)) / (5 : Int32) * (5 : Int32)) = nI k := by rw [pl_l1, pl_l5, pk_rem (by omega) (by decide) (by decide), nI_add, hk]
    unfold fL_thing
    rw [cl _ (by omega), pl_b1, pl_let, e1]
    by_cases h3 : nI k = (3 : Int32)
    · rw [if_pos h3, if_neg (by rw [pl_eq0 (by omega)]; omega)]
    · rw [if_neg h3]
  rw [ek]
  have hk5 : k = 1 ∨ k = 2 ∨ k = 3 ∨ k = 4 ∨ k = 5 := by omega
  have a1 : nI (80 + 4 * i) + (1 : Int32) = nI (80 + 4 * i + 1) := nI_1 _
  have a2 : nI (80 + 4 * i) + (2 : Int32) = nI (80 + 4 * i + 2) := nI_add _ 2
  have a3 : nI (80 + 4 * i) + (3 : Int32) = nI (80 + 4 * i + 3) := nI_add _ 3
  have r40 : nI (pw_c L xs (80 + 4 * i + 1)) - nI (pw_c L xs (80 + 4 * i + 1)) / (40 : Int32) * (40 : Int32) = nI (pw_c L xs (80 + 4 * i + 1) % 40) := by rw [pl_l40, pk_rem (by omega) (by decide) (by decide)]
  have r15 : nI (pw_c L xs (80 + 4 * i + 2)) - nI (pw_c L xs (80 + 4 * i + 2)) / (15 : Int32) * (15 : Int32) = nI (pw_c L xs (80 + 4 * i + 2) % 15) := by rw [pl_l15, pk_rem (by omega) (by decide) (by decide)]
  unfold fL_thing_24
  rw [a1, a2, a3, cl _ (by omega), pl_b1, pl_let, r40, cl _ (by omega), pl_b1, pl_let, r15, nI_add, cx, pl_b1]
  rcases hk5 with rfl | rfl | rfl | rfl | rfl
  · simp (disch := omega) only [fL_thing_170, pl_l1, pl_l2, pl_l3, pl_l4, pl_l5, pl_l6, pl_l7, pl_l8, pl_l9, pl_l10, pl_l11, pl_l12, pl_l13, pl_l14, pl_l15, pl_l16, pl_l17, pl_l18, pl_l19, pl_l20, pl_l21, pl_l22, pl_l23, pl_l24, pl_l25, pl_l26, pl_l27, pl_l28, pl_l29, pl_l30, pl_l31, pl_l32, pl_l33, pl_l34, pl_l35, pl_l36, pl_l37, pl_l38, pl_l39, pl_l40, pl_l41, pl_l42, pl_l43, pl_l44, pl_l45, pl_l46, pl_l47, pl_l48, pl_l49, pl_l50, pl_l51, pl_l52, pl_l53, pl_l54, pl_l55, pl_l56, pl_l57, pl_l58, pl_l59, pl_l60, pl_l61, pl_l62, pl_l63, pl_l64, pl_l99, pl_l100, pl_l119, pl_l120, pl_l255, pl_l256, pl_l999, pl_l1000, pl_l1023, pl_l1024, pl_l1111, pl_l5555, pl_l10240, nI_eq, Nat.reduceEqDiff, if_true, if_false, pk_div, pk_mul, pl_rem3, nI_add, pw_one, pw_oth, n0]
  · simp (disch := omega) only [fL_thing_170, pl_l1, pl_l2, pl_l3, pl_l4, pl_l5, pl_l6, pl_l7, pl_l8, pl_l9, pl_l10, pl_l11, pl_l12, pl_l13, pl_l14, pl_l15, pl_l16, pl_l17, pl_l18, pl_l19, pl_l20, pl_l21, pl_l22, pl_l23, pl_l24, pl_l25, pl_l26, pl_l27, pl_l28, pl_l29, pl_l30, pl_l31, pl_l32, pl_l33, pl_l34, pl_l35, pl_l36, pl_l37, pl_l38, pl_l39, pl_l40, pl_l41, pl_l42, pl_l43, pl_l44, pl_l45, pl_l46, pl_l47, pl_l48, pl_l49, pl_l50, pl_l51, pl_l52, pl_l53, pl_l54, pl_l55, pl_l56, pl_l57, pl_l58, pl_l59, pl_l60, pl_l61, pl_l62, pl_l63, pl_l64, pl_l99, pl_l100, pl_l119, pl_l120, pl_l255, pl_l256, pl_l999, pl_l1000, pl_l1023, pl_l1024, pl_l1111, pl_l5555, pl_l10240, nI_eq, Nat.reduceEqDiff, if_true, if_false, pk_div, pk_mul, pl_rem3, nI_add, pw_one, pw_oth, n0]
  · have e3 : nI (x / 16) - nI (x / 16) / nI nl * nI nl = nI (x / 16 % nl) := pk_rem (by omega) (by omega) (by omega)
    simp (disch := omega) only [fL_thing_170, pl_l1, pl_l2, pl_l3, pl_l4, pl_l5, pl_l6, pl_l7, pl_l8, pl_l9, pl_l10, pl_l11, pl_l12, pl_l13, pl_l14, pl_l15, pl_l16, pl_l17, pl_l18, pl_l19, pl_l20, pl_l21, pl_l22, pl_l23, pl_l24, pl_l25, pl_l26, pl_l27, pl_l28, pl_l29, pl_l30, pl_l31, pl_l32, pl_l33, pl_l34, pl_l35, pl_l36, pl_l37, pl_l38, pl_l39, pl_l40, pl_l41, pl_l42, pl_l43, pl_l44, pl_l45, pl_l46, pl_l47, pl_l48, pl_l49, pl_l50, pl_l51, pl_l52, pl_l53, pl_l54, pl_l55, pl_l56, pl_l57, pl_l58, pl_l59, pl_l60, pl_l61, pl_l62, pl_l63, pl_l64, pl_l99, pl_l100, pl_l119, pl_l120, pl_l255, pl_l256, pl_l999, pl_l1000, pl_l1023, pl_l1024, pl_l1111, pl_l5555, pl_l10240, nI_eq, Nat.reduceEqDiff, if_true, if_false, pk_div, pk_mul, pl_rem3, nI_add, pw_one, pw_oth, n0, pl_eq0, show ¬ nl = 0 by omega, not_false_iff]
  · simp (disch := omega) only [fL_thing_170, pl_l1, pl_l2, pl_l3, pl_l4, pl_l5, pl_l6, pl_l7, pl_l8, pl_l9, pl_l10, pl_l11, pl_l12, pl_l13, pl_l14, pl_l15, pl_l16, pl_l17, pl_l18, pl_l19, pl_l20, pl_l21, pl_l22, pl_l23, pl_l24, pl_l25, pl_l26, pl_l27, pl_l28, pl_l29, pl_l30, pl_l31, pl_l32, pl_l33, pl_l34, pl_l35, pl_l36, pl_l37, pl_l38, pl_l39, pl_l40, pl_l41, pl_l42, pl_l43, pl_l44, pl_l45, pl_l46, pl_l47, pl_l48, pl_l49, pl_l50, pl_l51, pl_l52, pl_l53, pl_l54, pl_l55, pl_l56, pl_l57, pl_l58, pl_l59, pl_l60, pl_l61, pl_l62, pl_l63, pl_l64, pl_l99, pl_l100, pl_l119, pl_l120, pl_l255, pl_l256, pl_l999, pl_l1000, pl_l1023, pl_l1024, pl_l1111, pl_l5555, pl_l10240, nI_eq, Nat.reduceEqDiff, if_true, if_false, pk_div, pk_mul, pl_rem3, nI_add, pw_one, pw_oth, n0]
  · simp (disch := omega) only [fL_thing_170, pl_l1, pl_l2, pl_l3, pl_l4, pl_l5, pl_l6, pl_l7, pl_l8, pl_l9, pl_l10, pl_l11, pl_l12, pl_l13, pl_l14, pl_l15, pl_l16, pl_l17, pl_l18, pl_l19, pl_l20, pl_l21, pl_l22, pl_l23, pl_l24, pl_l25, pl_l26, pl_l27, pl_l28, pl_l29, pl_l30, pl_l31, pl_l32, pl_l33, pl_l34, pl_l35, pl_l36, pl_l37, pl_l38, pl_l39, pl_l40, pl_l41, pl_l42, pl_l43, pl_l44, pl_l45, pl_l46, pl_l47, pl_l48, pl_l49, pl_l50, pl_l51, pl_l52, pl_l53, pl_l54, pl_l55, pl_l56, pl_l57, pl_l58, pl_l59, pl_l60, pl_l61, pl_l62, pl_l63, pl_l64, pl_l99, pl_l100, pl_l119, pl_l120, pl_l255, pl_l256, pl_l999, pl_l1000, pl_l1023, pl_l1024, pl_l1111, pl_l5555, pl_l10240, nI_eq, Nat.reduceEqDiff, if_true, if_false, pk_div, pk_mul, pl_rem3, nI_add, pw_one, pw_oth, n0, pw_key]
/-- the same may have owned it, seen from the other end -/
theorem pm_may {A B : pl_A} {nl nt np n : Nat} (h : pm_R A B nl nt np n) {l i : Nat} (hl : l < nl) (hi : i < n) (hki : pl_N A 4 i 0 ≤ 5) : pl_may B (nl - 1 - l) i = pl_may A l i := by
  obtain ⟨-, c1, c2, c3, c4, c5⟩ := h
  have e : ∀ k, k < 5 → pl_N B 1 (nl - 1 - l) k = pl_N A 1 l k := fun k hk => by
    rw [c1 (nl - 1 - l) k (by omega) hk, show nl - 1 - (nl - 1 - l) = l by omega]
  unfold pl_may
  rw [e 0 (by decide), e 1 (by decide), e 2 (by decide), e 3 (by decide), e 4 (by decide), c4 i 0 (by decide), c4 i 1 (by decide), c4 i 2 (by decide), c4 i 5 (by decide)]
  by_cases h3 : pl_N A 4 i 0 = 3
  · obtain ⟨d1, d2⟩ := c5 i hi h3
    have ee : (pl_N B 4 i 6 = nl - 1 - l) = (pl_N A 4 i 6 = l) := propext ⟨fun z => by omega, fun z => by omega⟩
    have e1 : ¬ pl_N A 4 i 0 = 1 := by omega
    have e2 : ¬ pl_N A 4 i 0 = 2 := by omega
    simp only [if_neg e1, if_neg e2, if_pos h3, ee]
  · simp only [if_neg h3]
theorem pm_own {A B : pl_A} {nl nt np n : Nat} (h : pm_R A B nl nt np n) {j i : Nat} (hj : j < nl) (hi : i < n) (hki : pl_N A 4 i 0 ≤ 5) : (pl_own B i).testBit (nl - 1 - j) = (pl_own A i).testBit j := by
  have h0 := h.1.1
  unfold pl_own
  rw [pl_set_tb, pl_set_tb, h0.1, h0.2, pm_may h hj hi hki, decide_eq_true (show nl - 1 - j < nl by omega), decide_eq_true hj]
theorem pw_bit1 {s j : Nat} (hs : s < 2 ^ 31) (hj : j < 31) : (nI s >>> (nI j &&& 31)) &&& (1 : Int32) = nI (if s.testBit j = true then 1 else 0) := by
  rw [pl_l31, pl_and, pl_shr2 hs hj, pl_l1, pl_and, Nat.and_one_is_mod, Nat.testBit_eq_decide_div_mod_eq]
  by_cases h : s / 2 ^ j % 2 = 1
  · rw [decide_eq_true h, if_pos rfl, h]
  · rw [decide_eq_false h, if_neg (by decide)]
    congr 1; omega
theorem pw_andn (x y : Int32) : (x &&& y) &&& (y ^^^ (-1 : Int32)) = 0 := by
  apply Int32.toBitVec_inj.mp
  rw [Int32.toBitVec_and, Int32.toBitVec_and, Int32.toBitVec_xor]
  have e : (-1 : Int32).toBitVec = BitVec.allOnes 32 := by decide
  rw [e, BitVec.xor_allOnes]
  ext i hi
  simp
/-- a subset of bits -/
theorem pw_sub0 {a b : Nat} (h : ∀ j, a.testBit j = true → b.testBit j = true) : nI a &&& (nI b ^^^ (-1 : Int32)) = 0 := by
  have e : a = a &&& b := by
    apply Nat.eq_of_testBit_eq
    intro j
    rw [Nat.testBit_and]
    cases ha : a.testBit j with
    | false => rfl
    | true => rw [h j ha]; rfl
  rw [e, ← pl_and]
  exact pw_andn _ _

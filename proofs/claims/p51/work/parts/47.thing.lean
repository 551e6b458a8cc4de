/-! THINGS: owners, thing. -/
/-- a cell that holds row i of the things, owners and place aside -/
def pl_cel (A : pl_A) (m : ml_M) (a i : Nat) : Prop := ml_K m a = (8, 0) ∧ ml_I m a 0 = nI (pl_N A 4 i 0) ∧ ml_I m a 1 = nI (pl_N A 4 i 1) ∧ ml_I m a 2 = nI (pl_N A 4 i 2) ∧ ml_I m a 3 = nI (pl_N A 4 i 5) ∧ ml_I m a 4 = (if pl_N A 4 i 0 = 3 then nI (pl_N A 4 i 6) else -9)
theorem pl_absI {x s : Nat} (hx : x < 2 ^ 30) (hs : s < 2 ^ 30) : (if 0 ≤ nI x - nI s then nI x - nI s else 0 - (nI x - nI s)) = nI (if s ≤ x then x - s else s - x) := by
  by_cases h : s ≤ x
  · rw [pk_sub h, if_pos (nI_pos' (by omega)), if_pos h]
  · rw [if_neg (Int32.not_le.mpr (pk_sneg hs (by omega))), if_neg h, ← pk_sub (by omega), Int32.zero_sub, Int32.neg_sub]
theorem pl_suits {A : pl_A} {m : ml_M} {a b l i : Nat} (hc : pl_cel A m a i) (hb : ml_K m b = (6, 0) ∧ ∀ k, k < 5 → ml_I m b k = nI (pl_N A 1 l k)) (hl8 : l < 8)
    (hwl : pl_N A 1 l 0 ≤ 99 ∧ pl_N A 1 l 1 ≤ 99 ∧ pl_N A 1 l 2 ≤ 9 ∧ pl_N A 1 l 3 ≤ 9 ∧ pl_N A 1 l 4 ≤ 9) (hwi : (1 ≤ pl_N A 4 i 0 ∧ pl_N A 4 i 0 ≤ 5) ∧ pl_N A 4 i 1 ≤ 99 ∧ pl_N A 4 i 2 ≤ 99 ∧ pl_N A 4 i 5 ≤ 9999 ∧ pl_N A 4 i 6 ≤ 9) : fX8_suits a b (nI l) m = some (if pl_may A l i then 1 else 0) := by
  obtain ⟨k1, k2, k3, k4, k5, k6⟩ := hc
  obtain ⟨b1, b2⟩ := hb
  have l0 := b2 0 (by decide)
  have l1 := b2 1 (by decide)
  have l2 := b2 2 (by decide)
  have l3 := b2 3 (by decide)
  have l4 := b2 4 (by decide)
  have e20 : fX8_suitsAsLetter_20 a b m = some (if pl_N A 4 i 5 % 10 = pl_N A 1 l 4 then 0 else 1) := by
    simp (disch := omega) only [fX8_suitsAsLetter_20, ↓pl_let, pl_b1, pl_b2, ↓reduceIte, pl_l1, pl_l2, pl_l3, pl_l4, pl_l5, pl_l6, pl_l7, pl_l8, pl_l9, pl_l10, pl_l11, pl_l12, pl_l13, pl_l14, pl_l15, pl_l16, pl_l17, pl_l18, pl_l19, pl_l20, pl_l21, pl_l22, pl_l23, pl_l24, pl_l25, pl_l26, pl_l27, pl_l28, pl_l29, pl_l30, pl_l31, pl_l32, pl_l33, pl_l34, pl_l35, pl_l36, pl_l37, pl_l38, pl_l39, pl_l40, pl_l41, pl_l42, pl_l43, pl_l44, pl_l45, pl_l46, pl_l47, pl_l48, pl_l49, pl_l50, pl_l51, pl_l52, pl_l53, pl_l54, pl_l55, pl_l56, pl_l57, pl_l58, pl_l59, pl_l60, pl_l61, pl_l62, pl_l63, pl_l64, pl_l99, pl_l100, pl_l119, pl_l120, pl_l255, pl_l256, pl_l999, pl_l1000, pl_l1023, pl_l1024, pl_l1111, pl_l5555, pl_l10240, k1, k5, b1, l4, pk_div, pk_mul, pl_rem3, nI_eq]
    split <;> rfl
  have eL : fX8_suitsAsLetter a b m = some (if (pl_N A 4 i 5 / 10 = pl_N A 1 l 3 ∨ pl_N A 4 i 5 / 10 = 0) ∧ pl_N A 4 i 5 % 10 ≠ pl_N A 1 l 4 then 1 else 0) := by
    simp (disch := omega) only [fX8_suitsAsLetter, ↓pl_let, pl_b1, pl_b2, ↓reduceIte, pl_l10, k1, k5, b1, l3, pk_div, pl_eq0, nI_eq, e20]
    by_cases g1 : pl_N A 4 i 5 / 10 = pl_N A 1 l 3 <;> by_cases g2 : pl_N A 4 i 5 / 10 = 0 <;> by_cases g3 : pl_N A 4 i 5 % 10 = pl_N A 1 l 4 <;> simp [g1, g2, g3]
  have e138 : fX8_suits_138 m = some 1 := rfl
  generalize hR : (if pl_may A l i = true then (1 : Int32) else 0) = R
  simp (disch := omega) only [fX8_suits, ↓pl_let, pl_b1, pl_b2, ↓reduceIte, k1, k2, k3, k4, k5, b1, l0, l1, l2, l3, l4, nI_ltI, nI_leI, pl_l10, pk_div, pk_mul, pl_rem3, nI_eq, eL, e138, pl_absI]
  unfold pl_may at hR
  by_cases h1 : pl_N A 4 i 2 < pl_N A 1 l 0
  · rw [if_pos h1]
    rw [show decide (pl_N A 1 l 0 ≤ pl_N A 4 i 2 ∧ pl_N A 4 i 1 ≤ pl_N A 1 l 1) = false from decide_eq_false (by omega)] at hR
    simpa using hR
  rw [if_neg h1]
  rcases Classical.em (¬ pl_N A 4 i 1 ≤ pl_N A 1 l 1) with h2 | h2
  · rw [if_neg h2]
    rw [show decide (pl_N A 1 l 0 ≤ pl_N A 4 i 2 ∧ pl_N A 4 i 1 ≤ pl_N A 1 l 1) = false from decide_eq_false (by omega)] at hR
    simpa using hR
  have h2 := Classical.not_not.mp h2
  rw [if_pos h2]
  rw [show decide (pl_N A 1 l 0 ≤ pl_N A 4 i 2 ∧ pl_N A 4 i 1 ≤ pl_N A 1 l 1) = true from decide_eq_true (by omega), Bool.true_and] at hR
  subst hR
  have hk : pl_N A 4 i 0 = 1 ∨ pl_N A 4 i 0 = 2 ∨ pl_N A 4 i 0 = 3 ∨ pl_N A 4 i 0 = 4 ∨ pl_N A 4 i 0 = 5 := by omega
  rcases hk with hk | hk | hk | hk | hk
  · simp only [hk, pl_l1, ↓reduceIte]
    have : (nI 1 < nI (if pl_N A 1 l 2 ≤ pl_N A 4 i 5 then pl_N A 4 i 5 - pl_N A 1 l 2 else pl_N A 1 l 2 - pl_N A 4 i 5)) = ¬ (pl_N A 4 i 5 ≤ pl_N A 1 l 2 + 1 ∧ pl_N A 1 l 2 ≤ pl_N A 4 i 5 + 1) := by
      rw [nI_ltI (by decide) (by split <;> omega)]
      apply propext
      split <;> omega
    simp only [this]
    by_cases hx : pl_N A 4 i 5 ≤ pl_N A 1 l 2 + 1 ∧ pl_N A 1 l 2 ≤ pl_N A 4 i 5 + 1
    · simp [hx]
    · simp only [hx, not_false_iff, if_true, decide_false, if_false]
      simp
  · simp (disch := omega) only [hk, pl_l1, pl_l2, nI_eq, Nat.reduceEqDiff, ↓reduceIte, decide_eq_true_eq]
    by_cases g1 : (pl_N A 4 i 5 / 10 = pl_N A 1 l 3 ∨ pl_N A 4 i 5 / 10 = 0) ∧ pl_N A 4 i 5 % 10 ≠ pl_N A 1 l 4
    · rw [if_pos g1, if_pos (Or.inr rfl)]
    · rw [if_neg g1, if_pos (Or.inl rfl)]
  · simp (disch := omega) only [hk, pl_l1, pl_l2, pl_l3, nI_eq, Nat.reduceEqDiff, ↓reduceIte, decide_eq_true_eq]
    rw [if_pos hk] at k6
    simp (disch := omega) only [k6, nI_eq]
    by_cases g0 : l = pl_N A 4 i 6
    · have g0' : pl_N A 4 i 6 = l := g0.symm
      by_cases g1 : (pl_N A 4 i 5 / 10 = pl_N A 1 l 3 ∨ pl_N A 4 i 5 / 10 = 0) ∧ pl_N A 4 i 5 % 10 ≠ pl_N A 1 l 4
      · rw [if_pos g0, if_pos g1, if_neg (by decide), if_pos ⟨g0', g1⟩]
      · rw [if_pos g0, if_neg g1, if_pos rfl, if_neg (fun z => g1 z.2)]
    · rw [if_neg g0, if_neg (fun z => g0 z.1.symm)]
  · simp (disch := omega) only [hk, pl_l1, pl_l2, pl_l3, pl_l4, nI_eq, Nat.reduceEqDiff, ↓reduceIte]
    by_cases g1 : pl_N A 4 i 5 / 10 = pl_N A 1 l 3 <;> by_cases g3 : pl_N A 4 i 5 % 10 = pl_N A 1 l 3 <;> simp [g1, g3]
  · simp (disch := omega) only [hk, pl_l1, pl_l2, pl_l3, pl_l4, nI_eq, Nat.reduceEqDiff, ↓reduceIte]
theorem pl_ownC {A : pl_A} {m : ml_M} {a i : Nat} (hS : pl_Sh m) (hCh : pl_Ch A m) (hc : pl_cel A m a i) (hnl : pl_N A 0 0 0 ≤ 8) (hwl : pl_Wl A) (hwi : (1 ≤ pl_N A 4 i 0 ∧ pl_N A 4 i 0 ≤ 5) ∧ pl_N A 4 i 1 ≤ 99 ∧ pl_N A 4 i 2 ≤ 99 ∧ pl_N A 4 i 5 ≤ 9999 ∧ pl_N A 4 i 6 ≤ 9) : fX10_ownersOf 1 a m = some (nI (pl_own A i)) := by
  unfold fX10_ownersOf
  refine pl_for (F := fun fu l g => fX10_ownersOf_4 fu 1 a g (nI l) m) (R := some (nI (pl_own A i))) (pl_N A 0 0 0) (fun l => nI (pl_set (fun l => pl_may A l i) l)) (fun fu l hl => ?_) (fun fu => ?_) ml_fu (by rw [pl_fu]; omega)
  · have hL := hCh.2.2.2.2.2.1 l hl
    have k := pl_suits hc ⟨hL.1.2.2, hL.2⟩ (by omega) (hwl l hl) hwi
    have z1 := hCh.1.2.2
    have z2 := hCh.2.1.2.2
    have z3 := hCh.2.2.2.1
    have z4 := hc.1
    by_cases h : pl_may A l i = true
    · simp (disch := omega) [fX10_ownersOf_4, fX10_ownersOf_38, ↓pl_let, pl_b1, pl_b2, ↓reduceIte, pl_k1 hS, pl_k2 hS, pl_k3 hS, pl_k8 hS, pl_k9 hS, pl_k10 hS, pl_k11 hS, pl_k12 hS, pl_k13 hS, pl_k14 hS, pl_k15 hS, pl_k16 hS, pl_k17 hS, pl_k18 hS, pl_k19 hS, pl_k20 hS, pl_k21 hS, pl_k22 hS, pl_k23 hS, pl_k24 hS, pl_k25 hS, pl_k26 hS, pl_k27 hS, pl_k28 hS, pl_k29 hS, pl_k30 hS, pl_k31 hS, pl_k32 hS, pl_r1_0 hS, pl_r1_1 hS, pl_r1_4 hS, pl_r1_6 hS, pl_r1_8 hS, pl_r1_10 hS, pl_r1_12 hS, pl_r1_13 hS, pl_r1_14 hS, pl_r1_18 hS, pl_r12_2 hS, pl_r12_3 hS, pl_r12_4 hS, pl_r12_8 hS, pl_r12_9 hS, pl_r12_10 hS, pl_r12_11 hS, pl_r12_12 hS, pl_r21_3 hS, pl_r21_5 hS, pl_r21_6 hS, pl_r21_7 hS, pl_r26_0 hS, pl_r26_2 hS, pl_r26_3 hS, pl_r26_4 hS, pl_r26_5 hS, pl_l1, pl_l2, pl_l3, pl_l4, pl_l5, pl_l6, pl_l7, pl_l8, pl_l9, pl_l10, pl_l11, pl_l12, pl_l13, pl_l14, pl_l15, pl_l16, pl_l17, pl_l18, pl_l19, pl_l20, pl_l21, pl_l22, pl_l23, pl_l24, pl_l25, pl_l26, pl_l27, pl_l28, pl_l29, pl_l30, pl_l31, pl_l32, pl_l33, pl_l34, pl_l35, pl_l36, pl_l37, pl_l38, pl_l39, pl_l40, pl_l41, pl_l42, pl_l43, pl_l44, pl_l45, pl_l46, pl_l47, pl_l48, pl_l49, pl_l50, pl_l51, pl_l52, pl_l53, pl_l54, pl_l55, pl_l56, pl_l57, pl_l58, pl_l59, pl_l60, pl_l61, pl_l62, pl_l63, pl_l64, pl_l99, pl_l100, pl_l119, pl_l120, pl_l255, pl_l256, pl_l999, pl_l1000, pl_l1023, pl_l1024, pl_l1111, pl_l5555, pl_l10240, pl_eq0, pl_le0, pl_lt0, pl_neg, pl_leN, pl_ltN, nI_leI, nI_ltI, nI_eq, nI_add, pk_mul, pl_sub, pk_div, pk_rem, nI_clamp, pl_in, pl_ofN, pl_shl1, pl_or, pl_and, pl_le1, pl_sz1, pl_within, pl_inM, pl_isRow, pl_isRowM, pl_isText, pl_isTextM, pl_leZ, pl_0eq, pl_0lt, pl_shl2, pl_shr2, pl_tcE, pl_tcN, pl_ne1, pl_rem3, z1, z2, z3, z4, k, h, show ¬ pl_N A 0 0 0 ≤ l by omega, show l < 8 by omega, pl_set1]
    · simp (disch := omega) [fX10_ownersOf_4, fX10_ownersOf_38, ↓pl_let, pl_b1, pl_b2, ↓reduceIte, pl_k1 hS, pl_k2 hS, pl_k3 hS, pl_k8 hS, pl_k9 hS, pl_k10 hS, pl_k11 hS, pl_k12 hS, pl_k13 hS, pl_k14 hS, pl_k15 hS, pl_k16 hS, pl_k17 hS, pl_k18 hS, pl_k19 hS, pl_k20 hS, pl_k21 hS, pl_k22 hS, pl_k23 hS, pl_k24 hS, pl_k25 hS, pl_k26 hS, pl_k27 hS, pl_k28 hS, pl_k29 hS, pl_k30 hS, pl_k31 hS, pl_k32 hS, pl_r1_0 hS, pl_r1_1 hS, pl_r1_4 hS, pl_r1_6 hS, pl_r1_8 hS, pl_r1_10 hS, pl_r1_12 hS, pl_r1_13 hS, pl_r1_14 hS, pl_r1_18 hS, pl_r12_2 hS, pl_r12_3 hS, pl_r12_4 hS, pl_r12_8 hS, pl_r12_9 hS, pl_r12_10 hS, pl_r12_11 hS, pl_r12_12 hS, pl_r21_3 hS, pl_r21_5 hS, pl_r21_6 hS, pl_r21_7 hS, pl_r26_0 hS, pl_r26_2 hS, pl_r26_3 hS, pl_r26_4 hS, pl_r26_5 hS, pl_l1, pl_l2, pl_l3, pl_l4, pl_l5, pl_l6, pl_l7, pl_l8, pl_l9, pl_l10, pl_l11, pl_l12, pl_l13, pl_l14, pl_l15, pl_l16, pl_l17, pl_l18, pl_l19, pl_l20, pl_l21, pl_l22, pl_l23, pl_l24, pl_l25, pl_l26, pl_l27, pl_l28, pl_l29, pl_l30, pl_l31, pl_l32, pl_l33, pl_l34, pl_l35, pl_l36, pl_l37, pl_l38, pl_l39, pl_l40, pl_l41, pl_l42, pl_l43, pl_l44, pl_l45, pl_l46, pl_l47, pl_l48, pl_l49, pl_l50, pl_l51, pl_l52, pl_l53, pl_l54, pl_l55, pl_l56, pl_l57, pl_l58, pl_l59, pl_l60, pl_l61, pl_l62, pl_l63, pl_l64, pl_l99, pl_l100, pl_l119, pl_l120, pl_l255, pl_l256, pl_l999, pl_l1000, pl_l1023, pl_l1024, pl_l1111, pl_l5555, pl_l10240, pl_eq0, pl_le0, pl_lt0, pl_neg, pl_leN, pl_ltN, nI_leI, nI_ltI, nI_eq, nI_add, pk_mul, pl_sub, pk_div, pk_rem, nI_clamp, pl_in, pl_ofN, pl_shl1, pl_or, pl_and, pl_le1, pl_sz1, pl_within, pl_inM, pl_isRow, pl_isRowM, pl_isText, pl_isTextM, pl_leZ, pl_0eq, pl_0lt, pl_shl2, pl_shr2, pl_tcE, pl_tcN, pl_ne1, pl_rem3, z1, z2, z3, z4, k, h, show ¬ pl_N A 0 0 0 ≤ l by omega, show l < 8 by omega, pl_set1]
  · have z1 := hCh.1.2.2
    have z3 := hCh.2.2.2.1
    simp (disch := omega) [fX10_ownersOf_4, ↓pl_let, pl_b1, pl_b2, ↓reduceIte, pl_k1 hS, pl_k2 hS, pl_k3 hS, pl_k8 hS, pl_k9 hS, pl_k10 hS, pl_k11 hS, pl_k12 hS, pl_k13 hS, pl_k14 hS, pl_k15 hS, pl_k16 hS, pl_k17 hS, pl_k18 hS, pl_k19 hS, pl_k20 hS, pl_k21 hS, pl_k22 hS, pl_k23 hS, pl_k24 hS, pl_k25 hS, pl_k26 hS, pl_k27 hS, pl_k28 hS, pl_k29 hS, pl_k30 hS, pl_k31 hS, pl_k32 hS, pl_r1_0 hS, pl_r1_1 hS, pl_r1_4 hS, pl_r1_6 hS, pl_r1_8 hS, pl_r1_10 hS, pl_r1_12 hS, pl_r1_13 hS, pl_r1_14 hS, pl_r1_18 hS, pl_r12_2 hS, pl_r12_3 hS, pl_r12_4 hS, pl_r12_8 hS, pl_r12_9 hS, pl_r12_10 hS, pl_r12_11 hS, pl_r12_12 hS, pl_r21_3 hS, pl_r21_5 hS, pl_r21_6 hS, pl_r21_7 hS, pl_r26_0 hS, pl_r26_2 hS, pl_r26_3 hS, pl_r26_4 hS, pl_r26_5 hS, pl_l1, pl_l2, pl_l3, pl_l4, pl_l5, pl_l6, pl_l7, pl_l8, pl_l9, pl_l10, pl_l11, pl_l12, pl_l13, pl_l14, pl_l15, pl_l16, pl_l17, pl_l18, pl_l19, pl_l20, pl_l21, pl_l22, pl_l23, pl_l24, pl_l25, pl_l26, pl_l27, pl_l28, pl_l29, pl_l30, pl_l31, pl_l32, pl_l33, pl_l34, pl_l35, pl_l36, pl_l37, pl_l38, pl_l39, pl_l40, pl_l41, pl_l42, pl_l43, pl_l44, pl_l45, pl_l46, pl_l47, pl_l48, pl_l49, pl_l50, pl_l51, pl_l52, pl_l53, pl_l54, pl_l55, pl_l56, pl_l57, pl_l58, pl_l59, pl_l60, pl_l61, pl_l62, pl_l63, pl_l64, pl_l99, pl_l100, pl_l119, pl_l120, pl_l255, pl_l256, pl_l999, pl_l1000, pl_l1023, pl_l1024, pl_l1111, pl_l5555, pl_l10240, pl_eq0, pl_le0, pl_lt0, pl_neg, pl_leN, pl_ltN, nI_leI, nI_ltI, nI_eq, nI_add, pk_mul, pl_sub, pk_div, pk_rem, nI_clamp, pl_in, pl_ofN, pl_shl1, pl_or, pl_and, pl_le1, pl_sz1, pl_within, pl_inM, pl_isRow, pl_isRowM, pl_isText, pl_isTextM, pl_leZ, pl_0eq, pl_0lt, pl_shl2, pl_shr2, pl_tcE, pl_tcN, pl_ne1, pl_rem3, z1, z3, pl_own]
def pl_7 (k a b X Y : Nat) : Nat → Nat := fun j => if j = 0 then k else if j = 1 then a else if j = 2 then b else if j = 3 then 100 else if j = 4 then 0 else if j = 5 then X else Y
/-- a new thing, before its owners -/
def pl_gI (m : ml_M) (k a b X Y : Nat) : ml_M := ml_sI (ml_sI (ml_sI (ml_sI (ml_sI (ml_sI (ml_al m 8 0 8) (ml_n m + 1) 6 (-9)) (ml_n m + 1) 0 (nI k)) (ml_n m + 1) 1 (nI a)) (ml_n m + 1) 2 (nI b)) (ml_n m + 1) 3 (nI X)) (ml_n m + 1) 4 (if k = 3 then nI Y else -9)
def pl_gC (m : ml_M) (c k a b X Y o : Nat) : ml_M := ml_sI (ml_sI (ml_sR (ml_sI (pl_gI m k a b X Y) (ml_n m + 1) 5 (nI o)) 8 c (ml_n m + 1)) 12 0 1) 1 5 (nI (c + 1))
theorem pl_gI_f {m : ml_M} (hn : 60 ≤ ml_n m) (k a b X Y : Nat) : pl_ex [] m (pl_gI m k a b X Y) ∧ ml_n (pl_gI m k a b X Y) = ml_n m + 1 ∧ ml_R (pl_gI m k a b X Y) 1 = ml_R m 1 ∧ ml_K (pl_gI m k a b X Y) (ml_n m + 1) = (8, 0) ∧ (∀ j, j < 7 → ml_I (pl_gI m k a b X Y) (ml_n m + 1) j = if j = 0 then nI k else if j = 1 then nI a else if j = 2 then nI b else if j = 3 then nI X else if j = 4 then (if k = 3 then nI Y else -9) else if j = 5 then 0 else -9) ∧ ml_I (pl_gI m k a b X Y) (ml_n m + 1) 7 = 0 := by
  refine ⟨((((((pl_ex.refl [] m).al.nI (by omega)).nI (by omega)).nI (by omega)).nI (by omega)).nI (by omega)).nI (by omega), by unfold pl_gI; simp only [pl_n_sI, pl_n_al], ?_, ?_, fun j hj => ?_, ?_⟩
  · funext j; unfold pl_gI; simp (disch := omega) [pl_I_sI, pl_I_sR, pl_I_sJ, pl_I_alo, pl_I_aln, pl_R_sI, pl_R_sR, pl_R_sJ, pl_R_alo, pl_R_aln, pl_J_sI, pl_J_sR, pl_J_sJ, pl_K_sI, pl_K_sR, pl_K_sJ, pl_K_alo, pl_K_aln, pl_n_sI, pl_n_sR, pl_n_sJ, pl_n_al, pl_n_cp, pl_n_cl, pl_s_sI, pl_s_sR, pl_s_sJ, pl_s_al, pl_s_cp, pl_s_cl]
  · unfold pl_gI; simp [pl_I_sI, pl_I_sR, pl_I_sJ, pl_I_alo, pl_I_aln, pl_R_sI, pl_R_sR, pl_R_sJ, pl_R_alo, pl_R_aln, pl_J_sI, pl_J_sR, pl_J_sJ, pl_K_sI, pl_K_sR, pl_K_sJ, pl_K_alo, pl_K_aln, pl_n_sI, pl_n_sR, pl_n_sJ, pl_n_al, pl_n_cp, pl_n_cl, pl_s_sI, pl_s_sR, pl_s_sJ, pl_s_al, pl_s_cp, pl_s_cl]
  · have hj7 : j = 0 ∨ j = 1 ∨ j = 2 ∨ j = 3 ∨ j = 4 ∨ j = 5 ∨ j = 6 := by omega
    unfold pl_gI
    rcases hj7 with rfl | rfl | rfl | rfl | rfl | rfl | rfl <;> simp [pl_I_sI, pl_I_sR, pl_I_sJ, pl_I_alo, pl_I_aln, pl_R_sI, pl_R_sR, pl_R_sJ, pl_R_alo, pl_R_aln, pl_J_sI, pl_J_sR, pl_J_sJ, pl_K_sI, pl_K_sR, pl_K_sJ, pl_K_alo, pl_K_aln, pl_n_sI, pl_n_sR, pl_n_sJ, pl_n_al, pl_n_cp, pl_n_cl, pl_s_sI, pl_s_sR, pl_s_sJ, pl_s_al, pl_s_cp, pl_s_cl]
  · unfold pl_gI; simp [pl_I_sI, pl_I_sR, pl_I_sJ, pl_I_alo, pl_I_aln, pl_R_sI, pl_R_sR, pl_R_sJ, pl_R_alo, pl_R_aln, pl_J_sI, pl_J_sR, pl_J_sJ, pl_K_sI, pl_K_sR, pl_K_sJ, pl_K_alo, pl_K_aln, pl_n_sI, pl_n_sR, pl_n_sJ, pl_n_al, pl_n_cp, pl_n_cl, pl_s_sI, pl_s_sR, pl_s_sJ, pl_s_al, pl_s_cp, pl_s_cl]
theorem pl_gC_md {A : pl_A} {m : ml_M} (h : pl_Rel A m) {k a b X Y : Nat} (hc : pl_N A 0 3 0 < 20) (hk3 : k ≠ 3 → Y = 0) (o : Nat) (ho : o = pl_own (pl_sR A 4 (pl_N A 0 3 0) (pl_7 k a b X Y) 3 (pl_N A 0 3 0 + 1)) (pl_N A 0 3 0)) :
    pl_Md A (pl_sR A 4 (pl_N A 0 3 0) (pl_7 k a b X Y) 3 (pl_N A 0 3 0 + 1)) (pl_gC m (pl_N A 0 3 0) k a b X Y o) := by
  obtain ⟨hS, hW, hM, hC⟩ := h
  have hn := hS.2.2
  obtain ⟨i1, i2, i3, i4, i5, i6⟩ := pl_gI_f hn k a b X Y
  have hx : pl_ex [1, 8, 12] m (pl_gC m (pl_N A 0 3 0) k a b X Y o) := by
    have h0 : pl_ex [1, 8, 12] m (pl_gI m k a b X Y) := ⟨i1.1, i1.2.1, fun x hx _ => i1.2.2 x hx (by simp)⟩
    exact (((h0.nI (by omega)).sR (by decide)).sI (by decide)).sI (by decide)
  obtain ⟨d, z1, z2, z3, z6⟩ := pl_sR_d A 4 (pl_N A 0 3 0) (pl_7 k a b X Y) 3 (pl_N A 0 3 0 + 1) (by decide)
  have hR1 : ml_R (pl_gC m (pl_N A 0 3 0) k a b X Y o) 1 = ml_R m 1 := by
    rw [← i3]; funext j; unfold pl_gC; simp [pl_I_sI, pl_I_sR, pl_I_sJ, pl_I_al, pl_I_cp, pl_I_cl, pl_R_sI, pl_R_sR, pl_R_sJ, pl_R_al, pl_R_cp, pl_R_cl, pl_J_sI, pl_J_sR, pl_J_sJ, pl_J_al, pl_J_cp, pl_J_cl, pl_K_sI, pl_K_sR, pl_K_sJ, pl_K_al, pl_K_cp, pl_K_cl, pl_n_sI, pl_n_sR, pl_n_sJ, pl_n_al, pl_n_cp, pl_n_cl, pl_s_sI, pl_s_sR, pl_s_sJ, pl_s_al, pl_s_cp, pl_s_cl]
  have hR12 : ml_R (pl_gC m (pl_N A 0 3 0) k a b X Y o) 12 = ml_R m 12 := by
    rw [← (i1.2.2 12 (by omega) (by simp)).2]; funext j; unfold pl_gC; simp [pl_I_sI, pl_I_sR, pl_I_sJ, pl_I_al, pl_I_cp, pl_I_cl, pl_R_sI, pl_R_sR, pl_R_sJ, pl_R_al, pl_R_cp, pl_R_cl, pl_J_sI, pl_J_sR, pl_J_sJ, pl_J_al, pl_J_cp, pl_J_cl, pl_K_sI, pl_K_sR, pl_K_sJ, pl_K_al, pl_K_cp, pl_K_cl, pl_n_sI, pl_n_sR, pl_n_sJ, pl_n_al, pl_n_cp, pl_n_cl, pl_s_sI, pl_s_sR, pl_s_sJ, pl_s_al, pl_s_cp, pl_s_cl]
  have hR9 : ∀ l, ml_R (pl_gC m (pl_N A 0 3 0) k a b X Y o) 8 l = if l = pl_N A 0 3 0 then ml_n m + 1 else ml_R m 8 l := fun l => by
    rw [← (i1.2.2 8 (by omega) (by simp)).2]; unfold pl_gC; simp only [pl_I_sI, pl_I_sR, pl_I_sJ, pl_I_al, pl_I_cp, pl_I_cl, pl_R_sI, pl_R_sR, pl_R_sJ, pl_R_al, pl_R_cp, pl_R_cl, pl_J_sI, pl_J_sR, pl_J_sJ, pl_J_al, pl_J_cp, pl_J_cl, pl_K_sI, pl_K_sR, pl_K_sJ, pl_K_al, pl_K_cp, pl_K_cl, pl_n_sI, pl_n_sR, pl_n_sJ, pl_n_al, pl_n_cp, pl_n_cl, pl_s_sI, pl_s_sR, pl_s_sJ, pl_s_al, pl_s_cp, pl_s_cl, true_and]
  have hI1 : ∀ j, ml_I (pl_gC m (pl_N A 0 3 0) k a b X Y o) 1 j = if j = 5 then nI (pl_N A 0 3 0 + 1) else ml_I m 1 j := fun j => by
    rw [← (i1.2.2 1 (by omega) (by simp)).1]; unfold pl_gC
    simp only [pl_I_sI, pl_I_sR, pl_I_sJ, pl_I_al, pl_I_cp, pl_I_cl, pl_R_sI, pl_R_sR, pl_R_sJ, pl_R_al, pl_R_cp, pl_R_cl, pl_J_sI, pl_J_sR, pl_J_sJ, pl_J_al, pl_J_cp, pl_J_cl, pl_K_sI, pl_K_sR, pl_K_sJ, pl_K_al, pl_K_cp, pl_K_cl, pl_n_sI, pl_n_sR, pl_n_sJ, pl_n_al, pl_n_cp, pl_n_cl, pl_s_sI, pl_s_sR, pl_s_sJ, pl_s_al, pl_s_cp, pl_s_cl, true_and]
    rw [if_neg (show ¬ (1 = 12 ∧ j = 0) by omega), if_neg (show ¬ (1 = ml_n m + 1 ∧ j = 5) by omega)]
  have hst : ml_I (pl_gC m (pl_N A 0 3 0) k a b X Y o) 12 0 = 1 := by
    unfold pl_gC; simp [pl_I_sI, pl_I_sR, pl_I_sJ, pl_I_al, pl_I_cp, pl_I_cl, pl_R_sI, pl_R_sR, pl_R_sJ, pl_R_al, pl_R_cp, pl_R_cl, pl_J_sI, pl_J_sR, pl_J_sJ, pl_J_al, pl_J_cp, pl_J_cl, pl_K_sI, pl_K_sR, pl_K_sJ, pl_K_al, pl_K_cp, pl_K_cl, pl_n_sI, pl_n_sR, pl_n_sJ, pl_n_al, pl_n_cp, pl_n_cl, pl_s_sI, pl_s_sR, pl_s_sJ, pl_s_al, pl_s_cp, pl_s_cl]
  have hJ1 : ml_J (pl_gC m (pl_N A 0 3 0) k a b X Y o) 1 = ml_J m 1 := by
    funext j; unfold pl_gC pl_gI; simp only [pl_I_sI, pl_I_sR, pl_I_sJ, pl_I_alo, pl_I_aln, pl_R_sI, pl_R_sR, pl_R_sJ, pl_R_alo, pl_R_aln, pl_J_sI, pl_J_sR, pl_J_sJ, pl_K_sI, pl_K_sR, pl_K_sJ, pl_K_alo, pl_K_aln, pl_n_sI, pl_n_sR, pl_n_sJ, pl_n_al, pl_n_cp, pl_n_cl, pl_s_sI, pl_s_sR, pl_s_sJ, pl_s_al, pl_s_cp, pl_s_cl, pl_J_al]; rw [if_neg (by omega)]
  have hnew : ml_K (pl_gC m (pl_N A 0 3 0) k a b X Y o) (ml_n m + 1) = (8, 0) ∧ ∀ j, ml_I (pl_gC m (pl_N A 0 3 0) k a b X Y o) (ml_n m + 1) j = if j = 5 then nI o else ml_I (pl_gI m k a b X Y) (ml_n m + 1) j := by
    have h1 : ¬ ml_n m + 1 = 1 := by omega
    have h2 : ¬ ml_n m + 1 = 12 := by omega
    refine ⟨by rw [← i4]; unfold pl_gC; simp only [pl_I_sI, pl_I_sR, pl_I_sJ, pl_I_al, pl_I_cp, pl_I_cl, pl_R_sI, pl_R_sR, pl_R_sJ, pl_R_al, pl_R_cp, pl_R_cl, pl_J_sI, pl_J_sR, pl_J_sJ, pl_J_al, pl_J_cp, pl_J_cl, pl_K_sI, pl_K_sR, pl_K_sJ, pl_K_al, pl_K_cp, pl_K_cl, pl_n_sI, pl_n_sR, pl_n_sJ, pl_n_al, pl_n_cp, pl_n_cl, pl_s_sI, pl_s_sR, pl_s_sJ, pl_s_al, pl_s_cp, pl_s_cl], fun j => ?_⟩
    unfold pl_gC
    simp only [pl_I_sI, pl_I_sR, pl_I_sJ, pl_I_al, pl_I_cp, pl_I_cl, pl_R_sI, pl_R_sR, pl_R_sJ, pl_R_al, pl_R_cp, pl_R_cl, pl_J_sI, pl_J_sR, pl_J_sJ, pl_J_al, pl_J_cp, pl_J_cl, pl_K_sI, pl_K_sR, pl_K_sJ, pl_K_al, pl_K_cp, pl_K_cl, pl_n_sI, pl_n_sR, pl_n_sJ, pl_n_al, pl_n_cp, pl_n_cl, pl_s_sI, pl_s_sR, pl_s_sJ, pl_s_al, pl_s_cp, pl_s_cl, h1, h2, false_and, if_false, true_and]
  have hco : pl_co m (pl_gC m (pl_N A 0 3 0) k a b X Y o) := ((((((((((pl_co.refl m).al hn).sI (by omega)).sI (by omega)).sI (by omega)).sI (by omega)).sI (by omega)).sI (by omega)).sI (by omega)).sR.sI (by decide)).sI (by decide)
  have hsz : ml_n (pl_gC m (pl_N A 0 3 0) k a b X Y o) = ml_n m + 1 := by unfold pl_gC; simp only [pl_n_sI, pl_n_sR, i2]
  generalize pl_gC m (pl_N A 0 3 0) k a b X Y o = m1 at *
  generalize pl_sR A 4 (pl_N A 0 3 0) (pl_7 k a b X Y) 3 (pl_N A 0 3 0 + 1) = B at *
  have hS1 : pl_Sh m1 := hx.sh hS (fun q hq h => by
    have h1 : ∀ q ∈ pl_rt, q.1 ≠ 8 := by decide
    have := h1 q hq
    simp only [List.mem_cons, List.not_mem_nil, or_false] at h
    rcases h with h | h | h
    · rw [h, hR1]
    · exact absurd h this
    · rw [h, hR12])
  obtain ⟨fr, ft, fh, -, fn, fk, -, fy⟩ := pl_Cd d hS hC hx (by decide) (by rw [hR1])
  refine ⟨hS1, hW, hco.m hM, ?_, fr (by decide), ft (by decide), fh (by decide), ⟨fun i hi => ?_, fun i j hi hj he => ?_⟩, fn (by decide), fk (by decide), Or.inl hst, fy (by decide)⟩
  · obtain ⟨b1, b2, b3, b4, b5, b6, b7, b8, b9⟩ := hC.1
    have h32 := (hx.2.2 32 (by omega) (by decide)).1
    unfold pl_Cb
    rw [hJ1, h32, d.2.1 7 (by decide), d.2.1 4 (by decide), z1, d.2.1 5 (by decide), d.2.1 6 (by decide), d.2.1 8 (by decide), d.2.2 3 (by decide), d.2.2 4 (by decide), z6]
    have hI : ∀ j, j ≠ 5 → ml_I m1 1 j = ml_I m 1 j := fun j hj => by rw [hI1, if_neg hj]
    rw [hI 3 (by decide), hI1 5, if_pos rfl, hI 7 (by decide), hI 9 (by decide), hI 11 (by decide), hI 17 (by decide), hI 15 (by decide)]
    exact ⟨b1, Eq.refl _, b3, b4, b5, b6, b7, b8, b9⟩
  · rw [z1] at hi
    rw [hR9]
    by_cases hlc : i = pl_N A 0 3 0
    · rw [if_pos hlc]
      have hz3 : pl_N B 4 i = pl_7 k a b X Y := by rw [hlc]; exact z3
      have hoi : o = pl_own B i := by rw [hlc]; exact ho
      refine ⟨⟨by omega, by omega, hnew.1⟩, ?_, ?_, ?_, ?_, ?_, ?_, ?_, ?_⟩
      · rw [hnew.2 0, if_neg (by decide), i5 0 (by decide), if_pos rfl, hz3]; simp [pl_7]
      · rw [hnew.2 1, if_neg (by decide), i5 1 (by decide), hz3]; simp [pl_7]
      · rw [hnew.2 2, if_neg (by decide), i5 2 (by decide), hz3]; simp [pl_7]
      · rw [hnew.2 3, if_neg (by decide), i5 3 (by decide), hz3]; simp [pl_7]
      · rw [hnew.2 4, if_neg (by decide), i5 4 (by decide), hz3]; simp [pl_7]
      · rw [hnew.2 5, if_pos rfl, hoi]
      · rw [hnew.2 6, if_neg (by decide), i5 6 (by decide), hz3]; simp [pl_7, pl_tc]
      · rw [hnew.2 7, if_neg (by decide), i6, hz3]; simp [pl_7, nI_0]
    · have z := hC.2.2.2.2.1.1 i (by omega)
      have hown : pl_own B i = pl_own A i := pl_own_eq2 (d.1 1 (by decide) (by decide)) (fun k _ _ => by rw [z2 i hlc]) (d.2.1 0 (by decide))
      rw [if_neg hlc, z2 i hlc, hown, (hx.2.2 _ z.1.2.1 (by have := z.1.1; simp; omega)).1]
      exact ⟨z.1.fr hx, z.2⟩
  · rw [z1] at hi hj
    rw [hR9, hR9] at he
    by_cases hic : i = pl_N A 0 3 0
    · by_cases hjc : j = pl_N A 0 3 0
      · omega
      · rw [if_pos hic, if_neg hjc] at he
        have := (hC.2.2.2.2.1.1 j (by omega)).1.2.1
        omega
    · by_cases hjc : j = pl_N A 0 3 0
      · rw [if_neg hic, if_pos hjc] at he
        have := (hC.2.2.2.2.1.1 i (by omega)).1.2.1
        omega
      · rw [if_neg hic, if_neg hjc] at he
        exact hC.2.2.2.2.1.2 i j (by omega) (by omega) he
theorem pl_gW {A : pl_A} {k a b X Y : Nat} (hW : pl_W A) (hc : pl_N A 0 3 0 < 20) (hk : 1 ≤ k ∧ k ≤ 5) (ha : a ≤ b) (hb : b ≤ 99) (hX : X ≤ 9999) (hY : Y ≤ 9) : pl_W (pl_sR A 4 (pl_N A 0 3 0) (pl_7 k a b X Y) 3 (pl_N A 0 3 0 + 1)) := by
  obtain ⟨d, z1, z2, z3, z6⟩ := pl_sR_d A 4 (pl_N A 0 3 0) (pl_7 k a b X Y) 3 (pl_N A 0 3 0 + 1) (by decide)
  generalize pl_sR A 4 (pl_N A 0 3 0) (pl_7 k a b X Y) 3 (pl_N A 0 3 0 + 1) = B at *
  obtain ⟨f1, f2, f3, -, f5, f6, f7, f8⟩ := pl_Wd d hW
  refine ⟨?_, f1 (by decide), f2 (by decide), f3 (by decide), fun l hl => ?_, f5 (by decide), f6 (by decide), f7 (by decide), f8 (by decide)⟩
  · have hw := hW.1
    unfold pl_Wc at *
    rw [d.2.1 0 (by decide), d.2.1 1 (by decide), d.2.1 2 (by decide), d.2.1 5 (by decide), z1, d.2.1 4 (by decide), d.2.1 6 (by decide), d.2.1 7 (by decide), d.2.1 8 (by decide)]
    omega
  · rw [d.2.1 1 (by decide)]
    by_cases hlc : l = pl_N A 0 3 0
    · subst hlc
      rw [z3]
      simp [pl_7]
      omega
    · rw [z2 l hlc]
      exact hW.2.2.2.2.1 l (by omega)
def pl_gM (M : ml_M) (c k a b X Y : Nat) : ml_M := ml_sI (ml_sI (ml_sI (ml_sI (ml_sI (ml_sI (ml_sI (ml_sI M 46 (7 * c) (nI k)) 46 (7 * c + 1) (nI a)) 46 (7 * c + 2) (nI b)) 46 (7 * c + 3) (-9)) 46 (7 * c + 4) 0) 46 (7 * c + 5) (nI X)) 46 (7 * c + 6) (nI Y)) 33 24 (nI (c + 1))
theorem pl_gM_m {A : pl_A} {M : ml_M} (hM : pl_M A M) {k a b X Y : Nat} : pl_M (pl_sR A 4 (pl_N A 0 3 0) (pl_7 k a b X Y) 3 (pl_N A 0 3 0 + 1)) (pl_gM M (pl_N A 0 3 0) k a b X Y) := by
  obtain ⟨d, z1, z2, z3, z6⟩ := pl_sR_d A 4 (pl_N A 0 3 0) (pl_7 k a b X Y) 3 (pl_N A 0 3 0 + 1) (by decide)
  have hI : ∀ q, q ≠ 46 → q ≠ 33 → ml_I (pl_gM M (pl_N A 0 3 0) k a b X Y) q = ml_I M q := fun q h1 h2 => by
    funext j; unfold pl_gM; simp [pl_I_sI, pl_I_sR, pl_I_sJ, pl_I_al, pl_I_cp, pl_I_cl, pl_R_sI, pl_R_sR, pl_R_sJ, pl_R_al, pl_R_cp, pl_R_cl, pl_J_sI, pl_J_sR, pl_J_sJ, pl_J_al, pl_J_cp, pl_J_cl, pl_K_sI, pl_K_sR, pl_K_sJ, pl_K_al, pl_K_cp, pl_K_cl, pl_n_sI, pl_n_sR, pl_n_sJ, pl_n_al, pl_n_cp, pl_n_cl, pl_s_sI, pl_s_sR, pl_s_sJ, pl_s_al, pl_s_cp, pl_s_cl, h1, h2]
  have hI33 : ∀ j, ml_I (pl_gM M (pl_N A 0 3 0) k a b X Y) 33 j = if j = 24 then nI (pl_N A 0 3 0 + 1) else ml_I M 33 j := fun j => by unfold pl_gM; simp [pl_I_sI, pl_I_sR, pl_I_sJ, pl_I_al, pl_I_cp, pl_I_cl, pl_R_sI, pl_R_sR, pl_R_sJ, pl_R_al, pl_R_cp, pl_R_cl, pl_J_sI, pl_J_sR, pl_J_sJ, pl_J_al, pl_J_cp, pl_J_cl, pl_K_sI, pl_K_sR, pl_K_sJ, pl_K_al, pl_K_cp, pl_K_cl, pl_n_sI, pl_n_sR, pl_n_sJ, pl_n_al, pl_n_cp, pl_n_cl, pl_s_sI, pl_s_sR, pl_s_sJ, pl_s_al, pl_s_cp, pl_s_cl]
  have hJ : ml_J (pl_gM M (pl_N A 0 3 0) k a b X Y) = ml_J M := rfl
  have h46 : ∀ l j, j < 7 → ml_I (pl_gM M (pl_N A 0 3 0) k a b X Y) 46 (7 * l + j) = if l = pl_N A 0 3 0 then (if j = 3 then pl_tc 100 else nI (pl_7 k a b X Y j)) else ml_I M 46 (7 * l + j) := fun l j hj => by
    unfold pl_gM
    simp only [pl_I_sI, pl_I_sR, pl_I_sJ, pl_I_al, pl_I_cp, pl_I_cl, pl_R_sI, pl_R_sR, pl_R_sJ, pl_R_al, pl_R_cp, pl_R_cl, pl_J_sI, pl_J_sR, pl_J_sJ, pl_J_al, pl_J_cp, pl_J_cl, pl_K_sI, pl_K_sR, pl_K_sJ, pl_K_al, pl_K_cp, pl_K_cl, pl_n_sI, pl_n_sR, pl_n_sJ, pl_n_al, pl_n_cp, pl_n_cl, pl_s_sI, pl_s_sR, pl_s_sJ, pl_s_al, pl_s_cp, pl_s_cl]
    by_cases hl : l = pl_N A 0 3 0
    · subst hl
      have hk3 : j = 0 ∨ j = 1 ∨ j = 2 ∨ j = 3 ∨ j = 4 ∨ j = 5 ∨ j = 6 := by omega
      rcases hk3 with rfl | rfl | rfl | rfl | rfl | rfl | rfl <;> simp [pl_7, pl_tc, nI_0]
    · rw [if_neg (by omega), if_neg (by omega), if_neg (by omega), if_neg (by omega), if_neg (by omega), if_neg (by omega), if_neg (by omega), if_neg (by omega), if_neg hl]
  generalize pl_gM M (pl_N A 0 3 0) k a b X Y = m1 at *
  generalize pl_sR A 4 (pl_N A 0 3 0) (pl_7 k a b X Y) 3 (pl_N A 0 3 0 + 1) = B at *
  obtain ⟨g1, g2, g3, -, g5, g6, g7⟩ := pl_Mxd (ys := [46]) d hM (fun a h1 _ h => hI a (by simpa using h) (by omega))
  refine ⟨?_, g1 (by decide), g2 (by decide), g3 (by decide), fun l hl j hj => ?_, g5 (by decide), g6 (by decide), g7 (by decide)⟩
  · obtain ⟨b1, b2, b3, b4, b5, b6, b7, b8, b9, b10, b11, b12⟩ := hM.1
    unfold pl_Mb
    rw [hJ, hI 34 (by decide) (by decide), d.2.1 0 (by decide), d.2.1 1 (by decide), d.2.1 2 (by decide), d.2.1 5 (by decide), z1, d.2.1 4 (by decide), d.2.1 6 (by decide), d.2.1 7 (by decide), d.2.1 8 (by decide), d.2.2 3 (by decide), d.2.2 4 (by decide), z6]
    have hI3 : ∀ j, j ≠ 24 → ml_I m1 33 j = ml_I M 33 j := fun j hj => by rw [hI33, if_neg hj]
    rw [hI3 9 (by decide), hI3 10 (by decide), hI3 11 (by decide), hI33 24, if_pos rfl, hI3 34 (by decide), hI3 37 (by decide), hI3 46 (by decide), hI3 23 (by decide), hI3 0 (by decide), hI3 2 (by decide)]
    exact ⟨b1, b2, b3, Eq.refl _, b5, b6, b7, b8, b9, b10, b11, b12⟩
  · rw [h46 l j hj]
    by_cases hlc : l = pl_N A 0 3 0
    · subst hlc
      rw [if_pos rfl, z3]
      by_cases h3 : j = 3
      · subst h3; rw [if_pos rfl, if_pos rfl]; simp [pl_7]
      · rw [if_neg h3, if_neg h3]
    · rw [if_neg hlc, z2 l hlc]
      exact hM.2.2.2.2.1 l (by omega) j hj

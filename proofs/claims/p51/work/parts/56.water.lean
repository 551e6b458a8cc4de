/-! WATER. -/
/-- the lowest and the highest flood line by the first i things -/
def pl_lo (A : pl_A) : Nat → Nat
  | 0 => 0
  | i + 1 => if pl_N A 4 i 3 ≠ 100 ∧ pl_N A 4 i 4 = 1 ∧ pl_lo A i < pl_N A 2 (pl_N A 4 i 3) 1 + 1 then pl_N A 2 (pl_N A 4 i 3) 1 + 1 else pl_lo A i
def pl_hi (A : pl_A) : Nat → Nat
  | 0 => 10
  | i + 1 => if pl_N A 4 i 3 ≠ 100 ∧ pl_N A 4 i 4 ≠ 1 ∧ pl_N A 2 (pl_N A 4 i 3) 1 < pl_hi A i then pl_N A 2 (pl_N A 4 i 3) 1 else pl_hi A i
theorem pl_lo1 (A : pl_A) (i : Nat) : pl_lo A (i + 1) = if pl_N A 4 i 3 ≠ 100 ∧ pl_N A 4 i 4 = 1 ∧ pl_lo A i < pl_N A 2 (pl_N A 4 i 3) 1 + 1 then pl_N A 2 (pl_N A 4 i 3) 1 + 1 else pl_lo A i := rfl
theorem pl_hi1 (A : pl_A) (i : Nat) : pl_hi A (i + 1) = if pl_N A 4 i 3 ≠ 100 ∧ pl_N A 4 i 4 ≠ 1 ∧ pl_N A 2 (pl_N A 4 i 3) 1 < pl_hi A i then pl_N A 2 (pl_N A 4 i 3) 1 else pl_hi A i := rfl
theorem pl_lohi {A : pl_A} (hW : pl_W A) : ∀ i, i ≤ pl_N A 0 3 0 → pl_lo A i ≤ 10 ∧ pl_hi A i ≤ 10 := by
  intro i
  induction i with
  | zero => intro _; exact ⟨by simp [pl_lo], by simp [pl_hi]⟩
  | succ i ih =>
    intro hi
    have ih := ih (by omega)
    have hb := (hW.2.2.2.2.1 i (by omega)).2.2.2.1
    have ht := hW.2.2.1 (pl_N A 4 i 3)
    rw [pl_lo1, pl_hi1]
    constructor
    · split
      · have := (ht (by omega)).2; omega
      · exact ih.1
    · split
      · omega
      · exact ih.2
def pl_fw (A : pl_A) (h i : Nat) : Bool := decide (pl_N A 4 i 3 = 100 ∨ (pl_N A 4 i 4 = 1 ↔ pl_N A 2 (pl_N A 4 i 3) 1 < h))
theorem pl_fwE {A : pl_A} {h : Nat} (hh : h ≤ 10) (n : Nat) : pl_all (pl_fw A h) n = decide (pl_lo A n ≤ h ∧ h ≤ pl_hi A n) := by
  induction n with
  | zero => simp [pl_all, pl_lo, pl_hi, hh]
  | succ n ih =>
    have e : pl_all (pl_fw A h) (n + 1) = (pl_all (pl_fw A h) n && pl_fw A h n) := rfl
    rw [e, ih, pl_lo1, pl_hi1]
    unfold pl_fw
    rw [← Bool.decide_and]
    congr 1
    apply propext
    by_cases h1 : pl_N A 4 n 3 = 100
    · simp [h1]
    · by_cases h2 : pl_N A 4 n 4 = 1
      · simp only [h1, h2, ne_eq, not_false_iff, true_and, not_true, false_and, and_false, if_false, false_or, true_iff]
        split <;> omega
      · simp only [h1, h2, ne_eq, not_false_iff, true_and, false_and, and_false, if_false, false_or, false_iff]
        split <;> omega
theorem pl_waterC {A : pl_A} {m : ml_M} (hS : pl_Sh m) (hW : pl_W A) (hC : pl_C A m) : fX10_water 1 m = if pl_lo A (pl_N A 0 3 0) ≤ pl_hi A (pl_N A 0 3 0) then some (nI (pl_lo A (pl_N A 0 3 0)), ml_sI m 1 15 (nI (pl_hi A (pl_N A 0 3 0)))) else some (-9, m) := by
  have hw := hW.1
  unfold pl_Wc at hw
  unfold fX10_water
  refine pl_for (F := fun fu i (_ : Unit) => fX10_water_7 fu 1 (nI (pl_lo A i)) (nI (pl_hi A i)) (nI i) m) (R := if pl_lo A (pl_N A 0 3 0) ≤ pl_hi A (pl_N A 0 3 0) then some (nI (pl_lo A (pl_N A 0 3 0)), ml_sI m 1 15 (nI (pl_hi A (pl_N A 0 3 0)))) else some (-9, m)) (pl_N A 0 3 0) (fun _ => ()) (fun fu i hi => ?_) (fun fu => ?_) ml_fu (by rw [pl_fu]; omega)
  · obtain ⟨k1, k2, k3, k4, k5, k6, k7, k8, k9⟩ := pl_thg hC hi
    have hb := (hW.2.2.2.2.1 i hi).2.2.2.1
    have hwet := (hW.2.2.2.2.1 i hi).2.2.2.2.1
    have hlh := pl_lohi hW i (by omega)
    rw [pl_lo1, pl_hi1]
    by_cases h100 : pl_N A 4 i 3 = 100
    · have hneg : ¬ (0 ≤ pl_tc (pl_N A 4 i 3) ∧ pl_tc (pl_N A 4 i 3) < nI (pl_N A 0 1 0)) := by
        rw [h100]; exact fun z => absurd z.1 (by decide)
      have hit : fX10_isTrunk 1 (pl_tc (pl_N A 4 i 3)) m = some 0 := by rw [pl_isTrk hS hW hC, if_neg hneg]
      simp (disch := omega) only [fX10_water_7, fX10_water_83, ↓pl_let, pl_b1, pl_b2, ↓reduceIte, pl_k1 hS, pl_k2 hS, pl_k3 hS, pl_k8 hS, pl_k9 hS, pl_k10 hS, pl_k11 hS, pl_k12 hS, pl_k13 hS, pl_k14 hS, pl_k15 hS, pl_k16 hS, pl_k17 hS, pl_k18 hS, pl_k19 hS, pl_k20 hS, pl_k21 hS, pl_k22 hS, pl_k23 hS, pl_k24 hS, pl_k25 hS, pl_k26 hS, pl_k27 hS, pl_k28 hS, pl_k29 hS, pl_k30 hS, pl_k31 hS, pl_k32 hS, pl_r1_0 hS, pl_r1_1 hS, pl_r1_4 hS, pl_r1_6 hS, pl_r1_8 hS, pl_r1_10 hS, pl_r1_12 hS, pl_r1_13 hS, pl_r1_14 hS, pl_r1_18 hS, pl_r12_2 hS, pl_r12_3 hS, pl_r12_4 hS, pl_r12_8 hS, pl_r12_9 hS, pl_r12_10 hS, pl_r12_11 hS, pl_r12_12 hS, pl_r21_3 hS, pl_r21_5 hS, pl_r21_6 hS, pl_r21_7 hS, pl_r26_0 hS, pl_r26_2 hS, pl_r26_3 hS, pl_r26_4 hS, pl_r26_5 hS, hC.1.1, hC.1.2.1, hC.1.2.2.1, hC.1.2.2.2.1, hC.1.2.2.2.2.1, nI_leI, show ¬ pl_N A 0 3 0 ≤ i by omega, if_false, pl_in, nI_clamp, show i < 20 by omega, and_self, if_true, k1, k8, hit, pl_l1, nI_add]
      simp only [h100, ne_eq, not_true, false_and, if_false]
    · have ht : pl_N A 4 i 3 < pl_N A 0 1 0 := by omega
      have hT := hC.2.2.2.1.2.2.2.2.2.2 _ ht
      have hht := (hW.2.2.1 _ ht).2
      have htc : pl_tc (pl_N A 4 i 3) = nI (pl_N A 4 i 3) := by unfold pl_tc; rw [if_neg h100]
      have hrng := pl_rng1t ht (show pl_N A 0 1 0 < 2 ^ 30 by omega)
      have hit : fX10_isTrunk 1 (nI (pl_N A 4 i 3)) m = some 1 := by rw [pl_isTrk hS hW hC, if_pos (of_eq_true hrng)]
      simp (disch := omega) only [fX10_water_7, fX10_water_83, ↓pl_let, pl_b1, pl_b2, ↓reduceIte, pl_k1 hS, pl_k2 hS, pl_k3 hS, pl_k8 hS, pl_k9 hS, pl_k10 hS, pl_k11 hS, pl_k12 hS, pl_k13 hS, pl_k14 hS, pl_k15 hS, pl_k16 hS, pl_k17 hS, pl_k18 hS, pl_k19 hS, pl_k20 hS, pl_k21 hS, pl_k22 hS, pl_k23 hS, pl_k24 hS, pl_k25 hS, pl_k26 hS, pl_k27 hS, pl_k28 hS, pl_k29 hS, pl_k30 hS, pl_k31 hS, pl_k32 hS, pl_r1_0 hS, pl_r1_1 hS, pl_r1_4 hS, pl_r1_6 hS, pl_r1_8 hS, pl_r1_10 hS, pl_r1_12 hS, pl_r1_13 hS, pl_r1_14 hS, pl_r1_18 hS, pl_r12_2 hS, pl_r12_3 hS, pl_r12_4 hS, pl_r12_8 hS, pl_r12_9 hS, pl_r12_10 hS, pl_r12_11 hS, pl_r12_12 hS, pl_r21_3 hS, pl_r21_5 hS, pl_r21_6 hS, pl_r21_7 hS, pl_r26_0 hS, pl_r26_2 hS, pl_r26_3 hS, pl_r26_4 hS, pl_r26_5 hS, hC.1.1, hC.1.2.1, hC.1.2.2.1, hC.1.2.2.2.1, hC.1.2.2.2.2.1, hC.2.2.2.1.1.2.2, hC.2.2.2.1.2.1.2.2, hC.2.2.2.1.2.2.1.2.2, hC.2.2.2.1.2.2.2.1, hC.2.2.2.1.2.2.2.2.1, nI_leI, show ¬ pl_N A 0 3 0 ≤ i by omega, if_false, pl_in, nI_clamp, show i < 20 by omega, show pl_N A 4 i 3 < 8 by omega, and_self, if_true, k1, k8, k9, htc, hit, pl_l1, pl_eq0, Nat.reduceEqDiff, hT.1.2.2, hT.2.2.1, nI_add, nI_ltI, h100, ne_eq, not_false_iff, true_and]
      by_cases hwt : pl_N A 4 i 4 = 0
      · simp only [hwt, if_true, Nat.reduceEqDiff, false_and, if_false, not_false_iff, true_and]
        by_cases hlt : pl_N A 2 (pl_N A 4 i 3) 1 < pl_hi A i
        · rw [if_pos hlt, if_pos hlt]
        · rw [if_neg hlt, if_neg hlt]
      · have hw1 : pl_N A 4 i 4 = 1 := by omega
        simp only [hw1, Nat.reduceEqDiff, if_false, true_and, not_true, false_and]
        by_cases hlt : pl_lo A i < pl_N A 2 (pl_N A 4 i 3) 1 + 1
        · rw [if_pos hlt, if_pos hlt]
        · rw [if_neg hlt, if_neg hlt]
  · have hlh := pl_lohi hW (pl_N A 0 3 0) (Nat.le_refl _)
    simp (disch := omega) only [fX10_water_7, fX10_water_89, ↓pl_let, pl_b1, pl_b2, ↓reduceIte, pl_k1 hS, pl_k2 hS, pl_k3 hS, pl_k8 hS, pl_k9 hS, pl_k10 hS, pl_k11 hS, pl_k12 hS, pl_k13 hS, pl_k14 hS, pl_k15 hS, pl_k16 hS, pl_k17 hS, pl_k18 hS, pl_k19 hS, pl_k20 hS, pl_k21 hS, pl_k22 hS, pl_k23 hS, pl_k24 hS, pl_k25 hS, pl_k26 hS, pl_k27 hS, pl_k28 hS, pl_k29 hS, pl_k30 hS, pl_k31 hS, pl_k32 hS, pl_r1_0 hS, pl_r1_1 hS, pl_r1_4 hS, pl_r1_6 hS, pl_r1_8 hS, pl_r1_10 hS, pl_r1_12 hS, pl_r1_13 hS, pl_r1_14 hS, pl_r1_18 hS, pl_r12_2 hS, pl_r12_3 hS, pl_r12_4 hS, pl_r12_8 hS, pl_r12_9 hS, pl_r12_10 hS, pl_r12_11 hS, pl_r12_12 hS, pl_r21_3 hS, pl_r21_5 hS, pl_r21_6 hS, pl_r21_7 hS, pl_r26_0 hS, pl_r26_2 hS, pl_r26_3 hS, pl_r26_4 hS, pl_r26_5 hS, hC.1.1, hC.1.2.1, hC.1.2.2.1, hC.1.2.2.2.1, hC.1.2.2.2.2.1, nI_leI, Nat.le_refl, if_true]
theorem pl_fitsW {A : pl_A} {m : ml_M} (hS : pl_Sh m) (hW : pl_W A) (hM : pl_M A m) {h : Nat} (hh : h ≤ 10) : fX11_fitsWater 33 (nI h) m = some (if pl_all (pl_fw A h) (pl_N A 0 3 0) then 1 else 0) := by
  have hw := hW.1
  unfold pl_Wc at hw
  unfold fX11_fitsWater
  refine pl_for (F := fun fu i g => fX11_fitsWater_4 fu 33 (nI h) g (nI i) m) (R := some (if pl_all (pl_fw A h) (pl_N A 0 3 0) then 1 else 0)) (pl_N A 0 3 0) (fun i => if pl_all (pl_fw A h) i then 1 else 0) (fun fu i hi => ?_) (fun fu => ?_) ml_fu (by rw [pl_fu]; omega)
  · have k := (pl_thgM hS hW hM hi).2.2.2
    have hb := (hW.2.2.2.2.1 i hi).2.2.2.1
    have hwet := (hW.2.2.2.2.1 i hi).2.2.2.2.1
    have e4 := hM.2.2.2.2.1 i hi 4 (by decide)
    rw [if_neg (by decide)] at e4
    have hisw : fX11_isWet 33 (nI i) m = some (nI (pl_N A 4 i 4)) := by
      simp (disch := omega) only [fX11_isWet, ↓pl_let, pl_b1, pl_b2, ↓reduceIte, pl_l1, pl_l2, pl_l3, pl_l4, pl_l5, pl_l6, pl_l7, pl_l8, pl_l9, pl_l10, pl_l11, pl_l12, pl_l13, pl_l14, pl_l15, pl_l16, pl_l17, pl_l18, pl_l19, pl_l20, pl_l21, pl_l22, pl_l23, pl_l24, pl_l25, pl_l26, pl_l27, pl_l28, pl_l29, pl_l30, pl_l31, pl_l32, pl_l33, pl_l34, pl_l35, pl_l36, pl_l37, pl_l38, pl_l39, pl_l40, pl_l41, pl_l42, pl_l43, pl_l44, pl_l45, pl_l46, pl_l47, pl_l48, pl_l49, pl_l50, pl_l51, pl_l52, pl_l53, pl_l54, pl_l55, pl_l56, pl_l57, pl_l58, pl_l59, pl_l60, pl_l61, pl_l62, pl_l63, pl_l64, pl_l99, pl_l100, pl_l119, pl_l120, pl_l255, pl_l256, pl_l999, pl_l1000, pl_l1023, pl_l1024, pl_l1111, pl_l5555, pl_l10240, pl_k33 hS, pl_k34 hS, pl_k35 hS, pl_k36 hS, pl_k37 hS, pl_k38 hS, pl_k39 hS, pl_k40 hS, pl_k41 hS, pl_k42 hS, pl_k43 hS, pl_k44 hS, pl_k45 hS, pl_k46 hS, pl_k47 hS, pl_k48 hS, pl_k49 hS, pl_k50 hS, pl_k51 hS, pl_k52 hS, pl_k53 hS, pl_k54 hS, pl_k55 hS, pl_k56 hS, pl_k57 hS, pl_k58 hS, pl_k59 hS, pl_k60 hS, pl_r33_1 hS, pl_r33_4 hS, pl_r33_5 hS, pl_r33_6 hS, pl_r33_7 hS, pl_r33_8 hS, pl_r33_12 hS, pl_r33_13 hS, pl_r33_14 hS, pl_r33_20 hS, pl_r33_21 hS, pl_r33_22 hS, pl_r33_25 hS, pl_r33_26 hS, pl_r33_27 hS, pl_r33_29 hS, pl_r33_31 hS, pl_r33_35 hS, pl_r33_36 hS, pl_r33_38 hS, pl_r33_39 hS, pl_r33_40 hS, pl_r33_42 hS, pl_r33_43 hS, pl_r33_44 hS, pl_r33_45 hS, pl_r33_47 hS, pk_mul, nI_add, pl_in, nI_clamp, show 7 * i + 4 < 140 by omega, and_self, if_true, e4, nI_eq]
      rcases (show pl_N A 4 i 4 = 0 ∨ pl_N A 4 i 4 = 1 by omega) with z | z
      · rw [z]; rfl
      · rw [z]; rfl
    have h9 : (-9 : Int32) = - nI 9 := rfl
    have e : pl_all (pl_fw A h) (i + 1) = (pl_all (pl_fw A h) i && pl_fw A h i) := rfl
    rw [e]
    simp (disch := omega) only [fX11_fitsWater_4, ↓pl_let, pl_b1, pl_b2, ↓reduceIte, pl_k33 hS, pl_k34 hS, pl_k35 hS, pl_k36 hS, pl_k37 hS, pl_k38 hS, pl_k39 hS, pl_k40 hS, pl_k41 hS, pl_k42 hS, pl_k43 hS, pl_k44 hS, pl_k45 hS, pl_k46 hS, pl_k47 hS, pl_k48 hS, pl_k49 hS, pl_k50 hS, pl_k51 hS, pl_k52 hS, pl_k53 hS, pl_k54 hS, pl_k55 hS, pl_k56 hS, pl_k57 hS, pl_k58 hS, pl_k59 hS, pl_k60 hS, pl_r33_1 hS, pl_r33_4 hS, pl_r33_5 hS, pl_r33_6 hS, pl_r33_7 hS, pl_r33_8 hS, pl_r33_12 hS, pl_r33_13 hS, pl_r33_14 hS, pl_r33_20 hS, pl_r33_21 hS, pl_r33_22 hS, pl_r33_25 hS, pl_r33_26 hS, pl_r33_27 hS, pl_r33_29 hS, pl_r33_31 hS, pl_r33_35 hS, pl_r33_36 hS, pl_r33_38 hS, pl_r33_39 hS, pl_r33_40 hS, pl_r33_42 hS, pl_r33_43 hS, pl_r33_44 hS, pl_r33_45 hS, pl_r33_47 hS, hM.1.1, hM.1.2.1, hM.1.2.2.1, hM.1.2.2.2.1, hM.1.2.2.2.2.1, hM.1.2.2.2.2.2.1, hM.1.2.2.2.2.2.2.1, hM.1.2.2.2.2.2.2.2.1, nI_leI, show ¬ pl_N A 0 3 0 ≤ i by omega, if_false, k, h9, pl_tcN]
    by_cases ha : pl_all (pl_fw A h) i = true
    · simp (disch := omega) only [ha, if_true, pl_l1, pl_eq0, Nat.reduceEqDiff, if_false, Bool.true_and]
      by_cases h100 : pl_N A 4 i 3 = 100
      · have hp : pl_fw A h i = true := decide_eq_true (Or.inl h100)
        simp (disch := omega) only [h100, if_true, fX11_fitsWater_58, fX11_fitsWater_63, hp, pl_l1, nI_add]
      · have ht : pl_N A 4 i 3 < pl_N A 0 1 0 := by omega
        have hT := hM.2.2.2.1.2.1 _ ht 1 (by decide)
        have hht := (hW.2.2.1 _ ht).2
        have htc : pl_tc (pl_N A 4 i 3) = nI (pl_N A 4 i 3) := by unfold pl_tc; rw [if_neg h100]
        rw [htc]
        simp (disch := omega) only [h100, if_false, hisw, ↓pl_let, pl_b1, pl_b2, ↓reduceIte, pl_k33 hS, pl_k34 hS, pl_k35 hS, pl_k36 hS, pl_k37 hS, pl_k38 hS, pl_k39 hS, pl_k40 hS, pl_k41 hS, pl_k42 hS, pl_k43 hS, pl_k44 hS, pl_k45 hS, pl_k46 hS, pl_k47 hS, pl_k48 hS, pl_k49 hS, pl_k50 hS, pl_k51 hS, pl_k52 hS, pl_k53 hS, pl_k54 hS, pl_k55 hS, pl_k56 hS, pl_k57 hS, pl_k58 hS, pl_k59 hS, pl_k60 hS, pl_r33_1 hS, pl_r33_4 hS, pl_r33_5 hS, pl_r33_6 hS, pl_r33_7 hS, pl_r33_8 hS, pl_r33_12 hS, pl_r33_13 hS, pl_r33_14 hS, pl_r33_20 hS, pl_r33_21 hS, pl_r33_22 hS, pl_r33_25 hS, pl_r33_26 hS, pl_r33_27 hS, pl_r33_29 hS, pl_r33_31 hS, pl_r33_35 hS, pl_r33_36 hS, pl_r33_38 hS, pl_r33_39 hS, pl_r33_40 hS, pl_r33_42 hS, pl_r33_43 hS, pl_r33_44 hS, pl_r33_45 hS, pl_r33_47 hS, pl_l1, pl_l2, pl_l3, pl_l4, pl_l5, pl_l6, pl_l7, pl_l8, pl_l9, pl_l10, pl_l11, pl_l12, pl_l13, pl_l14, pl_l15, pl_l16, pl_l17, pl_l18, pl_l19, pl_l20, pl_l21, pl_l22, pl_l23, pl_l24, pl_l25, pl_l26, pl_l27, pl_l28, pl_l29, pl_l30, pl_l31, pl_l32, pl_l33, pl_l34, pl_l35, pl_l36, pl_l37, pl_l38, pl_l39, pl_l40, pl_l41, pl_l42, pl_l43, pl_l44, pl_l45, pl_l46, pl_l47, pl_l48, pl_l49, pl_l50, pl_l51, pl_l52, pl_l53, pl_l54, pl_l55, pl_l56, pl_l57, pl_l58, pl_l59, pl_l60, pl_l61, pl_l62, pl_l63, pl_l64, pl_l99, pl_l100, pl_l119, pl_l120, pl_l255, pl_l256, pl_l999, pl_l1000, pl_l1023, pl_l1024, pl_l1111, pl_l5555, pl_l10240, pk_mul, nI_add, pl_in, nI_clamp, show 2 * pl_N A 4 i 3 + 1 < 16 by omega, and_self, if_true, hT, nI_leI, fX11_fitsWater_55, fX11_fitsWater_58, fX11_fitsWater_62, fX11_fitsWater_63, nI_eq, pl_eq0]
        have hp : pl_fw A h i = decide (pl_N A 4 i 4 = 1 ↔ pl_N A 2 (pl_N A 4 i 3) 1 < h) := by unfold pl_fw; rw [decide_eq_decide]; simp [h100]
        rw [hp]
        by_cases hle : h ≤ pl_N A 2 (pl_N A 4 i 3) 1
        · rw [if_pos hle]
          rcases (show pl_N A 4 i 4 = 0 ∨ pl_N A 4 i 4 = 1 by omega) with z | z
          · rw [z, if_pos rfl, decide_eq_true (by omega)]; rfl
          · rw [z, if_neg (by decide), decide_eq_false (by omega)]; rfl
        · rw [if_neg hle]
          rcases (show pl_N A 4 i 4 = 0 ∨ pl_N A 4 i 4 = 1 by omega) with z | z
          · rw [z, if_neg (by decide), decide_eq_false (by omega)]; rfl
          · rw [z, if_pos rfl, decide_eq_true (by omega)]; rfl
    · have ha : pl_all (pl_fw A h) i = false := by simpa using ha
      simp only [ha, Bool.false_eq_true, if_false, if_true, fX11_fitsWater_62, fX11_fitsWater_63, Bool.false_and, pl_l1, nI_add]
  · simp (disch := omega) only [fX11_fitsWater_4, ↓pl_let, pl_b1, pl_b2, ↓reduceIte, pl_k33 hS, pl_k34 hS, pl_k35 hS, pl_k36 hS, pl_k37 hS, pl_k38 hS, pl_k39 hS, pl_k40 hS, pl_k41 hS, pl_k42 hS, pl_k43 hS, pl_k44 hS, pl_k45 hS, pl_k46 hS, pl_k47 hS, pl_k48 hS, pl_k49 hS, pl_k50 hS, pl_k51 hS, pl_k52 hS, pl_k53 hS, pl_k54 hS, pl_k55 hS, pl_k56 hS, pl_k57 hS, pl_k58 hS, pl_k59 hS, pl_k60 hS, pl_r33_1 hS, pl_r33_4 hS, pl_r33_5 hS, pl_r33_6 hS, pl_r33_7 hS, pl_r33_8 hS, pl_r33_12 hS, pl_r33_13 hS, pl_r33_14 hS, pl_r33_20 hS, pl_r33_21 hS, pl_r33_22 hS, pl_r33_25 hS, pl_r33_26 hS, pl_r33_27 hS, pl_r33_29 hS, pl_r33_31 hS, pl_r33_35 hS, pl_r33_36 hS, pl_r33_38 hS, pl_r33_39 hS, pl_r33_40 hS, pl_r33_42 hS, pl_r33_43 hS, pl_r33_44 hS, pl_r33_45 hS, pl_r33_47 hS, hM.1.1, hM.1.2.1, hM.1.2.2.1, hM.1.2.2.2.1, hM.1.2.2.2.2.1, hM.1.2.2.2.2.2.1, hM.1.2.2.2.2.2.2.1, hM.1.2.2.2.2.2.2.2.1, nI_leI, Nat.le_refl, if_true]
    by_cases ha : pl_all (pl_fw A h) (pl_N A 0 3 0) = true
    · simp [ha]
    · have ha : pl_all (pl_fw A h) (pl_N A 0 3 0) = false := by simpa using ha
      simp [ha]
def pl_ws (lo hi x : Nat) : Int32 × Int32 := if lo ≤ hi ∧ lo < x then (nI lo, nI (if x ≤ hi then x - 1 else hi)) else (-9, -9)
theorem pl_ws_i {lo hi x : Nat} (h : lo ≤ hi ∧ lo < x) : pl_ws lo hi x = (nI lo, nI (if x ≤ hi then x - 1 else hi)) := by unfold pl_ws; rw [if_pos h]
theorem pl_ws_o {lo hi x : Nat} (h : ¬ (lo ≤ hi ∧ lo < x)) : pl_ws lo hi x = (-9, -9) := by unfold pl_ws; rw [if_neg h]
theorem pl_op_water : pl_Ok (fX10_water 1) (fX11_water 33) := by
  intro A m h
  have hS := h.1
  have hW := h.2.1
  have hw := hW.1
  unfold pl_Wc at hw
  have hC := h.2.2.2
  have hlh := pl_lohi hW (pl_N A 0 3 0) (Nat.le_refl _)
  have eC := pl_waterC hS hW hC
  have hfw : ∀ {M : ml_M} {x : Nat}, pl_Sh M → pl_M A M → x ≤ 10 → fX11_fitsWater 33 (nI x) M = some (if pl_lo A (pl_N A 0 3 0) ≤ x ∧ x ≤ pl_hi A (pl_N A 0 3 0) then 1 else 0) := fun {M x} hS hM hx => by
    rw [pl_fitsW hS hW hM hx, pl_fwE hx]
    congr 1
    by_cases z : pl_lo A (pl_N A 0 3 0) ≤ x ∧ x ≤ pl_hi A (pl_N A 0 3 0)
    · rw [decide_eq_true z, if_pos rfl, if_pos z]
    · rw [decide_eq_false z, if_neg (by decide), if_neg z]
  generalize pl_lo A (pl_N A 0 3 0) = lo at *
  generalize pl_hi A (pl_N A 0 3 0) = hi at *
  have h9 : ∀ n, n ≤ 10 → (nI n = - nI 9) = False := fun n hn => pl_neg (by omega) (by omega)
  have hst : ∀ {M : ml_M}, pl_Sh M → pl_M A M → fX11_water 33 M = if lo ≤ hi then some (nI lo, ml_sI M 33 2 (nI hi)) else some (-9, M) := fun {M} hS hM => by
    unfold fX11_water
    have hh := pl_for (F := fun fu x (g : Int32 × Int32) => fX11_water_8 fu 33 g.1 g.2 (nI x) M) (R := if lo ≤ hi then some (nI lo, ml_sI M 33 2 (nI hi)) else some (-9, M)) 11 (pl_ws lo hi) (fun fu x hx => ?_) (fun fu => ?_) ml_fu (by rw [pl_fu]; omega)
    · rw [pl_ws_o (by omega)] at hh
      exact hh
    · have hf := hfw hS hM (show x ≤ 10 by omega)
      by_cases hle : lo ≤ hi
      · by_cases h1 : lo < x
        · rw [pl_ws_i ⟨hle, h1⟩, pl_ws_i ⟨hle, show lo < x + 1 by omega⟩]
          by_cases h2 : x ≤ hi
          · rw [if_pos (show lo ≤ x ∧ x ≤ hi by omega)] at hf
            simp (disch := omega) only [fX11_water_8, ↓pl_let, pl_b1, pl_b2, ↓reduceIte, pl_l1, pl_l2, pl_l3, pl_l4, pl_l5, pl_l6, pl_l7, pl_l8, pl_l9, pl_l10, pl_l11, pl_l12, pl_l13, pl_l14, pl_l15, pl_l16, pl_l17, pl_l18, pl_l19, pl_l20, pl_l21, pl_l22, pl_l23, pl_l24, pl_l25, pl_l26, pl_l27, pl_l28, pl_l29, pl_l30, pl_l31, pl_l32, pl_l33, pl_l34, pl_l35, pl_l36, pl_l37, pl_l38, pl_l39, pl_l40, pl_l41, pl_l42, pl_l43, pl_l44, pl_l45, pl_l46, pl_l47, pl_l48, pl_l49, pl_l50, pl_l51, pl_l52, pl_l53, pl_l54, pl_l55, pl_l56, pl_l57, pl_l58, pl_l59, pl_l60, pl_l61, pl_l62, pl_l63, pl_l64, pl_l99, pl_l100, pl_l119, pl_l120, pl_l255, pl_l256, pl_l999, pl_l1000, pl_l1023, pl_l1024, pl_l1111, pl_l5555, pl_l10240, nI_ltI, show ¬ 10 < x by omega, if_false, pl_k33 hS, hf, if_true, pl_eq0, Nat.reduceEqDiff, h9 lo (by omega), fX11_water_33, fX11_water_36, nI_add, h2]
            by_cases h3 : x + 1 ≤ hi
            · rw [if_pos h3, Nat.add_sub_cancel]
            · rw [if_neg h3, show x = hi by omega]
          · rw [if_neg (show ¬ (lo ≤ x ∧ x ≤ hi) by omega)] at hf
            simp (disch := omega) only [fX11_water_8, ↓pl_let, pl_b1, pl_b2, ↓reduceIte, pl_l1, pl_l2, pl_l3, pl_l4, pl_l5, pl_l6, pl_l7, pl_l8, pl_l9, pl_l10, pl_l11, pl_l12, pl_l13, pl_l14, pl_l15, pl_l16, pl_l17, pl_l18, pl_l19, pl_l20, pl_l21, pl_l22, pl_l23, pl_l24, pl_l25, pl_l26, pl_l27, pl_l28, pl_l29, pl_l30, pl_l31, pl_l32, pl_l33, pl_l34, pl_l35, pl_l36, pl_l37, pl_l38, pl_l39, pl_l40, pl_l41, pl_l42, pl_l43, pl_l44, pl_l45, pl_l46, pl_l47, pl_l48, pl_l49, pl_l50, pl_l51, pl_l52, pl_l53, pl_l54, pl_l55, pl_l56, pl_l57, pl_l58, pl_l59, pl_l60, pl_l61, pl_l62, pl_l63, pl_l64, pl_l99, pl_l100, pl_l119, pl_l120, pl_l255, pl_l256, pl_l999, pl_l1000, pl_l1023, pl_l1024, pl_l1111, pl_l5555, pl_l10240, nI_ltI, show ¬ 10 < x by omega, if_false, pl_k33 hS, hf, if_true, fX11_water_36, nI_add, h2, show ¬ x + 1 ≤ hi by omega]
        · rw [pl_ws_o (fun z => h1 z.2)]
          by_cases h2 : lo = x
          · rw [if_pos (show lo ≤ x ∧ x ≤ hi by omega)] at hf
            rw [pl_ws_i ⟨hle, show lo < x + 1 by omega⟩]
            simp (disch := omega) only [fX11_water_8, ↓pl_let, pl_b1, pl_b2, ↓reduceIte, pl_l1, pl_l2, pl_l3, pl_l4, pl_l5, pl_l6, pl_l7, pl_l8, pl_l9, pl_l10, pl_l11, pl_l12, pl_l13, pl_l14, pl_l15, pl_l16, pl_l17, pl_l18, pl_l19, pl_l20, pl_l21, pl_l22, pl_l23, pl_l24, pl_l25, pl_l26, pl_l27, pl_l28, pl_l29, pl_l30, pl_l31, pl_l32, pl_l33, pl_l34, pl_l35, pl_l36, pl_l37, pl_l38, pl_l39, pl_l40, pl_l41, pl_l42, pl_l43, pl_l44, pl_l45, pl_l46, pl_l47, pl_l48, pl_l49, pl_l50, pl_l51, pl_l52, pl_l53, pl_l54, pl_l55, pl_l56, pl_l57, pl_l58, pl_l59, pl_l60, pl_l61, pl_l62, pl_l63, pl_l64, pl_l99, pl_l100, pl_l119, pl_l120, pl_l255, pl_l256, pl_l999, pl_l1000, pl_l1023, pl_l1024, pl_l1111, pl_l5555, pl_l10240, nI_ltI, show ¬ 10 < x by omega, if_false, pl_k33 hS, hf, if_true, pl_eq0, Nat.reduceEqDiff, fX11_water_33, fX11_water_36, nI_add, h2]
            by_cases h3 : x + 1 ≤ hi
            · rw [if_pos h3, Nat.add_sub_cancel]
            · rw [if_neg h3, show x = hi by omega]
          · rw [if_neg (show ¬ (lo ≤ x ∧ x ≤ hi) by omega)] at hf
            rw [pl_ws_o (show ¬ (lo ≤ hi ∧ lo < x + 1) by omega)]
            simp (disch := omega) only [fX11_water_8, ↓pl_let, pl_b1, pl_b2, ↓reduceIte, pl_l1, pl_l2, pl_l3, pl_l4, pl_l5, pl_l6, pl_l7, pl_l8, pl_l9, pl_l10, pl_l11, pl_l12, pl_l13, pl_l14, pl_l15, pl_l16, pl_l17, pl_l18, pl_l19, pl_l20, pl_l21, pl_l22, pl_l23, pl_l24, pl_l25, pl_l26, pl_l27, pl_l28, pl_l29, pl_l30, pl_l31, pl_l32, pl_l33, pl_l34, pl_l35, pl_l36, pl_l37, pl_l38, pl_l39, pl_l40, pl_l41, pl_l42, pl_l43, pl_l44, pl_l45, pl_l46, pl_l47, pl_l48, pl_l49, pl_l50, pl_l51, pl_l52, pl_l53, pl_l54, pl_l55, pl_l56, pl_l57, pl_l58, pl_l59, pl_l60, pl_l61, pl_l62, pl_l63, pl_l64, pl_l99, pl_l100, pl_l119, pl_l120, pl_l255, pl_l256, pl_l999, pl_l1000, pl_l1023, pl_l1024, pl_l1111, pl_l5555, pl_l10240, nI_ltI, show ¬ 10 < x by omega, if_false, pl_k33 hS, hf, if_true, fX11_water_36, nI_add]
      · rw [if_neg (show ¬ (lo ≤ x ∧ x ≤ hi) by omega)] at hf
        rw [pl_ws_o (fun z => hle z.1), pl_ws_o (fun z => hle z.1)]
        simp (disch := omega) only [fX11_water_8, ↓pl_let, pl_b1, pl_b2, ↓reduceIte, pl_l1, pl_l2, pl_l3, pl_l4, pl_l5, pl_l6, pl_l7, pl_l8, pl_l9, pl_l10, pl_l11, pl_l12, pl_l13, pl_l14, pl_l15, pl_l16, pl_l17, pl_l18, pl_l19, pl_l20, pl_l21, pl_l22, pl_l23, pl_l24, pl_l25, pl_l26, pl_l27, pl_l28, pl_l29, pl_l30, pl_l31, pl_l32, pl_l33, pl_l34, pl_l35, pl_l36, pl_l37, pl_l38, pl_l39, pl_l40, pl_l41, pl_l42, pl_l43, pl_l44, pl_l45, pl_l46, pl_l47, pl_l48, pl_l49, pl_l50, pl_l51, pl_l52, pl_l53, pl_l54, pl_l55, pl_l56, pl_l57, pl_l58, pl_l59, pl_l60, pl_l61, pl_l62, pl_l63, pl_l64, pl_l99, pl_l100, pl_l119, pl_l120, pl_l255, pl_l256, pl_l999, pl_l1000, pl_l1023, pl_l1024, pl_l1111, pl_l5555, pl_l10240, nI_ltI, show ¬ 10 < x by omega, if_false, pl_k33 hS, hf, if_true, fX11_water_36, nI_add]
    · by_cases hle : lo ≤ hi
      · rw [pl_ws_i ⟨hle, show lo < 11 by omega⟩, if_pos hle, if_neg (show ¬ 11 ≤ hi by omega)]
        simp (disch := omega) only [fX11_water_8, fX11_water_42, ↓pl_let, pl_b1, pl_b2, ↓reduceIte, pl_l1, pl_l2, pl_l3, pl_l4, pl_l5, pl_l6, pl_l7, pl_l8, pl_l9, pl_l10, pl_l11, pl_l12, pl_l13, pl_l14, pl_l15, pl_l16, pl_l17, pl_l18, pl_l19, pl_l20, pl_l21, pl_l22, pl_l23, pl_l24, pl_l25, pl_l26, pl_l27, pl_l28, pl_l29, pl_l30, pl_l31, pl_l32, pl_l33, pl_l34, pl_l35, pl_l36, pl_l37, pl_l38, pl_l39, pl_l40, pl_l41, pl_l42, pl_l43, pl_l44, pl_l45, pl_l46, pl_l47, pl_l48, pl_l49, pl_l50, pl_l51, pl_l52, pl_l53, pl_l54, pl_l55, pl_l56, pl_l57, pl_l58, pl_l59, pl_l60, pl_l61, pl_l62, pl_l63, pl_l64, pl_l99, pl_l100, pl_l119, pl_l120, pl_l255, pl_l256, pl_l999, pl_l1000, pl_l1023, pl_l1024, pl_l1111, pl_l5555, pl_l10240, nI_ltI, show 10 < 11 by decide, if_true, pl_k33 hS, h9 lo (by omega), if_false, pl_tellM hS]
      · rw [pl_ws_o (fun z => hle z.1), if_neg hle]
        simp (disch := omega) only [fX11_water_8, fX11_water_42, ↓pl_let, pl_b1, pl_b2, ↓reduceIte, pl_l1, pl_l2, pl_l3, pl_l4, pl_l5, pl_l6, pl_l7, pl_l8, pl_l9, pl_l10, pl_l11, pl_l12, pl_l13, pl_l14, pl_l15, pl_l16, pl_l17, pl_l18, pl_l19, pl_l20, pl_l21, pl_l22, pl_l23, pl_l24, pl_l25, pl_l26, pl_l27, pl_l28, pl_l29, pl_l30, pl_l31, pl_l32, pl_l33, pl_l34, pl_l35, pl_l36, pl_l37, pl_l38, pl_l39, pl_l40, pl_l41, pl_l42, pl_l43, pl_l44, pl_l45, pl_l46, pl_l47, pl_l48, pl_l49, pl_l50, pl_l51, pl_l52, pl_l53, pl_l54, pl_l55, pl_l56, pl_l57, pl_l58, pl_l59, pl_l60, pl_l61, pl_l62, pl_l63, pl_l64, pl_l99, pl_l100, pl_l119, pl_l120, pl_l255, pl_l256, pl_l999, pl_l1000, pl_l1023, pl_l1024, pl_l1111, pl_l5555, pl_l10240, nI_ltI, show 10 < 11 by decide, if_true]
  by_cases hle : lo ≤ hi
  · rw [if_pos hle] at eC
    refine pl_Ok.tell h (nI lo) (nI hi) eC fun M hS1 hM1 => ⟨_, pl_Ok.st hM1 ?_⟩
    rw [hst hS1 hM1, if_pos hle]
  · rw [if_neg hle] at eC
    refine pl_Ok.same h (-9) eC ?_
    rw [hst hS h.2.2.1, if_neg hle]

/-! KEYS, go on: opens, strange. -/
def pl_os (A : pl_A) (i : Nat) : Nat := pl_set (fun t => pl_do (pl_N A 0 7 0) (pl_N A 4 i 5) (pl_N A 2 t 0)) (pl_N A 0 1 0)
theorem pl_os_lt {A : pl_A} (hW : pl_W A) (i : Nat) : pl_os A i < 256 := by
  have h := pl_set_lt (fun t => pl_do (pl_N A 0 7 0) (pl_N A 4 i 5) (pl_N A 2 t 0)) (pl_N A 0 1 0)
  have h2 : 2 ^ pl_N A 0 1 0 ≤ 2 ^ 8 := Nat.pow_le_pow_right (by decide) hW.1.2.1
  unfold pl_os
  omega
theorem pl_opened {A : pl_A} {m : ml_M} (hS : pl_Sh m) (hW : pl_W A) (hC : pl_C A m) {i : Nat} (hi : i < pl_N A 0 3 0) : fX10_opened 1 (ml_R m 8 i) m = some (nI (pl_os A i)) := by
  have hw := hW.1
  unfold pl_Wc at hw
  obtain ⟨k1, k2, k3, k4, k5, -⟩ := pl_thg hC hi
  have hx := (hW.2.2.2.2.1 i hi).2.2.2.2.2.1
  unfold fX10_opened
  refine pl_for (F := fun fu t g => fX10_opened_4 fu 1 (ml_R m 8 i) g (nI t) m) (R := some (nI (pl_os A i))) (pl_N A 0 1 0) (fun t => nI (pl_set (fun t => pl_do (pl_N A 0 7 0) (pl_N A 4 i 5) (pl_N A 2 t 0)) t)) (fun fu t ht => ?_) (fun fu => ?_) ml_fu (by rw [pl_fu]; omega)
  · have hT := hC.2.2.2.1.2.2.2.2.2.2 t ht
    have hlk := (hW.2.2.1 t ht).1
    have k := pl_turns hS hC.1.1 (by omega) (x := pl_N A 4 i 5) (y := pl_N A 2 t 0) (by omega) (by omega)
    by_cases h : pl_do (pl_N A 0 7 0) (pl_N A 4 i 5) (pl_N A 2 t 0) = true
    · simp (disch := omega) only [fX10_opened_4, fX10_opened_44, ↓pl_let, pl_b1, pl_b2, ↓reduceIte, pl_k1 hS, pl_k2 hS, pl_k3 hS, pl_k8 hS, pl_k9 hS, pl_k10 hS, pl_k11 hS, pl_k12 hS, pl_k13 hS, pl_k14 hS, pl_k15 hS, pl_k16 hS, pl_k17 hS, pl_k18 hS, pl_k19 hS, pl_k20 hS, pl_k21 hS, pl_k22 hS, pl_k23 hS, pl_k24 hS, pl_k25 hS, pl_k26 hS, pl_k27 hS, pl_k28 hS, pl_k29 hS, pl_k30 hS, pl_k31 hS, pl_k32 hS, pl_r1_0 hS, pl_r1_1 hS, pl_r1_4 hS, pl_r1_6 hS, pl_r1_8 hS, pl_r1_10 hS, pl_r1_12 hS, pl_r1_13 hS, pl_r1_14 hS, pl_r1_18 hS, pl_r12_2 hS, pl_r12_3 hS, pl_r12_4 hS, pl_r12_8 hS, pl_r12_9 hS, pl_r12_10 hS, pl_r12_11 hS, pl_r12_12 hS, pl_r21_3 hS, pl_r21_5 hS, pl_r21_6 hS, pl_r21_7 hS, pl_r26_0 hS, pl_r26_2 hS, pl_r26_3 hS, pl_r26_4 hS, pl_r26_5 hS, hC.2.2.2.1.1.2.2, hC.2.2.2.1.2.1.2.2, hC.2.2.2.1.2.2.1.2.2, hC.2.2.2.1.2.2.2.1, hC.2.2.2.1.2.2.2.2.1, nI_leI, show ¬ pl_N A 0 1 0 ≤ t by omega, if_false, if_true, k1, k5, pl_in, nI_clamp, show t < 8 by omega, and_self, hT.1.2.2, hT.2.1, k, h, pl_set1, pl_l1, pl_eq0, Nat.reduceEqDiff, pl_l31, pl_and, pl_shl2, pl_or, nI_add]
    · simp (disch := omega) only [fX10_opened_4, fX10_opened_44, ↓pl_let, pl_b1, pl_b2, ↓reduceIte, pl_k1 hS, pl_k2 hS, pl_k3 hS, pl_k8 hS, pl_k9 hS, pl_k10 hS, pl_k11 hS, pl_k12 hS, pl_k13 hS, pl_k14 hS, pl_k15 hS, pl_k16 hS, pl_k17 hS, pl_k18 hS, pl_k19 hS, pl_k20 hS, pl_k21 hS, pl_k22 hS, pl_k23 hS, pl_k24 hS, pl_k25 hS, pl_k26 hS, pl_k27 hS, pl_k28 hS, pl_k29 hS, pl_k30 hS, pl_k31 hS, pl_k32 hS, pl_r1_0 hS, pl_r1_1 hS, pl_r1_4 hS, pl_r1_6 hS, pl_r1_8 hS, pl_r1_10 hS, pl_r1_12 hS, pl_r1_13 hS, pl_r1_14 hS, pl_r1_18 hS, pl_r12_2 hS, pl_r12_3 hS, pl_r12_4 hS, pl_r12_8 hS, pl_r12_9 hS, pl_r12_10 hS, pl_r12_11 hS, pl_r12_12 hS, pl_r21_3 hS, pl_r21_5 hS, pl_r21_6 hS, pl_r21_7 hS, pl_r26_0 hS, pl_r26_2 hS, pl_r26_3 hS, pl_r26_4 hS, pl_r26_5 hS, hC.2.2.2.1.1.2.2, hC.2.2.2.1.2.1.2.2, hC.2.2.2.1.2.2.1.2.2, hC.2.2.2.1.2.2.2.1, hC.2.2.2.1.2.2.2.2.1, nI_leI, show ¬ pl_N A 0 1 0 ≤ t by omega, if_false, if_true, k1, k5, pl_in, nI_clamp, show t < 8 by omega, and_self, hT.1.2.2, hT.2.1, k, h, Bool.false_eq_true, pl_set1, pl_l1, nI_add]
  · simp (disch := omega) only [fX10_opened_4, ↓pl_let, pl_b1, pl_b2, ↓reduceIte, pl_k1 hS, pl_k2 hS, pl_k3 hS, pl_k8 hS, pl_k9 hS, pl_k10 hS, pl_k11 hS, pl_k12 hS, pl_k13 hS, pl_k14 hS, pl_k15 hS, pl_k16 hS, pl_k17 hS, pl_k18 hS, pl_k19 hS, pl_k20 hS, pl_k21 hS, pl_k22 hS, pl_k23 hS, pl_k24 hS, pl_k25 hS, pl_k26 hS, pl_k27 hS, pl_k28 hS, pl_k29 hS, pl_k30 hS, pl_k31 hS, pl_k32 hS, pl_r1_0 hS, pl_r1_1 hS, pl_r1_4 hS, pl_r1_6 hS, pl_r1_8 hS, pl_r1_10 hS, pl_r1_12 hS, pl_r1_13 hS, pl_r1_14 hS, pl_r1_18 hS, pl_r12_2 hS, pl_r12_3 hS, pl_r12_4 hS, pl_r12_8 hS, pl_r12_9 hS, pl_r12_10 hS, pl_r12_11 hS, pl_r12_12 hS, pl_r21_3 hS, pl_r21_5 hS, pl_r21_6 hS, pl_r21_7 hS, pl_r26_0 hS, pl_r26_2 hS, pl_r26_3 hS, pl_r26_4 hS, pl_r26_5 hS, hC.2.2.2.1.1.2.2, hC.2.2.2.1.2.1.2.2, hC.2.2.2.1.2.2.1.2.2, hC.2.2.2.1.2.2.2.1, hC.2.2.2.1.2.2.2.2.1, nI_leI, Nat.le_refl, if_true]
    rfl
theorem pl_opensM {A : pl_A} {m : ml_M} (hS : pl_Sh m) (hW : pl_W A) (hM : pl_M A m) {i : Nat} (hi : i < pl_N A 0 3 0) : fX11_opensOf 33 (nI i) m = some (nI (pl_os A i)) := by
  have hw := hW.1
  unfold pl_Wc at hw
  have kx := (pl_thgM hS hW hM hi).2.1
  have hx := (hW.2.2.2.2.1 i hi).2.2.2.2.2.1
  unfold fX11_opensOf
  refine pl_for (F := fun fu t g => fX11_opensOf_4 fu 33 (nI i) g (nI t) m) (R := some (nI (pl_os A i))) (pl_N A 0 1 0) (fun t => nI (pl_set (fun t => pl_do (pl_N A 0 7 0) (pl_N A 4 i 5) (pl_N A 2 t 0)) t)) (fun fu t ht => ?_) (fun fu => ?_) ml_fu (by rw [pl_fu]; omega)
  · have hT := hM.2.2.2.1.2.1 t ht 0 (by decide)
    rw [Nat.add_zero] at hT
    have hlk := (hW.2.2.1 t ht).1
    have k := pl_doM hS hM.1.2.2.2.2.2.2.2.1 (by omega) (x := pl_N A 4 i 5) (y := pl_N A 2 t 0) (by omega) (by omega)
    by_cases h : pl_do (pl_N A 0 7 0) (pl_N A 4 i 5) (pl_N A 2 t 0) = true
    · simp (disch := omega) only [fX11_opensOf_4, fX11_opensOf_40, ↓pl_let, pl_b1, pl_b2, ↓reduceIte, pl_k33 hS, pl_k34 hS, pl_k35 hS, pl_k36 hS, pl_k37 hS, pl_k38 hS, pl_k39 hS, pl_k40 hS, pl_k41 hS, pl_k42 hS, pl_k43 hS, pl_k44 hS, pl_k45 hS, pl_k46 hS, pl_k47 hS, pl_k48 hS, pl_k49 hS, pl_k50 hS, pl_k51 hS, pl_k52 hS, pl_k53 hS, pl_k54 hS, pl_k55 hS, pl_k56 hS, pl_k57 hS, pl_k58 hS, pl_k59 hS, pl_k60 hS, pl_r33_1 hS, pl_r33_4 hS, pl_r33_5 hS, pl_r33_6 hS, pl_r33_7 hS, pl_r33_8 hS, pl_r33_12 hS, pl_r33_13 hS, pl_r33_14 hS, pl_r33_20 hS, pl_r33_21 hS, pl_r33_22 hS, pl_r33_25 hS, pl_r33_26 hS, pl_r33_27 hS, pl_r33_29 hS, pl_r33_31 hS, pl_r33_35 hS, pl_r33_36 hS, pl_r33_38 hS, pl_r33_39 hS, pl_r33_40 hS, pl_r33_42 hS, pl_r33_43 hS, pl_r33_44 hS, pl_r33_45 hS, pl_r33_47 hS, hM.1.1, hM.1.2.1, hM.1.2.2.1, hM.1.2.2.2.1, hM.1.2.2.2.2.1, hM.1.2.2.2.2.2.1, hM.1.2.2.2.2.2.2.1, hM.1.2.2.2.2.2.2.2.1, nI_leI, show ¬ pl_N A 0 1 0 ≤ t by omega, if_false, if_true, kx, pl_l1, pl_l2, pl_l3, pl_l4, pl_l5, pl_l6, pl_l7, pl_l8, pl_l9, pl_l10, pl_l11, pl_l12, pl_l13, pl_l14, pl_l15, pl_l16, pl_l17, pl_l18, pl_l19, pl_l20, pl_l21, pl_l22, pl_l23, pl_l24, pl_l25, pl_l26, pl_l27, pl_l28, pl_l29, pl_l30, pl_l31, pl_l32, pl_l33, pl_l34, pl_l35, pl_l36, pl_l37, pl_l38, pl_l39, pl_l40, pl_l41, pl_l42, pl_l43, pl_l44, pl_l45, pl_l46, pl_l47, pl_l48, pl_l49, pl_l50, pl_l51, pl_l52, pl_l53, pl_l54, pl_l55, pl_l56, pl_l57, pl_l58, pl_l59, pl_l60, pl_l61, pl_l62, pl_l63, pl_l64, pl_l99, pl_l100, pl_l119, pl_l120, pl_l255, pl_l256, pl_l999, pl_l1000, pl_l1023, pl_l1024, pl_l1111, pl_l5555, pl_l10240, pk_mul, pl_in, nI_clamp, show 2 * t < 16 by omega, and_self, hT, k, h, pl_set1, pl_eq0, Nat.reduceEqDiff, pl_and, pl_shl2, pl_or, nI_add]
    · simp (disch := omega) only [fX11_opensOf_4, fX11_opensOf_40, ↓pl_let, pl_b1, pl_b2, ↓reduceIte, pl_k33 hS, pl_k34 hS, pl_k35 hS, pl_k36 hS, pl_k37 hS, pl_k38 hS, pl_k39 hS, pl_k40 hS, pl_k41 hS, pl_k42 hS, pl_k43 hS, pl_k44 hS, pl_k45 hS, pl_k46 hS, pl_k47 hS, pl_k48 hS, pl_k49 hS, pl_k50 hS, pl_k51 hS, pl_k52 hS, pl_k53 hS, pl_k54 hS, pl_k55 hS, pl_k56 hS, pl_k57 hS, pl_k58 hS, pl_k59 hS, pl_k60 hS, pl_r33_1 hS, pl_r33_4 hS, pl_r33_5 hS, pl_r33_6 hS, pl_r33_7 hS, pl_r33_8 hS, pl_r33_12 hS, pl_r33_13 hS, pl_r33_14 hS, pl_r33_20 hS, pl_r33_21 hS, pl_r33_22 hS, pl_r33_25 hS, pl_r33_26 hS, pl_r33_27 hS, pl_r33_29 hS, pl_r33_31 hS, pl_r33_35 hS, pl_r33_36 hS, pl_r33_38 hS, pl_r33_39 hS, pl_r33_40 hS, pl_r33_42 hS, pl_r33_43 hS, pl_r33_44 hS, pl_r33_45 hS, pl_r33_47 hS, hM.1.1, hM.1.2.1, hM.1.2.2.1, hM.1.2.2.2.1, hM.1.2.2.2.2.1, hM.1.2.2.2.2.2.1, hM.1.2.2.2.2.2.2.1, hM.1.2.2.2.2.2.2.2.1, nI_leI, show ¬ pl_N A 0 1 0 ≤ t by omega, if_false, if_true, kx, pl_l1, pl_l2, pl_l3, pl_l4, pl_l5, pl_l6, pl_l7, pl_l8, pl_l9, pl_l10, pl_l11, pl_l12, pl_l13, pl_l14, pl_l15, pl_l16, pl_l17, pl_l18, pl_l19, pl_l20, pl_l21, pl_l22, pl_l23, pl_l24, pl_l25, pl_l26, pl_l27, pl_l28, pl_l29, pl_l30, pl_l31, pl_l32, pl_l33, pl_l34, pl_l35, pl_l36, pl_l37, pl_l38, pl_l39, pl_l40, pl_l41, pl_l42, pl_l43, pl_l44, pl_l45, pl_l46, pl_l47, pl_l48, pl_l49, pl_l50, pl_l51, pl_l52, pl_l53, pl_l54, pl_l55, pl_l56, pl_l57, pl_l58, pl_l59, pl_l60, pl_l61, pl_l62, pl_l63, pl_l64, pl_l99, pl_l100, pl_l119, pl_l120, pl_l255, pl_l256, pl_l999, pl_l1000, pl_l1023, pl_l1024, pl_l1111, pl_l5555, pl_l10240, pk_mul, pl_in, nI_clamp, show 2 * t < 16 by omega, and_self, hT, k, h, Bool.false_eq_true, pl_set1, pl_or0, nI_add]
  · simp (disch := omega) only [fX11_opensOf_4, ↓pl_let, pl_b1, pl_b2, ↓reduceIte, pl_k33 hS, pl_k34 hS, pl_k35 hS, pl_k36 hS, pl_k37 hS, pl_k38 hS, pl_k39 hS, pl_k40 hS, pl_k41 hS, pl_k42 hS, pl_k43 hS, pl_k44 hS, pl_k45 hS, pl_k46 hS, pl_k47 hS, pl_k48 hS, pl_k49 hS, pl_k50 hS, pl_k51 hS, pl_k52 hS, pl_k53 hS, pl_k54 hS, pl_k55 hS, pl_k56 hS, pl_k57 hS, pl_k58 hS, pl_k59 hS, pl_k60 hS, pl_r33_1 hS, pl_r33_4 hS, pl_r33_5 hS, pl_r33_6 hS, pl_r33_7 hS, pl_r33_8 hS, pl_r33_12 hS, pl_r33_13 hS, pl_r33_14 hS, pl_r33_20 hS, pl_r33_21 hS, pl_r33_22 hS, pl_r33_25 hS, pl_r33_26 hS, pl_r33_27 hS, pl_r33_29 hS, pl_r33_31 hS, pl_r33_35 hS, pl_r33_36 hS, pl_r33_38 hS, pl_r33_39 hS, pl_r33_40 hS, pl_r33_42 hS, pl_r33_43 hS, pl_r33_44 hS, pl_r33_45 hS, pl_r33_47 hS, hM.1.1, hM.1.2.1, hM.1.2.2.1, hM.1.2.2.2.1, hM.1.2.2.2.2.1, hM.1.2.2.2.2.2.1, hM.1.2.2.2.2.2.2.1, hM.1.2.2.2.2.2.2.2.1, nI_leI, Nat.le_refl, if_true]
    rfl
theorem pl_op_opens (i : Int32) : pl_Ok (fX10_opens 1 i) (fX11_opens 33 i) := by
  intro A m h
  have hS := h.1
  have hW := h.2.1
  have hw := hW.1
  unfold pl_Wc at hw
  have hC := h.2.2.2
  have hM := h.2.2.1
  rcases pl_rng1 i (pl_N A 0 3 0) (by omega) with hi | ⟨i, hi, rfl⟩
  · refine pl_Ok.same h (-1) ?_ ?_
    · simp [fX10_opens, ↓pl_let, pl_b1, pl_b2, ↓reduceIte, pl_k1 hS, pl_isThg hS hW hC, hi]
    · simp [fX11_opens, ↓pl_let, pl_b1, pl_b2, ↓reduceIte, pl_k33 hS, pl_isThgM hS hW hM, hi]
  have hrng := pl_rng1t hi (show pl_N A 0 3 0 < 2 ^ 30 by omega)
  obtain ⟨k1, k2, -⟩ := pl_thg hC hi
  have hkd := (hW.2.2.2.2.1 i hi).1
  by_cases h5 : pl_N A 4 i 0 = 5
  · refine pl_Ok.same h (nI (pl_os A i)) ?_ ?_
    · simp (disch := omega) only [fX10_opens, ↓pl_let, pl_b1, pl_b2, ↓reduceIte, pl_k1 hS, pl_k2 hS, pl_k3 hS, pl_k8 hS, pl_k9 hS, pl_k10 hS, pl_k11 hS, pl_k12 hS, pl_k13 hS, pl_k14 hS, pl_k15 hS, pl_k16 hS, pl_k17 hS, pl_k18 hS, pl_k19 hS, pl_k20 hS, pl_k21 hS, pl_k22 hS, pl_k23 hS, pl_k24 hS, pl_k25 hS, pl_k26 hS, pl_k27 hS, pl_k28 hS, pl_k29 hS, pl_k30 hS, pl_k31 hS, pl_k32 hS, pl_r1_0 hS, pl_r1_1 hS, pl_r1_4 hS, pl_r1_6 hS, pl_r1_8 hS, pl_r1_10 hS, pl_r1_12 hS, pl_r1_13 hS, pl_r1_14 hS, pl_r1_18 hS, pl_r12_2 hS, pl_r12_3 hS, pl_r12_4 hS, pl_r12_8 hS, pl_r12_9 hS, pl_r12_10 hS, pl_r12_11 hS, pl_r12_12 hS, pl_r21_3 hS, pl_r21_5 hS, pl_r21_6 hS, pl_r21_7 hS, pl_r26_0 hS, pl_r26_2 hS, pl_r26_3 hS, pl_r26_4 hS, pl_r26_5 hS, pl_isThg hS hW hC, hrng, if_true, pl_l1, pl_eq0, Nat.reduceEqDiff, if_false, pl_in, nI_clamp, show i < 20 by omega, and_self, k1, k2, pl_l5, nI_eq, h5, pl_opened hS hW hC hi]
    · simp (disch := omega) only [fX11_opens, ↓pl_let, pl_b1, pl_b2, ↓reduceIte, pl_k33 hS, pl_isThgM hS hW hM, hrng, if_true, pl_l1, pl_eq0, Nat.reduceEqDiff, if_false, (pl_thgM hS hW hM hi).1, pl_l5, nI_eq, h5, pl_opensM hS hW hM hi]
  · refine pl_Ok.found h (-3) 3 (by decide) ?_ fun M hS1 hM1 => ⟨_, pl_Ok.st hM1 ?_⟩
    · simp (disch := omega) only [fX10_opens, ↓pl_let, pl_b1, pl_b2, ↓reduceIte, pl_k1 hS, pl_k2 hS, pl_k3 hS, pl_k8 hS, pl_k9 hS, pl_k10 hS, pl_k11 hS, pl_k12 hS, pl_k13 hS, pl_k14 hS, pl_k15 hS, pl_k16 hS, pl_k17 hS, pl_k18 hS, pl_k19 hS, pl_k20 hS, pl_k21 hS, pl_k22 hS, pl_k23 hS, pl_k24 hS, pl_k25 hS, pl_k26 hS, pl_k27 hS, pl_k28 hS, pl_k29 hS, pl_k30 hS, pl_k31 hS, pl_k32 hS, pl_r1_0 hS, pl_r1_1 hS, pl_r1_4 hS, pl_r1_6 hS, pl_r1_8 hS, pl_r1_10 hS, pl_r1_12 hS, pl_r1_13 hS, pl_r1_14 hS, pl_r1_18 hS, pl_r12_2 hS, pl_r12_3 hS, pl_r12_4 hS, pl_r12_8 hS, pl_r12_9 hS, pl_r12_10 hS, pl_r12_11 hS, pl_r12_12 hS, pl_r21_3 hS, pl_r21_5 hS, pl_r21_6 hS, pl_r21_7 hS, pl_r26_0 hS, pl_r26_2 hS, pl_r26_3 hS, pl_r26_4 hS, pl_r26_5 hS, pl_isThg hS hW hC, hrng, if_true, pl_l1, pl_eq0, Nat.reduceEqDiff, if_false, pl_in, nI_clamp, show i < 20 by omega, and_self, k1, k2, pl_l5, nI_eq, h5, pl_l3, pl_found hS]
    · simp (disch := omega) only [fX11_opens, ↓pl_let, pl_b1, pl_b2, ↓reduceIte, pl_k33 hS1, pl_isThgM hS1 hW hM1, hrng, if_true, pl_l1, pl_eq0, Nat.reduceEqDiff, if_false, (pl_thgM hS1 hW hM1 hi).1, pl_l5, nI_eq, h5, pl_l3, pl_meets hS1]
/-- strange keys: which, the first -/
def pl_sp (A : pl_A) (i : Nat) : Bool := decide (pl_N A 4 i 0 = 5 ∧ pl_N A 4 i 3 ≠ 100 ∧ pl_os A i ≠ 0 ∧ (pl_os A i).testBit (pl_N A 4 i 3) = false)
def pl_sf (A : pl_A) : Nat → Int32
  | 0 => -9
  | i + 1 => if pl_sp A i = true ∧ pl_cnt (pl_sp A) i = 0 then nI i else pl_sf A i
theorem pl_sf1 (A : pl_A) (i : Nat) : pl_sf A (i + 1) = if pl_sp A i = true ∧ pl_cnt (pl_sp A) i = 0 then nI i else pl_sf A i := rfl
theorem pl_op_strange : pl_Ok (fX10_strange 1) (fX11_strange 33) := by
  intro A m h
  have hS := h.1
  have hW := h.2.1
  have hw := hW.1
  unfold pl_Wc at hw
  have hC := h.2.2.2
  refine pl_Ok.tell h (nI (pl_cnt (pl_sp A) (pl_N A 0 3 0))) (pl_sf A (pl_N A 0 3 0)) ?_ fun M hS1 hM1 => ⟨_, pl_Ok.st hM1 ?_⟩
  · unfold fX10_strange
    refine pl_for (F := fun fu i g => fX10_strange_7 fu 1 (nI (pl_cnt (pl_sp A) i)) g (nI i) m) (R := some (nI (pl_cnt (pl_sp A) (pl_N A 0 3 0)), ml_sI m 1 15 (pl_sf A (pl_N A 0 3 0)))) (pl_N A 0 3 0) (pl_sf A) (fun fu i hi => ?_) (fun fu => ?_) ml_fu (by rw [pl_fu]; omega)
    · obtain ⟨k1, k2, k3, k4, k5, k6, k7, k8, k9⟩ := pl_thg hC hi
      have ho := pl_opened hS hW hC hi
      have hlt := pl_os_lt hW i
      have hb := pl_tcB hW hi
      have hkd := (hW.2.2.2.2.1 i hi).1
      have hcnt := pl_cnt_le (pl_sp A) i
      have h9 : (-9 : Int32) = - nI 9 := rfl
      rw [pl_sf1, pl_cnt1]
      simp (disch := omega) only [fX10_strange_7, ↓pl_let, pl_b1, pl_b2, ↓reduceIte, pl_k1 hS, pl_k2 hS, pl_k3 hS, pl_k8 hS, pl_k9 hS, pl_k10 hS, pl_k11 hS, pl_k12 hS, pl_k13 hS, pl_k14 hS, pl_k15 hS, pl_k16 hS, pl_k17 hS, pl_k18 hS, pl_k19 hS, pl_k20 hS, pl_k21 hS, pl_k22 hS, pl_k23 hS, pl_k24 hS, pl_k25 hS, pl_k26 hS, pl_k27 hS, pl_k28 hS, pl_k29 hS, pl_k30 hS, pl_k31 hS, pl_k32 hS, pl_r1_0 hS, pl_r1_1 hS, pl_r1_4 hS, pl_r1_6 hS, pl_r1_8 hS, pl_r1_10 hS, pl_r1_12 hS, pl_r1_13 hS, pl_r1_14 hS, pl_r1_18 hS, pl_r12_2 hS, pl_r12_3 hS, pl_r12_4 hS, pl_r12_8 hS, pl_r12_9 hS, pl_r12_10 hS, pl_r12_11 hS, pl_r12_12 hS, pl_r21_3 hS, pl_r21_5 hS, pl_r21_6 hS, pl_r21_7 hS, pl_r26_0 hS, pl_r26_2 hS, pl_r26_3 hS, pl_r26_4 hS, pl_r26_5 hS, hC.1.1, hC.1.2.1, hC.1.2.2.1, hC.1.2.2.2.1, hC.1.2.2.2.2.1, nI_leI, show ¬ pl_N A 0 3 0 ≤ i by omega, if_false, pl_in, nI_clamp, show i < 20 by omega, and_self, if_true, k1, k2, k8, pl_l5, nI_eq, h9, pl_tcN, ho, pl_eq0]
      by_cases h5 : pl_N A 4 i 0 = 5
      · by_cases h100 : pl_N A 4 i 3 = 100
        · have hp : pl_sp A i = false := decide_eq_false (fun z => z.2.1 h100)
          simp (disch := omega) only [h5, if_true, h100, fX10_strange_83, hp, Bool.false_eq_true, false_and, if_false, pl_l1, nI_add]
        · by_cases h0 : pl_os A i = 0
          · have hp : pl_sp A i = false := decide_eq_false (fun z => z.2.2.1 h0)
            simp (disch := omega) only [h5, if_true, h100, h0, fX10_strange_83, hp, Bool.false_eq_true, false_and, if_false, pl_l1, nI_add]
          · have htc : pl_tc (pl_N A 4 i 3) = nI (pl_N A 4 i 3) := by unfold pl_tc; rw [if_neg h100]
            have hh := (pl_has (s := pl_os A i) (t := pl_N A 4 i 3) (by omega) (by omega) m).1
            rw [htc]
            simp (disch := omega) only [h5, if_true, h100, h0, if_false, hh, pl_b1]
            by_cases ht : (pl_os A i).testBit (pl_N A 4 i 3) = true
            · have hp : pl_sp A i = false := decide_eq_false (fun z => by rw [ht] at z; exact absurd z.2.2.2 (by decide))
              simp (disch := omega) only [ht, if_true, pl_l1, pl_eq0, Nat.reduceEqDiff, if_false, fX10_strange_83, hp, Bool.false_eq_true, false_and, nI_add]
            · have ht : (pl_os A i).testBit (pl_N A 4 i 3) = false := by simpa using ht
              have hp : pl_sp A i = true := decide_eq_true ⟨h5, h100, h0, ht⟩
              by_cases hc : pl_cnt (pl_sp A) i = 0
              · simp (disch := omega) only [ht, Bool.false_eq_true, if_false, if_true, pl_eq0, hc, fX10_strange_80, fX10_strange_83, hp, and_self, pl_l1, nI_add]
              · simp (disch := omega) only [ht, Bool.false_eq_true, if_false, if_true, pl_eq0, hc, fX10_strange_80, fX10_strange_83, hp, and_false, pl_l1, nI_add]
      · have hp : pl_sp A i = false := decide_eq_false (fun z => h5 z.1)
        simp (disch := omega) only [h5, if_false, fX10_strange_83, hp, Bool.false_eq_true, false_and, pl_l1, nI_add]
    · simp (disch := omega) only [fX10_strange_7, fX10_strange_89, ↓pl_let, pl_b1, pl_b2, ↓reduceIte, pl_k1 hS, pl_k2 hS, pl_k3 hS, pl_k8 hS, pl_k9 hS, pl_k10 hS, pl_k11 hS, pl_k12 hS, pl_k13 hS, pl_k14 hS, pl_k15 hS, pl_k16 hS, pl_k17 hS, pl_k18 hS, pl_k19 hS, pl_k20 hS, pl_k21 hS, pl_k22 hS, pl_k23 hS, pl_k24 hS, pl_k25 hS, pl_k26 hS, pl_k27 hS, pl_k28 hS, pl_k29 hS, pl_k30 hS, pl_k31 hS, pl_k32 hS, pl_r1_0 hS, pl_r1_1 hS, pl_r1_4 hS, pl_r1_6 hS, pl_r1_8 hS, pl_r1_10 hS, pl_r1_12 hS, pl_r1_13 hS, pl_r1_14 hS, pl_r1_18 hS, pl_r12_2 hS, pl_r12_3 hS, pl_r12_4 hS, pl_r12_8 hS, pl_r12_9 hS, pl_r12_10 hS, pl_r12_11 hS, pl_r12_12 hS, pl_r21_3 hS, pl_r21_5 hS, pl_r21_6 hS, pl_r21_7 hS, pl_r26_0 hS, pl_r26_2 hS, pl_r26_3 hS, pl_r26_4 hS, pl_r26_5 hS, hC.1.1, hC.1.2.1, hC.1.2.2.1, hC.1.2.2.2.1, hC.1.2.2.2.2.1, nI_leI, Nat.le_refl, if_true]
  · have hS := hS1
    have hM := hM1
    unfold fX11_strange
    refine pl_for (F := fun fu i g => fX11_strange_7 fu 33 (nI (pl_cnt (pl_sp A) i)) g (nI i) M) (R := some (nI (pl_cnt (pl_sp A) (pl_N A 0 3 0)), ml_sI M 33 2 (pl_sf A (pl_N A 0 3 0)))) (pl_N A 0 3 0) (pl_sf A) (fun fu i hi => ?_) (fun fu => ?_) ml_fu (by rw [pl_fu]; omega)
    · obtain ⟨k1, -, -, k8⟩ := pl_thgM hS hW hM hi
      have ho := pl_opensM hS hW hM hi
      have hlt := pl_os_lt hW i
      have hb := pl_tcB hW hi
      have hkd := (hW.2.2.2.2.1 i hi).1
      have hcnt := pl_cnt_le (pl_sp A) i
      have h9 : (-9 : Int32) = - nI 9 := rfl
      rw [pl_sf1, pl_cnt1]
      simp (disch := omega) only [fX11_strange_7, ↓pl_let, pl_b1, pl_b2, ↓reduceIte, pl_k33 hS, pl_k34 hS, pl_k35 hS, pl_k36 hS, pl_k37 hS, pl_k38 hS, pl_k39 hS, pl_k40 hS, pl_k41 hS, pl_k42 hS, pl_k43 hS, pl_k44 hS, pl_k45 hS, pl_k46 hS, pl_k47 hS, pl_k48 hS, pl_k49 hS, pl_k50 hS, pl_k51 hS, pl_k52 hS, pl_k53 hS, pl_k54 hS, pl_k55 hS, pl_k56 hS, pl_k57 hS, pl_k58 hS, pl_k59 hS, pl_k60 hS, pl_r33_1 hS, pl_r33_4 hS, pl_r33_5 hS, pl_r33_6 hS, pl_r33_7 hS, pl_r33_8 hS, pl_r33_12 hS, pl_r33_13 hS, pl_r33_14 hS, pl_r33_20 hS, pl_r33_21 hS, pl_r33_22 hS, pl_r33_25 hS, pl_r33_26 hS, pl_r33_27 hS, pl_r33_29 hS, pl_r33_31 hS, pl_r33_35 hS, pl_r33_36 hS, pl_r33_38 hS, pl_r33_39 hS, pl_r33_40 hS, pl_r33_42 hS, pl_r33_43 hS, pl_r33_44 hS, pl_r33_45 hS, pl_r33_47 hS, hM.1.1, hM.1.2.1, hM.1.2.2.1, hM.1.2.2.2.1, hM.1.2.2.2.2.1, hM.1.2.2.2.2.2.1, hM.1.2.2.2.2.2.2.1, hM.1.2.2.2.2.2.2.2.1, nI_leI, show ¬ pl_N A 0 3 0 ≤ i by omega, if_false, if_true, k1, k8, pl_l5, nI_eq, h9, pl_tcN, ho, pl_eq0]
      by_cases h5 : pl_N A 4 i 0 = 5
      · by_cases h100 : pl_N A 4 i 3 = 100
        · have hp : pl_sp A i = false := decide_eq_false (fun z => z.2.1 h100)
          simp (disch := omega) only [h5, if_true, h100, fX11_strange_62, fX11_strange_63, fX11_strange_78, fX11_strange_79, fX11_strange_91, ↓pl_let, pl_b1, pl_b2, ↓reduceIte, hp, Bool.false_eq_true, false_and, if_false, pl_l1, nI_add, Int32.add_zero]
        · by_cases h0 : pl_os A i = 0
          · have hp : pl_sp A i = false := decide_eq_false (fun z => z.2.2.1 h0)
            simp (disch := omega) only [h5, if_true, h100, h0, fX11_strange_62, fX11_strange_63, fX11_strange_78, fX11_strange_79, fX11_strange_91, ↓pl_let, pl_b1, pl_b2, ↓reduceIte, hp, Bool.false_eq_true, false_and, if_false, pl_l1, nI_add, Int32.add_zero]
          · have htc : pl_tc (pl_N A 4 i 3) = nI (pl_N A 4 i 3) := by unfold pl_tc; rw [if_neg h100]
            have hh := (pl_has (s := pl_os A i) (t := pl_N A 4 i 3) (by omega) (by omega) M).2
            rw [htc]
            simp (disch := omega) only [h5, if_true, h100, h0, if_false, hh, pl_b1]
            by_cases ht : (pl_os A i).testBit (pl_N A 4 i 3) = true
            · have hp : pl_sp A i = false := decide_eq_false (fun z => by rw [ht] at z; exact absurd z.2.2.2 (by decide))
              simp (disch := omega) only [ht, if_true, pl_l1, pl_eq0, Nat.reduceEqDiff, if_false, fX11_strange_62, fX11_strange_63, fX11_strange_78, fX11_strange_79, fX11_strange_91, ↓pl_let, pl_b1, pl_b2, ↓reduceIte, hp, Bool.false_eq_true, false_and, nI_add, Int32.add_zero]
            · have ht : (pl_os A i).testBit (pl_N A 4 i 3) = false := by simpa using ht
              have hp : pl_sp A i = true := decide_eq_true ⟨h5, h100, h0, ht⟩
              by_cases hc : pl_cnt (pl_sp A) i = 0
              · simp (disch := omega) only [ht, Bool.false_eq_true, if_false, if_true, pl_l1, pl_eq0, Nat.reduceEqDiff, hc, fX11_strange_62, fX11_strange_63, fX11_strange_78, fX11_strange_79, fX11_strange_91, ↓pl_let, pl_b1, pl_b2, ↓reduceIte, hp, and_self, nI_add]
              · simp (disch := omega) only [ht, Bool.false_eq_true, if_false, if_true, pl_l1, pl_eq0, Nat.reduceEqDiff, hc, fX11_strange_62, fX11_strange_63, fX11_strange_78, fX11_strange_79, fX11_strange_91, ↓pl_let, pl_b1, pl_b2, ↓reduceIte, hp, and_false, nI_add]
      · have hp : pl_sp A i = false := decide_eq_false (fun z => h5 z.1)
        simp (disch := omega) only [h5, if_false, if_true, fX11_strange_62, fX11_strange_63, fX11_strange_78, fX11_strange_79, fX11_strange_91, ↓pl_let, pl_b1, pl_b2, ↓reduceIte, hp, Bool.false_eq_true, false_and, pl_l1, nI_add, Int32.add_zero]
    · simp (disch := omega) only [fX11_strange_7, fX11_strange_99, ↓pl_let, pl_b1, pl_b2, ↓reduceIte, pl_k33 hS, pl_k34 hS, pl_k35 hS, pl_k36 hS, pl_k37 hS, pl_k38 hS, pl_k39 hS, pl_k40 hS, pl_k41 hS, pl_k42 hS, pl_k43 hS, pl_k44 hS, pl_k45 hS, pl_k46 hS, pl_k47 hS, pl_k48 hS, pl_k49 hS, pl_k50 hS, pl_k51 hS, pl_k52 hS, pl_k53 hS, pl_k54 hS, pl_k55 hS, pl_k56 hS, pl_k57 hS, pl_k58 hS, pl_k59 hS, pl_k60 hS, pl_r33_1 hS, pl_r33_4 hS, pl_r33_5 hS, pl_r33_6 hS, pl_r33_7 hS, pl_r33_8 hS, pl_r33_12 hS, pl_r33_13 hS, pl_r33_14 hS, pl_r33_20 hS, pl_r33_21 hS, pl_r33_22 hS, pl_r33_25 hS, pl_r33_26 hS, pl_r33_27 hS, pl_r33_29 hS, pl_r33_31 hS, pl_r33_35 hS, pl_r33_36 hS, pl_r33_38 hS, pl_r33_39 hS, pl_r33_40 hS, pl_r33_42 hS, pl_r33_43 hS, pl_r33_44 hS, pl_r33_45 hS, pl_r33_47 hS, hM.1.1, hM.1.2.1, hM.1.2.2.1, hM.1.2.2.2.1, hM.1.2.2.2.2.1, hM.1.2.2.2.2.2.1, hM.1.2.2.2.2.2.2.1, hM.1.2.2.2.2.2.2.2.1, nI_leI, Nat.le_refl, if_true, pl_tellM hS]

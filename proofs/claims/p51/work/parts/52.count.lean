/-! COUNTS: joins, bits counted, fits. -/
theorem pl_joinM {A : pl_A} {m : ml_M} (hS : pl_Sh m) (hW : pl_W A) (hM : pl_M A m) {i j : Nat} (hi : i < pl_N A 0 5 0) (hj : j < pl_N A 0 5 0) : fX11_doesJoin 33 (nI i) (nI j) m = some (if pl_jn A i j then 1 else 0) := by
  have hw := hW.1
  unfold pl_Wc at hw
  have wi := hW.2.2.2.2.2.2.1 i hi
  have wj := hW.2.2.2.2.2.2.1 j hj
  have qi := hM.2.2.2.2.2.2.1 i hi
  have qj := hM.2.2.2.2.2.2.1 j hj
  have i0 := qi 0 (by decide)
  have i1 := qi 1 (by decide)
  have i3 := qi 3 (by decide)
  have j0 := qj 0 (by decide)
  have j1 := qj 1 (by decide)
  have j2 := qj 2 (by decide)
  rw [Nat.add_zero] at i0 j0
  simp (disch := omega) only [fX11_doesJoin, ↓pl_let, pl_b1, pl_b2, ↓reduceIte, pl_l1, pl_l2, pl_l3, pl_l4, pl_l5, pl_l6, pl_l7, pl_l8, pl_l9, pl_l10, pl_l11, pl_l12, pl_l13, pl_l14, pl_l15, pl_l16, pl_l17, pl_l18, pl_l19, pl_l20, pl_l21, pl_l22, pl_l23, pl_l24, pl_l25, pl_l26, pl_l27, pl_l28, pl_l29, pl_l30, pl_l31, pl_l32, pl_l33, pl_l34, pl_l35, pl_l36, pl_l37, pl_l38, pl_l39, pl_l40, pl_l41, pl_l42, pl_l43, pl_l44, pl_l45, pl_l46, pl_l47, pl_l48, pl_l49, pl_l50, pl_l51, pl_l52, pl_l53, pl_l54, pl_l55, pl_l56, pl_l57, pl_l58, pl_l59, pl_l60, pl_l61, pl_l62, pl_l63, pl_l64, pl_l99, pl_l100, pl_l119, pl_l120, pl_l255, pl_l256, pl_l999, pl_l1000, pl_l1023, pl_l1024, pl_l1111, pl_l5555, pl_l10240, pl_k33 hS, pl_k34 hS, pl_k35 hS, pl_k36 hS, pl_k37 hS, pl_k38 hS, pl_k39 hS, pl_k40 hS, pl_k41 hS, pl_k42 hS, pl_k43 hS, pl_k44 hS, pl_k45 hS, pl_k46 hS, pl_k47 hS, pl_k48 hS, pl_k49 hS, pl_k50 hS, pl_k51 hS, pl_k52 hS, pl_k53 hS, pl_k54 hS, pl_k55 hS, pl_k56 hS, pl_k57 hS, pl_k58 hS, pl_k59 hS, pl_k60 hS, pl_r33_1 hS, pl_r33_4 hS, pl_r33_5 hS, pl_r33_6 hS, pl_r33_7 hS, pl_r33_8 hS, pl_r33_12 hS, pl_r33_13 hS, pl_r33_14 hS, pl_r33_20 hS, pl_r33_21 hS, pl_r33_22 hS, pl_r33_25 hS, pl_r33_26 hS, pl_r33_27 hS, pl_r33_29 hS, pl_r33_31 hS, pl_r33_35 hS, pl_r33_36 hS, pl_r33_38 hS, pl_r33_39 hS, pl_r33_40 hS, pl_r33_42 hS, pl_r33_43 hS, pl_r33_44 hS, pl_r33_45 hS, pl_r33_47 hS, pk_mul, nI_add, pl_in, nI_clamp, show 4 * i + 3 < 40 by omega, show 4 * j + 2 < 40 by omega, show 4 * i < 40 by omega, show 4 * j < 40 by omega, show 4 * i + 1 < 40 by omega, show 4 * j + 1 < 40 by omega, and_self, if_true, i0, i1, i3, j0, j1, j2, nI_eq, pl_l1000]
  unfold pl_jn
  by_cases h1 : pl_N A 6 i 3 + pl_N A 6 j 2 = 1000 <;> by_cases h2 : pl_N A 6 i 0 = pl_N A 6 j 0 <;> by_cases h3 : pl_N A 6 i 1 = pl_N A 6 j 1 <;> simp [h1, h2, h3]
theorem pl_joinC {A : pl_A} {m : ml_M} (hW : pl_W A) (hC : pl_Cn A m) {i j : Nat} (hi : i < pl_N A 0 5 0) (hj : j < pl_N A 0 5 0) : fX0_meets (ml_R m 10 i) (ml_R m 10 j) m = some (if pl_jn A i j then 1 else 0) := by
  have wi := hW.2.2.2.2.2.2.1 i hi
  have wj := hW.2.2.2.2.2.2.1 j hj
  obtain ⟨ki, qi⟩ := hC.2 i hi
  obtain ⟨kj, qj⟩ := hC.2 j hj
  simp (disch := omega) only [fX0_meets, ↓pl_let, pl_b1, pl_b2, ↓reduceIte, ki.2.2, kj.2.2, qi 0 (by decide), qi 1 (by decide), qi 3 (by decide), qj 0 (by decide), qj 1 (by decide), qj 2 (by decide), nI_add, nI_eq, pl_l1000, if_true]
  unfold pl_jn
  by_cases h1 : pl_N A 6 i 3 + pl_N A 6 j 2 = 1000 <;> by_cases h2 : pl_N A 6 i 0 = pl_N A 6 j 0 <;> by_cases h3 : pl_N A 6 i 1 = pl_N A 6 j 1 <;> simp [h1, h2, h3]
theorem pl_op_joins (i j : Int32) : pl_OkP (fX10_joins 1 i j) (fX11_joins 33 i j) := by
  intro A m h
  have hS := h.1
  have hW := h.2.1
  have hw := hW.1
  unfold pl_Wc at hw
  have hC := h.2.2.2
  have hM := h.2.2.1
  have h10 : (1 : Int32) = 0 ↔ False := by decide
  rcases pl_rng1 i (pl_N A 0 5 0) (by omega) with hi | ⟨i, hi, rfl⟩
  · refine ⟨-1, ?_, ?_⟩
    · simp (disch := omega) only [fX10_joins, ↓pl_let, pl_b1, pl_b2, ↓reduceIte, pl_k1 hS, hC.1.1, hC.1.2.1, hC.1.2.2.1, hC.1.2.2.2.1, hC.1.2.2.2.2.1, pl_within, pl_l1, pl_le1, hi, if_false, if_true]
    · simp (disch := omega) only [fX11_joins, ↓pl_let, pl_b1, pl_b2, ↓reduceIte, pl_k33 hS, hM.1.1, hM.1.2.1, hM.1.2.2.1, hM.1.2.2.2.1, hM.1.2.2.2.2.1, hM.1.2.2.2.2.2.1, hM.1.2.2.2.2.2.2.1, hM.1.2.2.2.2.2.2.2.1, pl_inM, pl_l1, pl_le1, hi, if_false, if_true]
  have hri := pl_rng1t hi (show pl_N A 0 5 0 < 2 ^ 30 by omega)
  rcases pl_rng1 j (pl_N A 0 5 0) (by omega) with hj | ⟨j, hj, rfl⟩
  · refine ⟨-1, ?_, ?_⟩
    · simp (disch := omega) only [fX10_joins, ↓pl_let, pl_b1, pl_b2, ↓reduceIte, pl_k1 hS, hC.1.1, hC.1.2.1, hC.1.2.2.1, hC.1.2.2.2.1, hC.1.2.2.2.2.1, pl_within, pl_l1, pl_le1, hri, hj, if_false, if_true, pl_eq0, Nat.reduceEqDiff]
    · simp (disch := omega) only [fX11_joins, ↓pl_let, pl_b1, pl_b2, ↓reduceIte, pl_k33 hS, hM.1.1, hM.1.2.1, hM.1.2.2.1, hM.1.2.2.2.1, hM.1.2.2.2.2.1, hM.1.2.2.2.2.2.1, hM.1.2.2.2.2.2.2.1, hM.1.2.2.2.2.2.2.2.1, pl_inM, pl_l1, pl_le1, hri, hj, if_false, if_true, pl_eq0, Nat.reduceEqDiff]
  have hrj := pl_rng1t hj (show pl_N A 0 5 0 < 2 ^ 30 by omega)
  by_cases hij : i = j
  · refine ⟨-1, ?_, ?_⟩
    · simp (disch := omega) only [fX10_joins, ↓pl_let, pl_b1, pl_b2, ↓reduceIte, pl_k1 hS, hC.1.1, hC.1.2.1, hC.1.2.2.1, hC.1.2.2.2.1, hC.1.2.2.2.2.1, pl_within, pl_l1, pl_le1, hri, hrj, if_false, if_true, pl_eq0, Nat.reduceEqDiff, hij]
    · simp (disch := omega) only [fX11_joins, ↓pl_let, pl_b1, pl_b2, ↓reduceIte, pl_k33 hS, hM.1.1, hM.1.2.1, hM.1.2.2.1, hM.1.2.2.2.1, hM.1.2.2.2.2.1, hM.1.2.2.2.2.2.1, hM.1.2.2.2.2.2.2.1, hM.1.2.2.2.2.2.2.2.1, pl_inM, pl_l1, pl_le1, hri, hrj, if_false, if_true, pl_eq0, Nat.reduceEqDiff, hij]
  · have eC := pl_joinC hW hC.2.2.2.2.2.1 hi hj
    have eM := pl_joinM hS hW hM hi hj
    have kC := (hC.2.2.2.2.2.1.2 i hi).1.2.2
    refine ⟨if pl_jn A i j then 1 else 0, ?_, ?_⟩
    · simp (disch := omega) only [fX10_joins, ↓pl_let, pl_b1, pl_b2, ↓reduceIte, pl_k1 hS, pl_k2 hS, pl_k3 hS, pl_k8 hS, pl_k9 hS, pl_k10 hS, pl_k11 hS, pl_k12 hS, pl_k13 hS, pl_k14 hS, pl_k15 hS, pl_k16 hS, pl_k17 hS, pl_k18 hS, pl_k19 hS, pl_k20 hS, pl_k21 hS, pl_k22 hS, pl_k23 hS, pl_k24 hS, pl_k25 hS, pl_k26 hS, pl_k27 hS, pl_k28 hS, pl_k29 hS, pl_k30 hS, pl_k31 hS, pl_k32 hS, pl_r1_0 hS, pl_r1_1 hS, pl_r1_4 hS, pl_r1_6 hS, pl_r1_8 hS, pl_r1_10 hS, pl_r1_12 hS, pl_r1_13 hS, pl_r1_14 hS, pl_r1_18 hS, pl_r12_2 hS, pl_r12_3 hS, pl_r12_4 hS, pl_r12_8 hS, pl_r12_9 hS, pl_r12_10 hS, pl_r12_11 hS, pl_r12_12 hS, pl_r21_3 hS, pl_r21_5 hS, pl_r21_6 hS, pl_r21_7 hS, pl_r26_0 hS, pl_r26_2 hS, pl_r26_3 hS, pl_r26_4 hS, pl_r26_5 hS, hC.1.1, hC.1.2.1, hC.1.2.2.1, hC.1.2.2.2.1, hC.1.2.2.2.2.1, pl_within, pl_l1, pl_le1, hri, hrj, if_false, if_true, pl_eq0, Nat.reduceEqDiff, nI_eq, hij, pl_in, nI_clamp, show i < 10 by omega, show j < 10 by omega, and_self, kC, eC]
      by_cases h : pl_jn A i j = true
      · simp (disch := omega) only [h, if_true, pl_l1, pl_eq0, Nat.reduceEqDiff, if_false]
      · simp (disch := omega) only [h, if_true, if_false, Bool.false_eq_true]
    · simp (disch := omega) only [fX11_joins, ↓pl_let, pl_b1, pl_b2, ↓reduceIte, pl_k33 hS, hM.1.1, hM.1.2.1, hM.1.2.2.1, hM.1.2.2.2.1, hM.1.2.2.2.2.1, hM.1.2.2.2.2.2.1, hM.1.2.2.2.2.2.2.1, hM.1.2.2.2.2.2.2.2.1, pl_inM, pl_l1, pl_le1, hri, hrj, if_false, if_true, pl_eq0, Nat.reduceEqDiff, nI_eq, hij, eM]
      by_cases h : pl_jn A i j = true
      · simp (disch := omega) only [h, if_true, pl_l1, pl_eq0, Nat.reduceEqDiff, if_false]
      · simp (disch := omega) only [h, if_true, if_false, Bool.false_eq_true]
/-- how many bits a set below 256 has -/
def pl_pc (n : Nat) : Nat := pl_cnt (fun i => n.testBit i) 8
theorem pl_bitC {n : Nat} (h : n < 256) (m : ml_M) : fJ6_bitCount_0f7a4 (nI n) m = some (nI (pl_pc n)) := by
  have h0 : ∀ n : Fin 256, fJ6_bitCount_0f7a4 (nI n.val) ml_E0 = some (nI (pl_pc n.val)) := by decide +kernel
  have h1 : ∀ x : Int32, fJ6_bitCount_0f7a4 x m = fJ6_bitCount_0f7a4 x ml_E0 := fun x => rfl
  rw [h1]
  exact h0 ⟨n, h⟩
theorem pl_bitsUp (m m1 : ml_M) (r : Int32) : ∀ f l1 l2, fX11_bits_4 f l1 l2 m1 = some r → ∀ k, fX11_bits_4 (f + k) l1 l2 m = some r := by
  intro f
  induction f with
  | zero => intro l1 l2 h; cases h
  | succ f ih =>
    intro l1 l2 h k
    rw [show f + 1 + k = (f + k) + 1 by omega]
    unfold fX11_bits_4 at h ⊢
    by_cases h0 : l2 = 0
    · rw [if_pos h0] at h ⊢; exact h
    · rw [if_neg h0, pl_let] at h ⊢
      exact ih _ _ h k
theorem pl_bitsM {n : Nat} (h : n < 256) (m : ml_M) : fX11_bits (nI n) m = some (nI (pl_pc n)) := by
  have h0 : ∀ n : Fin 256, fX11_bits_4 9 0 (nI n.val) ml_E0 = some (nI (pl_pc n.val)) := by decide +kernel
  have h1 := pl_bitsUp m ml_E0 _ _ _ _ (h0 ⟨n, h⟩) 4194295
  unfold fX11_bits
  rw [show ml_fu = 9 + 4194295 from rfl]
  exact h1
theorem pl_pc_le (n : Nat) : pl_pc n ≤ 8 := pl_cnt_le _ _
theorem pl_set_lt (p : Nat → Bool) (n : Nat) : pl_set p n < 2 ^ n := by
  induction n with
  | zero => simp [pl_set]
  | succ n ih =>
    unfold pl_set
    have h2 : 2 ^ n < 2 ^ (n + 1) := by rw [Nat.pow_succ]; omega
    split
    · exact Nat.or_lt_two_pow (by omega) h2
    · omega
theorem pl_own_lt {A : pl_A} (hW : pl_W A) (i : Nat) : pl_own A i < 256 := by
  have h := pl_set_lt (fun l => pl_may A l i) (pl_N A 0 0 0)
  have h2 : 2 ^ pl_N A 0 0 0 ≤ 2 ^ 8 := Nat.pow_le_pow_right (by decide) hW.1.1
  unfold pl_own
  omega
/-- in how many ways the first things can have been owned -/
def pl_pr (A : pl_A) : Nat → Nat
  | 0 => 1
  | n + 1 => pl_pr A n * pl_pc (pl_own A n)
theorem pl_pr_le (A : pl_A) (n : Nat) : pl_pr A n ≤ 8 ^ n := by
  induction n with
  | zero => exact Nat.le_refl _
  | succ n ih =>
    unfold pl_pr
    rw [Nat.pow_succ]
    exact Nat.mul_le_mul ih (pl_pc_le _)
theorem pl_pr_b (A : pl_A) {n : Nat} (hn : n ≤ 20) : pl_pr A n < 2 ^ 62 := by
  have h1 := pl_pr_le A n
  have h2 : 8 ^ n ≤ 8 ^ 20 := Nat.pow_le_pow_right (by decide) hn
  have h3 : 8 ^ 20 < 2 ^ 62 := by decide
  omega
theorem pl_lg0 {x : Nat} (hx : x < 2 ^ 63) : (lg_cmp (lN x) (0 : Int64) = 0) = (x = 0) ∧ (lg_cmp (lN x) (0 : Int64) ≤ 0) = (x = 0) := by
  have h1 := pl_lgc hx (show 0 < 2 ^ 63 by decide)
  have e : (0 : Int64) = lN 0 := rfl
  rw [e]
  refine ⟨?_, by rw [h1.2]; exact propext ⟨fun z => by omega, fun z => by omega⟩⟩
  unfold lg_cmp
  have e1 : (lN x > lN 0) = (0 < x) := propext (pk_lLT (by decide) hx)
  have e2 : (lN x = lN 0) = (x = 0) := propext (pk_lEQ hx (by decide))
  simp only [e1, e2]
  by_cases h : x = 0
  · subst h; simp
  · rw [if_pos (by omega)]
    exact propext ⟨fun z => absurd z (by decide), fun z => absurd z h⟩
theorem pl_op_fits : pl_Ok (fX10_fits 1) (fX11_fits 33) := by
  intro A m h
  have hS := h.1
  have hW := h.2.1
  have hw := hW.1
  unfold pl_Wc at hw
  have hC := h.2.2.2
  have hb := pl_pr_b A (show pl_N A 0 3 0 ≤ 20 by omega)
  have hnr : pl_nr A (pl_sL A (lN (pl_pr A (pl_N A 0 3 0)))) := ⟨fun g _ => rfl, fun j _ => rfl, fun g _ => rfl⟩
  have hd : pl_Md A (pl_sL A (lN (pl_pr A (pl_N A 0 3 0)))) (ml_sJ m 1 16 (lN (pl_pr A (pl_N A 0 3 0)))) := by
    refine ⟨hS, hW, ((pl_co.refl m).sJ (by decide)).m h.2.2.1, hnr.C hS hC (pl_ex.refl _ m).sJ rfl ?_⟩
    obtain ⟨b1, b2, b3, b4, b5, b6, b7, b8, b9⟩ := hC.1
    refine ⟨b1, b2, b3, b4, b5, b6, b7, ?_, b9⟩
    rw [pl_J_sJ, if_pos ⟨rfl, rfl⟩, pl_L_sL]
  refine pl_Ok.mk (v := if pl_pr A (pl_N A 0 3 0) = 0 then 0 else 1) hd ?_ (Nat.le_add_right _ _) (Nat.le_add_right _ _) (hnr.W hW ⟨hW.1.2.2.2.2.2.2.2.1, hW.1.2.2.2.2.2.2.2.2⟩) fun M hSM hM => ⟨ml_sJ M 33 3 (lN (pl_pr A (pl_N A 0 3 0))), ?_, (pl_mo.refl M).sJ (by decide), hnr.M hM (fun a _ _ => rfl) ?_⟩
  · have hl := pl_for (F := fun fu i g => fX10_fits_4 fu 1 (lN g) (nI i) m) (R := some (if pl_pr A (pl_N A 0 3 0) = 0 then 0 else 1, ml_sJ m 1 16 (lN (pl_pr A (pl_N A 0 3 0))))) (pl_N A 0 3 0) (pl_pr A) (fun fu i hi => ?_) (fun fu => ?_) ml_fu (by rw [pl_fu]; omega)
    · exact hl
    · obtain ⟨k1, k2, k3, k4, k5, k6, k7, k8, k9⟩ := pl_thg hC hi
      have hpc := pl_pc_le (pl_own A i)
      simp (disch := omega) only [fX10_fits_4, ↓pl_let, pl_b1, pl_b2, ↓reduceIte, pl_k1 hS, pl_k2 hS, pl_k3 hS, pl_k8 hS, pl_k9 hS, pl_k10 hS, pl_k11 hS, pl_k12 hS, pl_k13 hS, pl_k14 hS, pl_k15 hS, pl_k16 hS, pl_k17 hS, pl_k18 hS, pl_k19 hS, pl_k20 hS, pl_k21 hS, pl_k22 hS, pl_k23 hS, pl_k24 hS, pl_k25 hS, pl_k26 hS, pl_k27 hS, pl_k28 hS, pl_k29 hS, pl_k30 hS, pl_k31 hS, pl_k32 hS, pl_r1_0 hS, pl_r1_1 hS, pl_r1_4 hS, pl_r1_6 hS, pl_r1_8 hS, pl_r1_10 hS, pl_r1_12 hS, pl_r1_13 hS, pl_r1_14 hS, pl_r1_18 hS, pl_r12_2 hS, pl_r12_3 hS, pl_r12_4 hS, pl_r12_8 hS, pl_r12_9 hS, pl_r12_10 hS, pl_r12_11 hS, pl_r12_12 hS, pl_r21_3 hS, pl_r21_5 hS, pl_r21_6 hS, pl_r21_7 hS, pl_r26_0 hS, pl_r26_2 hS, pl_r26_3 hS, pl_r26_4 hS, pl_r26_5 hS, hC.1.1, hC.1.2.1, hC.1.2.2.1, hC.1.2.2.2.1, hC.1.2.2.2.2.1, nI_leI, show ¬ pl_N A 0 3 0 ≤ i by omega, if_false, pl_in, nI_clamp, show i < 20 by omega, and_self, if_true, k1, k7, pl_bitC (pl_own_lt hW i), nI_l, lN_mul, pl_l1, nI_add]
      rfl
    · simp (disch := omega) only [fX10_fits_4, fX10_fits_34, ↓pl_let, pl_b1, pl_b2, ↓reduceIte, pl_k1 hS, pl_k2 hS, pl_k3 hS, pl_k8 hS, pl_k9 hS, pl_k10 hS, pl_k11 hS, pl_k12 hS, pl_k13 hS, pl_k14 hS, pl_k15 hS, pl_k16 hS, pl_k17 hS, pl_k18 hS, pl_k19 hS, pl_k20 hS, pl_k21 hS, pl_k22 hS, pl_k23 hS, pl_k24 hS, pl_k25 hS, pl_k26 hS, pl_k27 hS, pl_k28 hS, pl_k29 hS, pl_k30 hS, pl_k31 hS, pl_k32 hS, pl_r1_0 hS, pl_r1_1 hS, pl_r1_4 hS, pl_r1_6 hS, pl_r1_8 hS, pl_r1_10 hS, pl_r1_12 hS, pl_r1_13 hS, pl_r1_14 hS, pl_r1_18 hS, pl_r12_2 hS, pl_r12_3 hS, pl_r12_4 hS, pl_r12_8 hS, pl_r12_9 hS, pl_r12_10 hS, pl_r12_11 hS, pl_r12_12 hS, pl_r21_3 hS, pl_r21_5 hS, pl_r21_6 hS, pl_r21_7 hS, pl_r26_0 hS, pl_r26_2 hS, pl_r26_3 hS, pl_r26_4 hS, pl_r26_5 hS, hC.1.1, hC.1.2.1, hC.1.2.2.1, hC.1.2.2.2.1, hC.1.2.2.2.2.1, nI_leI, Nat.le_refl, if_true, (pl_lg0 (show pl_pr A (pl_N A 0 3 0) < 2 ^ 63 by omega)).1]
      split <;> rfl
  · have hS := hSM
    have hl := pl_for (F := fun fu i g => fX11_fits_7 fu 33 (nI i) (ml_sJ M 33 3 (lN g))) (R := some (if pl_pr A (pl_N A 0 3 0) = 0 then (0 : Int32) else 1, ml_sJ M 33 3 (lN (pl_pr A (pl_N A 0 3 0))))) (pl_N A 0 3 0) (pl_pr A) (fun fu i hi => ?_) (fun fu => ?_) ml_fu (by rw [pl_fu]; omega)
    · unfold fX11_fits
      simp only [pl_k33 hS, if_true, pl_let]
      exact hl
    · have hS2 : pl_Sh (ml_sJ M 33 3 (lN (pl_pr A i))) := hS.sJ _ _ _
      have hkp : ∀ v, pl_M (pl_sL A v) (ml_sJ M 33 3 v) := fun v => by
        have hnr2 : pl_nr A (pl_sL A v) := ⟨fun g _ => rfl, fun j _ => rfl, fun g _ => rfl⟩
        refine hnr2.M hM (fun a _ _ => rfl) ?_
        obtain ⟨b1, b2, b3, b4, b5, b6, b7, b8, b9, b10, b11, b12⟩ := hM.1
        exact ⟨b1, b2, b3, b4, b5, b6, b7, b8, b9, b10, by rw [pl_J_sJ, if_pos ⟨rfl, rfl⟩, pl_L_sL], b12⟩
      have hnr2 : pl_nr A (pl_sL A (lN (pl_pr A i))) := ⟨fun g _ => rfl, fun j _ => rfl, fun g _ => rfl⟩
      have hW2 := hnr2.W hW ⟨hW.1.2.2.2.2.2.2.2.1, hW.1.2.2.2.2.2.2.2.2⟩
      have ho := pl_ownM hS2 hW2 (hkp _) (i := i) hi
      have howe : pl_own (pl_sL A (lN (pl_pr A i))) i = pl_own A i := rfl
      rw [howe] at ho
      have hpc := pl_pc_le (pl_own A i)
      have hs2 : ∀ v w : Int64, ml_sJ (ml_sJ M 33 3 v) 33 3 w = ml_sJ M 33 3 w := fun v w => by
        have : ml_u2 (ml_u2 (ml_J M) 33 3 v) 33 3 w = ml_u2 (ml_J M) 33 3 w := by
          funext a b
          unfold ml_u2
          by_cases h : a = 33 ∧ b = 3
          · rw [if_pos h, if_pos h]
          · rw [if_neg h, if_neg h, if_neg h]
        show (_, _, _, _, _, _) = (_, _, _, _, _, _)
        rw [show ml_u2 (ml_J (ml_sJ M 33 3 v)) 33 3 w = ml_u2 (ml_J M) 33 3 w from this]
        rfl
      simp (disch := omega) only [fX11_fits_7, ↓pl_let, pl_b1, pl_b2, ↓reduceIte, pl_k33 hS2, pl_I_sJ, hM.1.1, hM.1.2.1, hM.1.2.2.1, hM.1.2.2.2.1, hM.1.2.2.2.2.1, hM.1.2.2.2.2.2.1, hM.1.2.2.2.2.2.2.1, hM.1.2.2.2.2.2.2.2.1, nI_leI, show ¬ pl_N A 0 3 0 ≤ i by omega, if_false, if_true, ho, pl_bitsM (pl_own_lt hW i), pl_J_sJ, and_self, nI_l, lN_mul, pl_l1, nI_add, hs2]
      rfl
    · simp (disch := omega) only [fX11_fits_7, fX11_fits_39, ↓pl_let, pl_b1, pl_b2, ↓reduceIte, pl_K_sJ, pl_k33 hS, pl_I_sJ, hM.1.1, hM.1.2.1, hM.1.2.2.1, hM.1.2.2.2.1, hM.1.2.2.2.2.1, hM.1.2.2.2.2.2.1, hM.1.2.2.2.2.2.2.1, hM.1.2.2.2.2.2.2.2.1, nI_leI, Nat.le_refl, if_true, pl_J_sJ, and_self, (pl_lg0 (show pl_pr A (pl_N A 0 3 0) < 2 ^ 63 by omega)).2]
      split <;> rfl
  · obtain ⟨b1, b2, b3, b4, b5, b6, b7, b8, b9, b10, b11, b12⟩ := hM.1
    exact ⟨b1, b2, b3, b4, b5, b6, b7, b8, b9, b10, by rw [pl_J_sJ, if_pos ⟨rfl, rfl⟩, pl_L_sL], b12⟩

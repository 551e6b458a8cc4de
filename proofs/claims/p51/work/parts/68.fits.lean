/-! LINES: which trunk one fits. -/
def pl_pm (A : pl_A) (l t i : Nat) : Bool := decide (pl_N A 4 i 3 = t → pl_N A 5 l 1 ≤ pl_N A 4 i 2 ∧ pl_N A 4 i 1 ≤ pl_N A 5 l 2)
def pl_lf (A : pl_A) (l t : Nat) : Bool := pl_all (pl_pm A l t) (pl_N A 0 3 0) && decide (pl_lyg A t = pl_N A 5 l 0)
theorem pl_fitsTrunk {A : pl_A} {m : ml_M} (hS : pl_Sh m) (hW : pl_W A) (hCi : pl_Ci A m) (hCn : pl_Cn A m) (h5 : ml_I m 1 5 = nI (pl_N A 0 3 0)) {l t : Nat} (hl : l < pl_N A 0 4 0) (ht : t < 8) : fX10_fitsTrunk 1 (ml_R m 9 l) (nI t) m = some (if pl_lf A l t then 1 else 0) := by
  have hw := hW.1
  unfold pl_Wc at hw
  obtain ⟨q1, q2⟩ := hCn.1 l hl
  have wl := hW.2.2.2.2.2.1 l hl
  unfold fX10_fitsTrunk
  have hsr := pl_srchH (F := fun fu i => fX10_fitsTrunk_5 fu 1 (ml_R m 9 l) (nI t) (nI (pl_cnt (fun i => decide (pl_N A 4 i 3 = t)) i)) (nI i) m) (R0 := some (if pl_lyg A t = pl_N A 5 l 0 then 1 else 0)) (R1 := fun _ => some 0) (pl_N A 0 3 0) (fun i => !pl_pm A l t i) (fun fu i hi hh => ?_) (fun fu i hi hh hp => ?_) (fun fu hh => ?_) ml_fu (by rw [pl_fu]; omega)
  · refine hsr.trans ?_
    unfold pl_lf
    rw [pl_all_lst]
    by_cases h : pl_lst (fun i => !pl_pm A l t i) (pl_N A 0 3 0) < pl_N A 0 3 0
    · rw [if_pos h, decide_eq_false (by simpa using h), Bool.false_and]; rfl
    · rw [if_neg h, decide_eq_true h, Bool.true_and]
      by_cases h2 : pl_lyg A t = pl_N A 5 l 0 <;> simp [h2]
  · have hp : pl_pm A l t i = true := by simpa using hh i (Nat.le_refl _)
    have hp := of_decide_eq_true hp
    obtain ⟨k1, k2, k3, k4, k5, k6, k7, k8, k9⟩ := hCi.1 i hi
    have wi := hW.2.2.2.2.1 i hi
    have hb := pl_tcB hW hi
    show fX10_fitsTrunk_5 (fu + 1) 1 (ml_R m 9 l) (nI t) (nI (pl_cnt (fun i => decide (pl_N A 4 i 3 = t)) i)) (nI i) m = fX10_fitsTrunk_5 fu 1 (ml_R m 9 l) (nI t) (nI (pl_cnt (fun i => decide (pl_N A 4 i 3 = t)) (i + 1))) (nI (i + 1)) m
    rw [pl_cnt1]
    by_cases h1 : pl_N A 4 i 3 = t
    · have hm := hp h1
      simp (disch := omega) only [fX10_fitsTrunk_5, fX10_fitsTrunk_64, ↓pl_let, pl_b1, pl_b2, ↓reduceIte, pl_k1 hS, pl_k2 hS, pl_k3 hS, pl_k8 hS, pl_k9 hS, pl_k10 hS, pl_k11 hS, pl_k12 hS, pl_k13 hS, pl_k14 hS, pl_k15 hS, pl_k16 hS, pl_k17 hS, pl_k18 hS, pl_k19 hS, pl_k20 hS, pl_k21 hS, pl_k22 hS, pl_k23 hS, pl_k24 hS, pl_k25 hS, pl_k26 hS, pl_k27 hS, pl_k28 hS, pl_k29 hS, pl_k30 hS, pl_k31 hS, pl_k32 hS, pl_r1_0 hS, pl_r1_1 hS, pl_r1_4 hS, pl_r1_6 hS, pl_r1_8 hS, pl_r1_10 hS, pl_r1_12 hS, pl_r1_13 hS, pl_r1_14 hS, pl_r1_18 hS, pl_r12_2 hS, pl_r12_3 hS, pl_r12_4 hS, pl_r12_8 hS, pl_r12_9 hS, pl_r12_10 hS, pl_r12_11 hS, pl_r12_12 hS, pl_r21_3 hS, pl_r21_5 hS, pl_r21_6 hS, pl_r21_7 hS, pl_r26_0 hS, pl_r26_2 hS, pl_r26_3 hS, pl_r26_4 hS, pl_r26_5 hS, h5, nI_leI, show ¬ pl_N A 0 3 0 ≤ i by omega, if_false, if_true, pl_in, nI_clamp, show i < 20 by omega, and_self, k1.2.2, k8, pl_tcE, eq_true h1, q1.2.2, k4, k3, q2 1 (by decide), q2 2 (by decide), nI_ltI, show ¬ pl_N A 4 i 2 < pl_N A 5 l 1 by omega, hm.2, pl_l1, nI_add, decide_true]
    · simp (disch := omega) only [fX10_fitsTrunk_5, fX10_fitsTrunk_64, ↓pl_let, pl_b1, pl_b2, ↓reduceIte, pl_k1 hS, pl_k2 hS, pl_k3 hS, pl_k8 hS, pl_k9 hS, pl_k10 hS, pl_k11 hS, pl_k12 hS, pl_k13 hS, pl_k14 hS, pl_k15 hS, pl_k16 hS, pl_k17 hS, pl_k18 hS, pl_k19 hS, pl_k20 hS, pl_k21 hS, pl_k22 hS, pl_k23 hS, pl_k24 hS, pl_k25 hS, pl_k26 hS, pl_k27 hS, pl_k28 hS, pl_k29 hS, pl_k30 hS, pl_k31 hS, pl_k32 hS, pl_r1_0 hS, pl_r1_1 hS, pl_r1_4 hS, pl_r1_6 hS, pl_r1_8 hS, pl_r1_10 hS, pl_r1_12 hS, pl_r1_13 hS, pl_r1_14 hS, pl_r1_18 hS, pl_r12_2 hS, pl_r12_3 hS, pl_r12_4 hS, pl_r12_8 hS, pl_r12_9 hS, pl_r12_10 hS, pl_r12_11 hS, pl_r12_12 hS, pl_r21_3 hS, pl_r21_5 hS, pl_r21_6 hS, pl_r21_7 hS, pl_r26_0 hS, pl_r26_2 hS, pl_r26_3 hS, pl_r26_4 hS, pl_r26_5 hS, h5, nI_leI, show ¬ pl_N A 0 3 0 ≤ i by omega, if_false, if_true, pl_in, nI_clamp, show i < 20 by omega, and_self, k1.2.2, k8, pl_tcE, h1, pl_l1, nI_add, decide_false, Bool.false_eq_true]
  · have hp : pl_pm A l t i = false := by simpa using hp
    have hp := of_decide_eq_false hp
    have h1 : pl_N A 4 i 3 = t := Classical.byContradiction fun z => hp fun y => absurd y z
    have hm : ¬ (pl_N A 5 l 1 ≤ pl_N A 4 i 2 ∧ pl_N A 4 i 1 ≤ pl_N A 5 l 2) := fun z => hp fun _ => z
    obtain ⟨k1, k2, k3, k4, k5, k6, k7, k8, k9⟩ := hCi.1 i hi
    have wi := hW.2.2.2.2.1 i hi
    have hb := pl_tcB hW hi
    by_cases h2 : pl_N A 4 i 2 < pl_N A 5 l 1
    · simp (disch := omega) only [fX10_fitsTrunk_5, ↓pl_let, pl_b1, pl_b2, ↓reduceIte, pl_k1 hS, pl_k2 hS, pl_k3 hS, pl_k8 hS, pl_k9 hS, pl_k10 hS, pl_k11 hS, pl_k12 hS, pl_k13 hS, pl_k14 hS, pl_k15 hS, pl_k16 hS, pl_k17 hS, pl_k18 hS, pl_k19 hS, pl_k20 hS, pl_k21 hS, pl_k22 hS, pl_k23 hS, pl_k24 hS, pl_k25 hS, pl_k26 hS, pl_k27 hS, pl_k28 hS, pl_k29 hS, pl_k30 hS, pl_k31 hS, pl_k32 hS, pl_r1_0 hS, pl_r1_1 hS, pl_r1_4 hS, pl_r1_6 hS, pl_r1_8 hS, pl_r1_10 hS, pl_r1_12 hS, pl_r1_13 hS, pl_r1_14 hS, pl_r1_18 hS, pl_r12_2 hS, pl_r12_3 hS, pl_r12_4 hS, pl_r12_8 hS, pl_r12_9 hS, pl_r12_10 hS, pl_r12_11 hS, pl_r12_12 hS, pl_r21_3 hS, pl_r21_5 hS, pl_r21_6 hS, pl_r21_7 hS, pl_r26_0 hS, pl_r26_2 hS, pl_r26_3 hS, pl_r26_4 hS, pl_r26_5 hS, h5, nI_leI, show ¬ pl_N A 0 3 0 ≤ i by omega, if_false, if_true, pl_in, nI_clamp, show i < 20 by omega, and_self, k1.2.2, k8, pl_tcE, eq_true h1, q1.2.2, k4, k3, q2 1 (by decide), q2 2 (by decide), nI_ltI, h2]
    · simp (disch := omega) only [fX10_fitsTrunk_5, ↓pl_let, pl_b1, pl_b2, ↓reduceIte, pl_k1 hS, pl_k2 hS, pl_k3 hS, pl_k8 hS, pl_k9 hS, pl_k10 hS, pl_k11 hS, pl_k12 hS, pl_k13 hS, pl_k14 hS, pl_k15 hS, pl_k16 hS, pl_k17 hS, pl_k18 hS, pl_k19 hS, pl_k20 hS, pl_k21 hS, pl_k22 hS, pl_k23 hS, pl_k24 hS, pl_k25 hS, pl_k26 hS, pl_k27 hS, pl_k28 hS, pl_k29 hS, pl_k30 hS, pl_k31 hS, pl_k32 hS, pl_r1_0 hS, pl_r1_1 hS, pl_r1_4 hS, pl_r1_6 hS, pl_r1_8 hS, pl_r1_10 hS, pl_r1_12 hS, pl_r1_13 hS, pl_r1_14 hS, pl_r1_18 hS, pl_r12_2 hS, pl_r12_3 hS, pl_r12_4 hS, pl_r12_8 hS, pl_r12_9 hS, pl_r12_10 hS, pl_r12_11 hS, pl_r12_12 hS, pl_r21_3 hS, pl_r21_5 hS, pl_r21_6 hS, pl_r21_7 hS, pl_r26_0 hS, pl_r26_2 hS, pl_r26_3 hS, pl_r26_4 hS, pl_r26_5 hS, h5, nI_leI, show ¬ pl_N A 0 3 0 ≤ i by omega, if_false, if_true, pl_in, nI_clamp, show i < 20 by omega, and_self, k1.2.2, k8, pl_tcE, eq_true h1, q1.2.2, k4, k3, q2 1 (by decide), q2 2 (by decide), nI_ltI, h2, show ¬ pl_N A 4 i 1 ≤ pl_N A 5 l 2 by omega]
  · have hlg := pl_cnt_le (fun i => decide (pl_N A 4 i 3 = t)) (pl_N A 0 3 0)
    simp (disch := omega) only [fX10_fitsTrunk_5, fX10_fitsTrunk_70, ↓pl_let, pl_b1, pl_b2, ↓reduceIte, pl_k1 hS, pl_k2 hS, pl_k3 hS, pl_k8 hS, pl_k9 hS, pl_k10 hS, pl_k11 hS, pl_k12 hS, pl_k13 hS, pl_k14 hS, pl_k15 hS, pl_k16 hS, pl_k17 hS, pl_k18 hS, pl_k19 hS, pl_k20 hS, pl_k21 hS, pl_k22 hS, pl_k23 hS, pl_k24 hS, pl_k25 hS, pl_k26 hS, pl_k27 hS, pl_k28 hS, pl_k29 hS, pl_k30 hS, pl_k31 hS, pl_k32 hS, pl_r1_0 hS, pl_r1_1 hS, pl_r1_4 hS, pl_r1_6 hS, pl_r1_8 hS, pl_r1_10 hS, pl_r1_12 hS, pl_r1_13 hS, pl_r1_14 hS, pl_r1_18 hS, pl_r12_2 hS, pl_r12_3 hS, pl_r12_4 hS, pl_r12_8 hS, pl_r12_9 hS, pl_r12_10 hS, pl_r12_11 hS, pl_r12_12 hS, pl_r21_3 hS, pl_r21_5 hS, pl_r21_6 hS, pl_r21_7 hS, pl_r26_0 hS, pl_r26_2 hS, pl_r26_3 hS, pl_r26_4 hS, pl_r26_5 hS, h5, nI_leI, Nat.le_refl, if_true, q1.2.2, q2 0 (by decide), nI_eq]
    unfold pl_lyg
    split <;> rfl
theorem pl_lineFits {A : pl_A} {m : ml_M} (hS : pl_Sh m) (hW : pl_W A) (hM : pl_M A m) {l t : Nat} (hl : l < pl_N A 0 4 0) (ht : t < 8) : fX11_lineFits 33 (nI l) (nI t) m = some (if pl_lf A l t then 1 else 0) := by
  have hw := hW.1
  unfold pl_Wc at hw
  have q := hM.2.2.2.2.2.1 l hl
  have q0 := q 0 (by decide)
  have q1 := q 1 (by decide)
  have q2 := q 2 (by decide)
  rw [Nat.add_zero] at q0
  have wl := hW.2.2.2.2.2.1 l hl
  have hlg : pl_lyg A t ≤ 20 := by
    have := pl_cnt_le (fun i => decide (pl_N A 4 i 3 = t)) (pl_N A 0 3 0)
    unfold pl_lyg
    omega
  have hly := pl_lyingM hS hW hM ht
  have hloop : ∀ b : Bool, fX11_lineFits_25 ml_fu 33 (nI l) (nI t) (if b then 1 else 0) 0 m = some (if (b && pl_all (pl_pm A l t) (pl_N A 0 3 0)) then 1 else 0) := fun b => by
    have hx := pl_forE (F := fun fu i g => fX11_lineFits_25 fu 33 (nI l) (nI t) g (nI i) m) (R := some (if (b && pl_all (pl_pm A l t) (pl_N A 0 3 0)) then 1 else 0)) (pl_N A 0 3 0) (fun i => if (b && pl_all (pl_pm A l t) i) then 1 else 0) (fun fu i hi => ?_) (fun fu => ?_) ml_fu (by rw [pl_fu]; omega)
    · have e : (b && pl_all (pl_pm A l t) 0) = b := by simp [pl_all]
      rw [e] at hx
      exact hx
    · have e : pl_all (pl_pm A l t) (i + 1) = (pl_all (pl_pm A l t) i && pl_pm A l t i) := rfl
      by_cases hb : (b && pl_all (pl_pm A l t) i) = true
      · refine Or.inl ?_
        rw [e, ← Bool.and_assoc, hb, Bool.true_and]
        have k := (pl_thgM hS hW hM hi).2.2.2
        have wi := hW.2.2.2.2.1 i hi
        have htb := pl_tcB hW hi
        have t1 := hM.2.2.2.2.1 i hi 1 (by decide)
        have t2 := hM.2.2.2.2.1 i hi 2 (by decide)
        rw [if_neg (by decide)] at t1 t2
        have hy := pl_meetY (m := m) (pl_N A 5 l 1) (pl_N A 5 l 2) (pl_N A 4 i 1) (pl_N A 4 i 2) (by omega) (by omega) (by omega) (by omega)
        simp (disch := omega) only [fX11_lineFits_25, fX11_lineFits_99, fX11_lineFits_104, ↓pl_let, pl_b1, pl_b2, ↓reduceIte, pl_k33 hS, pl_k34 hS, pl_k35 hS, pl_k36 hS, pl_k37 hS, pl_k38 hS, pl_k39 hS, pl_k40 hS, pl_k41 hS, pl_k42 hS, pl_k43 hS, pl_k44 hS, pl_k45 hS, pl_k46 hS, pl_k47 hS, pl_k48 hS, pl_k49 hS, pl_k50 hS, pl_k51 hS, pl_k52 hS, pl_k53 hS, pl_k54 hS, pl_k55 hS, pl_k56 hS, pl_k57 hS, pl_k58 hS, pl_k59 hS, pl_k60 hS, pl_r33_1 hS, pl_r33_4 hS, pl_r33_5 hS, pl_r33_6 hS, pl_r33_7 hS, pl_r33_8 hS, pl_r33_12 hS, pl_r33_13 hS, pl_r33_14 hS, pl_r33_20 hS, pl_r33_21 hS, pl_r33_22 hS, pl_r33_25 hS, pl_r33_26 hS, pl_r33_27 hS, pl_r33_29 hS, pl_r33_31 hS, pl_r33_35 hS, pl_r33_36 hS, pl_r33_38 hS, pl_r33_39 hS, pl_r33_40 hS, pl_r33_42 hS, pl_r33_43 hS, pl_r33_44 hS, pl_r33_45 hS, pl_r33_47 hS, hM.1.1, hM.1.2.1, hM.1.2.2.1, hM.1.2.2.2.1, hM.1.2.2.2.2.1, hM.1.2.2.2.2.2.1, hM.1.2.2.2.2.2.2.1, hM.1.2.2.2.2.2.2.2.1, pl_l1, pl_l2, pl_l3, pl_l4, pl_l5, pl_l6, pl_l7, pl_l8, pl_l9, pl_l10, pl_l11, pl_l12, pl_l13, pl_l14, pl_l15, pl_l16, pl_l17, pl_l18, pl_l19, pl_l20, pl_l21, pl_l22, pl_l23, pl_l24, pl_l25, pl_l26, pl_l27, pl_l28, pl_l29, pl_l30, pl_l31, pl_l32, pl_l33, pl_l34, pl_l35, pl_l36, pl_l37, pl_l38, pl_l39, pl_l40, pl_l41, pl_l42, pl_l43, pl_l44, pl_l45, pl_l46, pl_l47, pl_l48, pl_l49, pl_l50, pl_l51, pl_l52, pl_l53, pl_l54, pl_l55, pl_l56, pl_l57, pl_l58, pl_l59, pl_l60, pl_l61, pl_l62, pl_l63, pl_l64, pl_l99, pl_l100, pl_l119, pl_l120, pl_l255, pl_l256, pl_l999, pl_l1000, pl_l1023, pl_l1024, pl_l1111, pl_l5555, pl_l10240, nI_leI, show ¬ pl_N A 0 3 0 ≤ i by omega, if_false, if_true, pl_eq0, Nat.reduceEqDiff, k, pl_tcE, pk_mul, nI_add, pl_in, nI_clamp, show 3 * l + 1 < 24 by omega, show 3 * l + 2 < 24 by omega, show 7 * i + 1 < 140 by omega, show 7 * i + 2 < 140 by omega, and_self, q1, q2, t1, t2, hy]
        unfold pl_pm
        by_cases h1 : pl_N A 4 i 3 = t
        · by_cases h2 : pl_N A 5 l 1 ≤ pl_N A 4 i 2 ∧ pl_N A 4 i 1 ≤ pl_N A 5 l 2
          · rw [if_pos h1, if_pos h2, if_neg (by decide), decide_eq_true (fun _ => h2), if_pos rfl]
          · rw [if_pos h1, if_neg h2, if_pos rfl, decide_eq_false (fun z => h2 (z h1))]
            rfl
        · rw [if_neg h1, decide_eq_true (fun z => absurd z h1), if_pos rfl]
      · refine Or.inr ?_
        have hb : (b && pl_all (pl_pm A l t) i) = false := by simpa using hb
        have hend : (b && pl_all (pl_pm A l t) (pl_N A 0 3 0)) = false := by
          cases hbb : b with
          | false => rfl
          | true =>
            rw [hbb, Bool.true_and] at hb
            rw [Bool.true_and]
            cases hc : pl_all (pl_pm A l t) (pl_N A 0 3 0) with
            | false => rfl
            | true =>
              have h2 : pl_all (pl_pm A l t) i = true := (pl_all_iff _ _).mpr fun j hj => (pl_all_iff _ _).mp hc j (by omega)
              rw [hb] at h2; cases h2
        rw [hb, hend]
        simp (disch := omega) only [fX11_lineFits_25, ↓pl_let, pl_b1, pl_b2, ↓reduceIte, pl_k33 hS, pl_k34 hS, pl_k35 hS, pl_k36 hS, pl_k37 hS, pl_k38 hS, pl_k39 hS, pl_k40 hS, pl_k41 hS, pl_k42 hS, pl_k43 hS, pl_k44 hS, pl_k45 hS, pl_k46 hS, pl_k47 hS, pl_k48 hS, pl_k49 hS, pl_k50 hS, pl_k51 hS, pl_k52 hS, pl_k53 hS, pl_k54 hS, pl_k55 hS, pl_k56 hS, pl_k57 hS, pl_k58 hS, pl_k59 hS, pl_k60 hS, pl_r33_1 hS, pl_r33_4 hS, pl_r33_5 hS, pl_r33_6 hS, pl_r33_7 hS, pl_r33_8 hS, pl_r33_12 hS, pl_r33_13 hS, pl_r33_14 hS, pl_r33_20 hS, pl_r33_21 hS, pl_r33_22 hS, pl_r33_25 hS, pl_r33_26 hS, pl_r33_27 hS, pl_r33_29 hS, pl_r33_31 hS, pl_r33_35 hS, pl_r33_36 hS, pl_r33_38 hS, pl_r33_39 hS, pl_r33_40 hS, pl_r33_42 hS, pl_r33_43 hS, pl_r33_44 hS, pl_r33_45 hS, pl_r33_47 hS, hM.1.1, hM.1.2.1, hM.1.2.2.1, hM.1.2.2.2.1, hM.1.2.2.2.2.1, hM.1.2.2.2.2.2.1, hM.1.2.2.2.2.2.2.1, hM.1.2.2.2.2.2.2.2.1, nI_leI, show ¬ pl_N A 0 3 0 ≤ i by omega, if_false, Bool.false_eq_true, if_true, true_or]
    · simp (disch := omega) only [fX11_lineFits_25, ↓pl_let, pl_b1, pl_b2, ↓reduceIte, pl_k33 hS, pl_k34 hS, pl_k35 hS, pl_k36 hS, pl_k37 hS, pl_k38 hS, pl_k39 hS, pl_k40 hS, pl_k41 hS, pl_k42 hS, pl_k43 hS, pl_k44 hS, pl_k45 hS, pl_k46 hS, pl_k47 hS, pl_k48 hS, pl_k49 hS, pl_k50 hS, pl_k51 hS, pl_k52 hS, pl_k53 hS, pl_k54 hS, pl_k55 hS, pl_k56 hS, pl_k57 hS, pl_k58 hS, pl_k59 hS, pl_k60 hS, pl_r33_1 hS, pl_r33_4 hS, pl_r33_5 hS, pl_r33_6 hS, pl_r33_7 hS, pl_r33_8 hS, pl_r33_12 hS, pl_r33_13 hS, pl_r33_14 hS, pl_r33_20 hS, pl_r33_21 hS, pl_r33_22 hS, pl_r33_25 hS, pl_r33_26 hS, pl_r33_27 hS, pl_r33_29 hS, pl_r33_31 hS, pl_r33_35 hS, pl_r33_36 hS, pl_r33_38 hS, pl_r33_39 hS, pl_r33_40 hS, pl_r33_42 hS, pl_r33_43 hS, pl_r33_44 hS, pl_r33_45 hS, pl_r33_47 hS, hM.1.1, hM.1.2.1, hM.1.2.2.1, hM.1.2.2.2.1, hM.1.2.2.2.2.1, hM.1.2.2.2.2.2.1, hM.1.2.2.2.2.2.2.1, hM.1.2.2.2.2.2.2.2.1, nI_leI, Nat.le_refl, if_true]
      exact pl_b01 _
  simp (disch := omega) only [fX11_lineFits, fX11_lineFits_21, ↓pl_let, pl_b1, pl_b2, ↓reduceIte, pl_k33 hS, pl_k34 hS, pl_k35 hS, pl_k36 hS, pl_k37 hS, pl_k38 hS, pl_k39 hS, pl_k40 hS, pl_k41 hS, pl_k42 hS, pl_k43 hS, pl_k44 hS, pl_k45 hS, pl_k46 hS, pl_k47 hS, pl_k48 hS, pl_k49 hS, pl_k50 hS, pl_k51 hS, pl_k52 hS, pl_k53 hS, pl_k54 hS, pl_k55 hS, pl_k56 hS, pl_k57 hS, pl_k58 hS, pl_k59 hS, pl_k60 hS, pl_r33_1 hS, pl_r33_4 hS, pl_r33_5 hS, pl_r33_6 hS, pl_r33_7 hS, pl_r33_8 hS, pl_r33_12 hS, pl_r33_13 hS, pl_r33_14 hS, pl_r33_20 hS, pl_r33_21 hS, pl_r33_22 hS, pl_r33_25 hS, pl_r33_26 hS, pl_r33_27 hS, pl_r33_29 hS, pl_r33_31 hS, pl_r33_35 hS, pl_r33_36 hS, pl_r33_38 hS, pl_r33_39 hS, pl_r33_40 hS, pl_r33_42 hS, pl_r33_43 hS, pl_r33_44 hS, pl_r33_45 hS, pl_r33_47 hS, hly, pl_l3, pk_mul, pl_in, nI_clamp, show 3 * l < 24 by omega, and_self, if_true, q0, nI_eq]
  unfold pl_lf
  by_cases h : pl_lyg A t = pl_N A 5 l 0
  · have := hloop true
    rw [Bool.true_and] at this
    rw [if_pos h, decide_eq_true h, Bool.and_true]
    exact this
  · have := hloop false
    rw [Bool.false_and] at this
    rw [if_neg h, decide_eq_false h, Bool.and_false]
    exact this

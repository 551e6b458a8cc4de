/-! CLAIMS: heir. -/
/-- the best so far: how many marks, whose (99: nobody's), whether two have as many -/
def pl_hs (A : pl_A) (t n : Nat) : Nat → Nat × Nat × Bool
  | 0 => (0, 99, false)
  | c + 1 => if pl_N A 7 c 1 = t ∧ n ≤ pl_tm A c ∧ (pl_hs A t n c).1 ≤ pl_tm A c then (pl_tm A c, pl_N A 7 c 0, decide (pl_tm A c = (pl_hs A t n c).1) && ((pl_hs A t n c).2.2 || decide ((pl_hs A t n c).2.1 ≠ pl_N A 7 c 0))) else pl_hs A t n c
theorem pl_hs1 (A : pl_A) (t n c : Nat) : pl_hs A t n (c + 1) = if pl_N A 7 c 1 = t ∧ n ≤ pl_tm A c ∧ (pl_hs A t n c).1 ≤ pl_tm A c then (pl_tm A c, pl_N A 7 c 0, decide (pl_tm A c = (pl_hs A t n c).1) && ((pl_hs A t n c).2.2 || decide ((pl_hs A t n c).2.1 ≠ pl_N A 7 c 0))) else pl_hs A t n c := rfl
theorem pl_tm_le {A : pl_A} (hW : pl_W A) {c : Nat} (hc : c < pl_N A 0 6 0) : pl_tm A c ≤ 24 := by
  have h1 := pl_cnt_le (pl_tr A c) (pl_N A 7 c 2)
  have h2 := (hW.2.2.2.2.2.2.2.1 c hc).2.2.1.2
  unfold pl_tm
  omega
theorem pl_hs_ok {A : pl_A} (hW : pl_W A) (t n : Nat) (hn : 1 ≤ n) : ∀ c, c ≤ pl_N A 0 6 0 → (pl_hs A t n c).1 ≤ 24 ∧ (((pl_hs A t n c).2.1 = 99 ∧ (pl_hs A t n c).1 = 0 ∧ (pl_hs A t n c).2.2 = false) ∨ ((pl_hs A t n c).2.1 ≤ 9 ∧ n ≤ (pl_hs A t n c).1)) := by
  intro c
  induction c with
  | zero => intro _; exact ⟨by simp [pl_hs], Or.inl ⟨rfl, rfl, rfl⟩⟩
  | succ c ih =>
    intro hc
    have ih := ih (by omega)
    have h1 := pl_tm_le hW (show c < pl_N A 0 6 0 by omega)
    have h2 := (hW.2.2.2.2.2.2.2.1 c (by omega)).1
    rw [pl_hs1]
    by_cases h : pl_N A 7 c 1 = t ∧ n ≤ pl_tm A c ∧ (pl_hs A t n c).1 ≤ pl_tm A c
    · rw [if_pos h]
      exact ⟨h1, Or.inr ⟨h2, h.2.1⟩⟩
    · rw [if_neg h]; exact ih
def pl_wh (q : Nat × Nat × Bool) : Int32 := if q.2.1 = 99 ∨ q.2.2 = true then -9 else nI q.2.1
def pl_wt (q : Nat × Nat × Bool) : Int32 := if q.2.1 = 99 then -9 else nI q.2.1
theorem pl_n9 {n : Nat} (h : n < 2 ^ 30) : (nI n = -9) = False := pl_neg h (by decide)
theorem pl_9n {n : Nat} (h : n < 2 ^ 30) : ((-9 : Int32) = nI n) = False := by
  refine eq_false fun z => ?_
  have := pl_n9 h
  rw [← z] at this
  simp at this
theorem pl_heirC {A : pl_A} {m : ml_M} (hS : pl_Sh m) (hW : pl_W A) (hC : pl_C A m) {t n : Nat} (ht : t < 8) (hn : 1 ≤ n ∧ n ≤ 24) :
    fX10_heir_29 ml_fu 1 (nI t) (nI n) 0 (-9) 0 m = (if pl_wh (pl_hs A t n (pl_N A 0 6 0)) = -9 then some (-9, m) else some (pl_wh (pl_hs A t n (pl_N A 0 6 0)), ml_sI m 1 15 (nI (pl_hs A t n (pl_N A 0 6 0)).1))) := by
  have hw := hW.1
  unfold pl_Wc at hw
  refine pl_for (F := fun fu c g => fX10_heir_29 fu 1 (nI t) (nI n) (nI g.1) (pl_wh g) (nI c) m) (R := if pl_wh (pl_hs A t n (pl_N A 0 6 0)) = -9 then some (-9, m) else some (pl_wh (pl_hs A t n (pl_N A 0 6 0)), ml_sI m 1 15 (nI (pl_hs A t n (pl_N A 0 6 0)).1))) (pl_N A 0 6 0) (pl_hs A t n) (fun fu c hc => ?_) (fun fu => ?_) ml_fu (by rw [pl_fu]; omega)
  · obtain ⟨q1, q2, q3, q4, q5, q6⟩ := hC.2.2.2.2.2.2.1 c hc
    have htm := pl_trueMarks hS hW hC.2.2.2.2.1 hC.2.2.2.2.2.2.1 hC.1.2.1 hc
    have hle := pl_tm_le hW hc
    obtain ⟨i1, i2⟩ := pl_hs_ok hW t n hn.1 c (by omega)
    have hw7 := (hW.2.2.2.2.2.2.2.1 c hc)
    rw [pl_hs1]
    simp (disch := omega) only [fX10_heir_29, ↓pl_let, pl_b1, pl_b2, ↓reduceIte, pl_k1 hS, pl_k2 hS, pl_k3 hS, pl_k8 hS, pl_k9 hS, pl_k10 hS, pl_k11 hS, pl_k12 hS, pl_k13 hS, pl_k14 hS, pl_k15 hS, pl_k16 hS, pl_k17 hS, pl_k18 hS, pl_k19 hS, pl_k20 hS, pl_k21 hS, pl_k22 hS, pl_k23 hS, pl_k24 hS, pl_k25 hS, pl_k26 hS, pl_k27 hS, pl_k28 hS, pl_k29 hS, pl_k30 hS, pl_k31 hS, pl_k32 hS, pl_r1_0 hS, pl_r1_1 hS, pl_r1_4 hS, pl_r1_6 hS, pl_r1_8 hS, pl_r1_10 hS, pl_r1_12 hS, pl_r1_13 hS, pl_r1_14 hS, pl_r1_18 hS, pl_r12_2 hS, pl_r12_3 hS, pl_r12_4 hS, pl_r12_8 hS, pl_r12_9 hS, pl_r12_10 hS, pl_r12_11 hS, pl_r12_12 hS, pl_r21_3 hS, pl_r21_5 hS, pl_r21_6 hS, pl_r21_7 hS, pl_r26_0 hS, pl_r26_2 hS, pl_r26_3 hS, pl_r26_4 hS, pl_r26_5 hS, hC.1.1, hC.1.2.1, hC.1.2.2.1, hC.1.2.2.2.1, hC.1.2.2.2.2.1, nI_leI, show ¬ pl_N A 0 6 0 ≤ c by omega, if_false, pl_in, nI_clamp, show c < 8 by omega, and_self, if_true, q1.2.2, q3, nI_eq, htm]
    by_cases h1 : pl_N A 7 c 1 = t
    · rw [if_pos h1]
      by_cases h2 : n ≤ pl_tm A c
      · by_cases h3 : (pl_hs A t n c).1 ≤ pl_tm A c
        · rw [if_pos ⟨h1, h2, h3⟩]
          simp (disch := omega) only [fX10_heir_66, fX10_heir_99, fX10_heir_109, fX10_heir_114, nI_ltI, nI_leI, show ¬ pl_tm A c < n by omega, if_false, h3, if_true, q1.2.2, q2]
          by_cases h4 : (pl_hs A t n c).1 < pl_tm A c
          · rw [if_pos h4, decide_eq_false (by omega), Bool.false_and]
            simp (disch := omega) only [pl_wh, show ¬ pl_N A 7 c 0 = 99 by omega, false_or, Bool.false_eq_true, if_false, pl_l1, nI_add]
          · have h5 : pl_tm A c = (pl_hs A t n c).1 := by omega
            rw [if_neg h4, decide_eq_true h5, Bool.true_and]
            have h6 : (pl_hs A t n c).2.1 ≤ 9 := by omega
            by_cases h7 : (pl_hs A t n c).2.2 = true
            · rw [h7, Bool.true_or]
              simp (disch := omega) only [pl_wh, h7, or_true, if_true, pl_9n, if_false, pl_l1, nI_add]
            · have h7 : (pl_hs A t n c).2.2 = false := by simpa using h7
              rw [h7, Bool.false_or]
              by_cases h8 : (pl_hs A t n c).2.1 = pl_N A 7 c 0
              · rw [decide_eq_false (fun z => z h8)]
                simp (disch := omega) only [pl_wh, h7, h8, show ¬ pl_N A 7 c 0 = 99 by omega, false_or, Bool.false_eq_true, if_false, if_true, pl_l1, nI_add]
              · rw [decide_eq_true h8]
                simp (disch := omega) only [pl_wh, h7, show ¬ (pl_hs A t n c).2.1 = 99 by omega, or_true, false_or, Bool.false_eq_true, if_false, if_true, nI_eq, h8, pl_l1, nI_add]
        · rw [if_neg (fun z => h3 z.2.2)]
          simp (disch := omega) only [fX10_heir_66, fX10_heir_114, nI_ltI, nI_leI, show ¬ pl_tm A c < n by omega, if_false, h3, pl_l1, nI_add]
      · rw [if_neg (fun z => h2 z.2.1)]
        simp (disch := omega) only [fX10_heir_66, fX10_heir_114, nI_ltI, show pl_tm A c < n by omega, if_true, pl_l1, nI_add]
    · rw [if_neg h1, if_neg (fun z => h1 z.1)]
      have h0 : (0 : Int32) < nI n := by
        rw [← nI_0]; exact nI_lt (by omega) (by omega)
      simp (disch := omega) only [fX10_heir_66, fX10_heir_114, h0, if_true, pl_l1, nI_add]
  · simp (disch := omega) only [fX10_heir_29, fX10_heir_120, ↓pl_let, pl_b1, pl_b2, ↓reduceIte, pl_k1 hS, pl_k2 hS, pl_k3 hS, pl_k8 hS, pl_k9 hS, pl_k10 hS, pl_k11 hS, pl_k12 hS, pl_k13 hS, pl_k14 hS, pl_k15 hS, pl_k16 hS, pl_k17 hS, pl_k18 hS, pl_k19 hS, pl_k20 hS, pl_k21 hS, pl_k22 hS, pl_k23 hS, pl_k24 hS, pl_k25 hS, pl_k26 hS, pl_k27 hS, pl_k28 hS, pl_k29 hS, pl_k30 hS, pl_k31 hS, pl_k32 hS, pl_r1_0 hS, pl_r1_1 hS, pl_r1_4 hS, pl_r1_6 hS, pl_r1_8 hS, pl_r1_10 hS, pl_r1_12 hS, pl_r1_13 hS, pl_r1_14 hS, pl_r1_18 hS, pl_r12_2 hS, pl_r12_3 hS, pl_r12_4 hS, pl_r12_8 hS, pl_r12_9 hS, pl_r12_10 hS, pl_r12_11 hS, pl_r12_12 hS, pl_r21_3 hS, pl_r21_5 hS, pl_r21_6 hS, pl_r21_7 hS, pl_r26_0 hS, pl_r26_2 hS, pl_r26_3 hS, pl_r26_4 hS, pl_r26_5 hS, hC.1.1, hC.1.2.1, hC.1.2.2.1, hC.1.2.2.2.1, hC.1.2.2.2.2.1, nI_leI, Nat.le_refl, if_true]
theorem pl_heirM {A : pl_A} {m : ml_M} (hS : pl_Sh m) (hW : pl_W A) (hM : pl_M A m) {t n : Nat} (ht : t < 8) (hn : 1 ≤ n ∧ n ≤ 24) :
    fX11_heir_32 ml_fu 33 (nI t) (nI n) (-9) 0 0 0 m = (if pl_wh (pl_hs A t n (pl_N A 0 6 0)) = -9 then some (-9, m) else some (pl_wh (pl_hs A t n (pl_N A 0 6 0)), ml_sI m 33 2 (nI (pl_hs A t n (pl_N A 0 6 0)).1))) := by
  have hw := hW.1
  unfold pl_Wc at hw
  refine pl_for (F := fun fu c g => fX11_heir_32 fu 33 (nI t) (nI n) (pl_wt g) (nI g.1) (if g.2.2 then 1 else 0) (nI c) m) (R := if pl_wh (pl_hs A t n (pl_N A 0 6 0)) = -9 then some (-9, m) else some (pl_wh (pl_hs A t n (pl_N A 0 6 0)), ml_sI m 33 2 (nI (pl_hs A t n (pl_N A 0 6 0)).1))) (pl_N A 0 6 0) (pl_hs A t n) (fun fu c hc => ?_) (fun fu => ?_) ml_fu (by rw [pl_fu]; omega)
  · obtain ⟨q1, q2⟩ := hM.2.2.2.2.2.2.2 c hc
    have e0 := q1 0 (by decide)
    have e1 := q1 1 (by decide)
    rw [Nat.add_zero] at e0
    have g0 : 51 * c < 408 := by omega
    have g1 : 51 * c + 1 < 408 := by omega
    have htm := pl_trueM hS hW hM hc
    have hle := pl_tm_le hW hc
    obtain ⟨i1, i2⟩ := pl_hs_ok hW t n hn.1 c (by omega)
    have hw7 := (hW.2.2.2.2.2.2.2.1 c hc)
    have hq := pl_hs1 A t n c
    have n113 : ∀ (K : Nat → Int32 → Int32 → Int32 → Int32 → Int32 → Int32 → ml_M → Option (Int32 × ml_M)) (x y : Int32), fX11_heir_113 K 33 (nI t) (nI n) (nI c) x y m = K 33 (nI t) (nI n) (nI (pl_N A 7 c 0)) x y (nI (c + 1)) m := fun K x y => by
      simp (disch := omega) only [fX11_heir_113, fX11_heir_130, ↓pl_let, pl_b1, pl_b2, ↓reduceIte, pl_l1, pl_l2, pl_l3, pl_l4, pl_l5, pl_l6, pl_l7, pl_l8, pl_l9, pl_l10, pl_l11, pl_l12, pl_l13, pl_l14, pl_l15, pl_l16, pl_l17, pl_l18, pl_l19, pl_l20, pl_l21, pl_l22, pl_l23, pl_l24, pl_l25, pl_l26, pl_l27, pl_l28, pl_l29, pl_l30, pl_l31, pl_l32, pl_l33, pl_l34, pl_l35, pl_l36, pl_l37, pl_l38, pl_l39, pl_l40, pl_l41, pl_l42, pl_l43, pl_l44, pl_l45, pl_l46, pl_l47, pl_l48, pl_l49, pl_l50, pl_l51, pl_l52, pl_l53, pl_l54, pl_l55, pl_l56, pl_l57, pl_l58, pl_l59, pl_l60, pl_l61, pl_l62, pl_l63, pl_l64, pl_l99, pl_l100, pl_l119, pl_l120, pl_l255, pl_l256, pl_l999, pl_l1000, pl_l1023, pl_l1024, pl_l1111, pl_l5555, pl_l10240, pl_k33 hS, pl_k34 hS, pl_k35 hS, pl_k36 hS, pl_k37 hS, pl_k38 hS, pl_k39 hS, pl_k40 hS, pl_k41 hS, pl_k42 hS, pl_k43 hS, pl_k44 hS, pl_k45 hS, pl_k46 hS, pl_k47 hS, pl_k48 hS, pl_k49 hS, pl_k50 hS, pl_k51 hS, pl_k52 hS, pl_k53 hS, pl_k54 hS, pl_k55 hS, pl_k56 hS, pl_k57 hS, pl_k58 hS, pl_k59 hS, pl_k60 hS, pl_r33_1 hS, pl_r33_4 hS, pl_r33_5 hS, pl_r33_6 hS, pl_r33_7 hS, pl_r33_8 hS, pl_r33_12 hS, pl_r33_13 hS, pl_r33_14 hS, pl_r33_20 hS, pl_r33_21 hS, pl_r33_22 hS, pl_r33_25 hS, pl_r33_26 hS, pl_r33_27 hS, pl_r33_29 hS, pl_r33_31 hS, pl_r33_35 hS, pl_r33_36 hS, pl_r33_38 hS, pl_r33_39 hS, pl_r33_40 hS, pl_r33_42 hS, pl_r33_43 hS, pl_r33_44 hS, pl_r33_45 hS, pl_r33_47 hS, pk_mul, nI_add, pl_in, nI_clamp, g0, and_self, if_true, e0]
    simp (disch := omega) only [fX11_heir_32, ↓pl_let, pl_b1, pl_b2, ↓reduceIte, pl_k33 hS, pl_k34 hS, pl_k35 hS, pl_k36 hS, pl_k37 hS, pl_k38 hS, pl_k39 hS, pl_k40 hS, pl_k41 hS, pl_k42 hS, pl_k43 hS, pl_k44 hS, pl_k45 hS, pl_k46 hS, pl_k47 hS, pl_k48 hS, pl_k49 hS, pl_k50 hS, pl_k51 hS, pl_k52 hS, pl_k53 hS, pl_k54 hS, pl_k55 hS, pl_k56 hS, pl_k57 hS, pl_k58 hS, pl_k59 hS, pl_k60 hS, pl_r33_1 hS, pl_r33_4 hS, pl_r33_5 hS, pl_r33_6 hS, pl_r33_7 hS, pl_r33_8 hS, pl_r33_12 hS, pl_r33_13 hS, pl_r33_14 hS, pl_r33_20 hS, pl_r33_21 hS, pl_r33_22 hS, pl_r33_25 hS, pl_r33_26 hS, pl_r33_27 hS, pl_r33_29 hS, pl_r33_31 hS, pl_r33_35 hS, pl_r33_36 hS, pl_r33_38 hS, pl_r33_39 hS, pl_r33_40 hS, pl_r33_42 hS, pl_r33_43 hS, pl_r33_44 hS, pl_r33_45 hS, pl_r33_47 hS, hM.1.1, hM.1.2.1, hM.1.2.2.1, hM.1.2.2.2.1, hM.1.2.2.2.2.1, hM.1.2.2.2.2.2.1, hM.1.2.2.2.2.2.2.1, hM.1.2.2.2.2.2.2.2.1, nI_leI, show ¬ pl_N A 0 6 0 ≤ c by omega, if_false, pl_l1, pl_l2, pl_l3, pl_l4, pl_l5, pl_l6, pl_l7, pl_l8, pl_l9, pl_l10, pl_l11, pl_l12, pl_l13, pl_l14, pl_l15, pl_l16, pl_l17, pl_l18, pl_l19, pl_l20, pl_l21, pl_l22, pl_l23, pl_l24, pl_l25, pl_l26, pl_l27, pl_l28, pl_l29, pl_l30, pl_l31, pl_l32, pl_l33, pl_l34, pl_l35, pl_l36, pl_l37, pl_l38, pl_l39, pl_l40, pl_l41, pl_l42, pl_l43, pl_l44, pl_l45, pl_l46, pl_l47, pl_l48, pl_l49, pl_l50, pl_l51, pl_l52, pl_l53, pl_l54, pl_l55, pl_l56, pl_l57, pl_l58, pl_l59, pl_l60, pl_l61, pl_l62, pl_l63, pl_l64, pl_l99, pl_l100, pl_l119, pl_l120, pl_l255, pl_l256, pl_l999, pl_l1000, pl_l1023, pl_l1024, pl_l1111, pl_l5555, pl_l10240, pk_mul, nI_add, pl_in, nI_clamp, g1, and_self, if_true, e1, nI_eq, htm]
    by_cases h1 : pl_N A 7 c 1 = t
    · rw [if_pos h1]
      by_cases h2 : n ≤ pl_tm A c
      · by_cases h3 : (pl_hs A t n c).1 ≤ pl_tm A c
        · rw [if_pos ⟨h1, h2, h3⟩] at hq
          rw [hq]
          simp (disch := omega) only [fX11_heir_67, fX11_heir_108, fX11_heir_112, nI_ltI, show ¬ pl_tm A c < n by omega, show ¬ pl_tm A c < (pl_hs A t n c).1 by omega, if_false, nI_eq, n113]
          by_cases h5 : pl_tm A c = (pl_hs A t n c).1
          · rw [if_pos h5, decide_eq_true h5, Bool.true_and]
            have h6 : (pl_hs A t n c).2.1 ≤ 9 := by omega
            have hwt : pl_wt (pl_tm A c, pl_N A 7 c 0, (pl_hs A t n c).2.2 || decide ((pl_hs A t n c).2.1 ≠ pl_N A 7 c 0)) = nI (pl_N A 7 c 0) := by
              unfold pl_wt; rw [if_neg (by show ¬ pl_N A 7 c 0 = 99; omega)]
            rw [hwt]
            by_cases h7 : (pl_hs A t n c).2.2 = true
            · rw [h7, Bool.true_or]
              simp (disch := omega) only [if_true, pl_l1, pl_eq0, Nat.reduceEqDiff, if_false]
            · have h7 : (pl_hs A t n c).2.2 = false := by simpa using h7
              rw [h7, Bool.false_or]
              simp (disch := omega) only [Bool.false_eq_true, if_false, if_true, ↓pl_let, pl_b1, pl_b2, ↓reduceIte, pl_l1, pl_l2, pl_l3, pl_l4, pl_l5, pl_l6, pl_l7, pl_l8, pl_l9, pl_l10, pl_l11, pl_l12, pl_l13, pl_l14, pl_l15, pl_l16, pl_l17, pl_l18, pl_l19, pl_l20, pl_l21, pl_l22, pl_l23, pl_l24, pl_l25, pl_l26, pl_l27, pl_l28, pl_l29, pl_l30, pl_l31, pl_l32, pl_l33, pl_l34, pl_l35, pl_l36, pl_l37, pl_l38, pl_l39, pl_l40, pl_l41, pl_l42, pl_l43, pl_l44, pl_l45, pl_l46, pl_l47, pl_l48, pl_l49, pl_l50, pl_l51, pl_l52, pl_l53, pl_l54, pl_l55, pl_l56, pl_l57, pl_l58, pl_l59, pl_l60, pl_l61, pl_l62, pl_l63, pl_l64, pl_l99, pl_l100, pl_l119, pl_l120, pl_l255, pl_l256, pl_l999, pl_l1000, pl_l1023, pl_l1024, pl_l1111, pl_l5555, pl_l10240, pl_k33 hS, pl_k34 hS, pl_k35 hS, pl_k36 hS, pl_k37 hS, pl_k38 hS, pl_k39 hS, pl_k40 hS, pl_k41 hS, pl_k42 hS, pl_k43 hS, pl_k44 hS, pl_k45 hS, pl_k46 hS, pl_k47 hS, pl_k48 hS, pl_k49 hS, pl_k50 hS, pl_k51 hS, pl_k52 hS, pl_k53 hS, pl_k54 hS, pl_k55 hS, pl_k56 hS, pl_k57 hS, pl_k58 hS, pl_k59 hS, pl_k60 hS, pl_r33_1 hS, pl_r33_4 hS, pl_r33_5 hS, pl_r33_6 hS, pl_r33_7 hS, pl_r33_8 hS, pl_r33_12 hS, pl_r33_13 hS, pl_r33_14 hS, pl_r33_20 hS, pl_r33_21 hS, pl_r33_22 hS, pl_r33_25 hS, pl_r33_26 hS, pl_r33_27 hS, pl_r33_29 hS, pl_r33_31 hS, pl_r33_35 hS, pl_r33_36 hS, pl_r33_38 hS, pl_r33_39 hS, pl_r33_40 hS, pl_r33_42 hS, pl_r33_43 hS, pl_r33_44 hS, pl_r33_45 hS, pl_r33_47 hS, pk_mul, pl_in, nI_clamp, g0, and_self, e0]
              have hwq : pl_wt (pl_hs A t n c) = nI (pl_hs A t n c).2.1 := by
                unfold pl_wt; rw [if_neg (by omega)]
              rw [hwq]
              by_cases h8 : (pl_hs A t n c).2.1 = pl_N A 7 c 0
              · rw [if_pos (by rw [h8]), decide_eq_false (fun z => z h8)]
                simp only [Bool.false_eq_true, if_false]
              · rw [if_neg (fun z => h8 ((nI_eq (by omega) (by omega)).mp z)), decide_eq_true h8]
                simp only [if_true]
          · rw [if_neg h5, decide_eq_false h5, Bool.false_and]
            have hwt : pl_wt (pl_tm A c, pl_N A 7 c 0, false) = nI (pl_N A 7 c 0) := by
              unfold pl_wt; rw [if_neg (by show ¬ pl_N A 7 c 0 = 99; omega)]
            rw [hwt]
            simp only [Bool.false_eq_true, if_false]
        · rw [if_neg (fun z => h3 z.2.2)] at hq
          rw [hq]
          simp (disch := omega) only [fX11_heir_67, fX11_heir_130, nI_ltI, show ¬ pl_tm A c < n by omega, show pl_tm A c < (pl_hs A t n c).1 by omega, if_false, if_true, pl_l1, nI_add]
      · rw [if_neg (fun z => h2 z.2.1)] at hq
        rw [hq]
        simp (disch := omega) only [fX11_heir_67, fX11_heir_130, nI_ltI, show pl_tm A c < n by omega, if_true, pl_l1, nI_add]
    · rw [if_neg (fun z => h1 z.1)] at hq
      rw [hq, if_neg h1]
      have h0 : (- nI 1 : Int32) < nI n := by
        rw [Int32.lt_iff_toInt_lt, pl_ngt (by decide), nI_toInt (by omega)]; omega
      simp (disch := omega) only [fX11_heir_67, fX11_heir_130, h0, if_true, pl_l1, nI_add]
  · obtain ⟨i1, i2⟩ := pl_hs_ok hW t n hn.1 (pl_N A 0 6 0) (Nat.le_refl _)
    simp (disch := omega) only [fX11_heir_32, fX11_heir_136, fX11_heir_147, ↓pl_let, pl_b1, pl_b2, ↓reduceIte, pl_k33 hS, pl_k34 hS, pl_k35 hS, pl_k36 hS, pl_k37 hS, pl_k38 hS, pl_k39 hS, pl_k40 hS, pl_k41 hS, pl_k42 hS, pl_k43 hS, pl_k44 hS, pl_k45 hS, pl_k46 hS, pl_k47 hS, pl_k48 hS, pl_k49 hS, pl_k50 hS, pl_k51 hS, pl_k52 hS, pl_k53 hS, pl_k54 hS, pl_k55 hS, pl_k56 hS, pl_k57 hS, pl_k58 hS, pl_k59 hS, pl_k60 hS, pl_r33_1 hS, pl_r33_4 hS, pl_r33_5 hS, pl_r33_6 hS, pl_r33_7 hS, pl_r33_8 hS, pl_r33_12 hS, pl_r33_13 hS, pl_r33_14 hS, pl_r33_20 hS, pl_r33_21 hS, pl_r33_22 hS, pl_r33_25 hS, pl_r33_26 hS, pl_r33_27 hS, pl_r33_29 hS, pl_r33_31 hS, pl_r33_35 hS, pl_r33_36 hS, pl_r33_38 hS, pl_r33_39 hS, pl_r33_40 hS, pl_r33_42 hS, pl_r33_43 hS, pl_r33_44 hS, pl_r33_45 hS, pl_r33_47 hS, hM.1.1, hM.1.2.1, hM.1.2.2.1, hM.1.2.2.2.1, hM.1.2.2.2.2.1, hM.1.2.2.2.2.2.1, hM.1.2.2.2.2.2.2.1, hM.1.2.2.2.2.2.2.2.1, nI_leI, Nat.le_refl, if_true, pl_tellM hS]
    generalize pl_hs A t n (pl_N A 0 6 0) = q at *
    obtain ⟨b, w, two⟩ := q
    simp only at i1 i2
    unfold pl_wt pl_wh
    simp only
    by_cases h99 : w = 99
    · simp only [h99, true_or, if_true]
    · have hw9 : w ≤ 9 := by omega
      cases two
      · simp (disch := omega) only [h99, false_or, Bool.false_eq_true, if_false, pl_n9, if_true]
      · simp (disch := omega) only [h99, or_true, if_true, if_false, pl_n9]
        rw [if_neg (by decide)]
theorem pl_op_heir (t n : Int32) : pl_Ok (fX10_heir 1 t n) (fX11_heir 33 t n) := by
  intro A m h
  have hS := h.1
  have hW := h.2.1
  have hw := hW.1
  unfold pl_Wc at hw
  have hC := h.2.2.2
  have hM := h.2.2.1
  rcases pl_rng1 t (pl_N A 0 1 0) (by omega) with ht | ⟨t, ht, rfl⟩
  · refine pl_Ok.same h (-1) ?_ ?_
    · simp [fX10_heir, ↓pl_let, pl_b1, pl_b2, ↓reduceIte, pl_k1 hS, pl_isTrk hS hW hC, ht]
    · simp [fX11_heir, ↓pl_let, pl_b1, pl_b2, ↓reduceIte, pl_k33 hS, pl_isTrkM hS hW hM, ht]
  have hrng := pl_rng1t ht (show pl_N A 0 1 0 < 2 ^ 30 by omega)
  by_cases hn : nI 1 ≤ n ∧ n ≤ nI 24
  · obtain ⟨n, hn24, rfl⟩ := (pl_rng (by decide)).mp ⟨Int32.le_trans (by decide) hn.1, hn.2⟩
    have h1 : 1 ≤ n := (nI_leI (by omega) (by omega)).mp hn.1
    have eC : fX10_heir 1 (nI t) (nI n) m = fX10_heir_29 ml_fu 1 (nI t) (nI n) 0 (-9) 0 m := by
      simp (disch := omega) only [fX10_heir, ↓pl_let, pl_b1, pl_b2, ↓reduceIte, pl_k1 hS, pl_isTrk hS hW hC, hrng, if_true, pl_l1, pl_l24, pl_within, nI_leI, h1, hn24, and_self, pl_eq0, Nat.reduceEqDiff, if_false]
    have eM : ∀ M, pl_Sh M → pl_M A M → fX11_heir 33 (nI t) (nI n) M = fX11_heir_32 ml_fu 33 (nI t) (nI n) (-9) 0 0 0 M := fun M hS hM => by
      simp (disch := omega) only [fX11_heir, ↓pl_let, pl_b1, pl_b2, ↓reduceIte, pl_k33 hS, pl_isTrkM hS hW hM, hrng, if_true, pl_l1, pl_l24, pl_inM, nI_leI, h1, hn24, and_self, pl_eq0, Nat.reduceEqDiff, if_false]
    have c1 := pl_heirC hS hW hC (t := t) (n := n) (by omega) ⟨h1, hn24⟩
    by_cases h9 : pl_wh (pl_hs A t n (pl_N A 0 6 0)) = -9
    · refine pl_Ok.same h (-9) ?_ ?_
      · rw [eC, c1, if_pos h9]
      · rw [eM m hS hM, pl_heirM hS hW hM (by omega) ⟨h1, hn24⟩, if_pos h9]
    · refine pl_Ok.tell h (pl_wh (pl_hs A t n (pl_N A 0 6 0))) (nI (pl_hs A t n (pl_N A 0 6 0)).1) ?_ fun M hS1 hM1 => ⟨_, pl_Ok.st hM1 ?_⟩
      · rw [eC, c1, if_neg h9]
      · rw [eM M hS1 hM1, pl_heirM hS1 hW hM1 (by omega) ⟨h1, hn24⟩, if_neg h9]
  · refine pl_Ok.same h (-1) ?_ ?_
    · simp (disch := omega) only [fX10_heir, ↓pl_let, pl_b1, pl_b2, ↓reduceIte, pl_k1 hS, pl_isTrk hS hW hC, hrng, if_true, pl_l1, pl_l24, pl_within, hn, if_false, pl_eq0, Nat.reduceEqDiff]
    · simp (disch := omega) only [fX11_heir, ↓pl_let, pl_b1, pl_b2, ↓reduceIte, pl_k33 hS, pl_isTrkM hS hW hM, hrng, if_true, pl_l1, pl_l24, pl_inM, hn, if_false, pl_eq0, Nat.reduceEqDiff]

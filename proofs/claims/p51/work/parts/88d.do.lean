/-! WHAT EACH CALL DOES to the state (where the law calls it): the class's half of whole's pairs of calls. -/
theorem pd_mk {α : Type} {c : ml_M → Option (α × ml_M)} {A B : pl_A} {m m1 : ml_M} {v : α} (hd : pl_Md A B m1) (h1 : c m = some (v, m1)) (hn : ml_n m1 ≤ ml_n m + 1000) (hs : ml_s m1 ≤ ml_s m + 14000) (hW : pl_W B) : ∃ m1, c m = some (v, m1) ∧ pd_C B m1 ∧ ml_n m1 ≤ ml_n m + 1000 ∧ ml_s m1 ≤ ml_s m + 14000 := ⟨m1, h1, ⟨hd.1, hW, hd.2.2.2⟩, hn, hs⟩
theorem pd_same {α : Type} {c : ml_M → Option (α × ml_M)} {A : pl_A} {m : ml_M} {v : α} (h : pl_Rel A m) (h1 : c m = some (v, m)) : ∃ m1, c m = some (v, m1) ∧ pd_C A m1 ∧ ml_n m1 ≤ ml_n m + 1000 ∧ ml_s m1 ≤ ml_s m + 14000 := pd_mk h.md h1 (Nat.le_add_right _ _) (Nat.le_add_right _ _) h.2.1
theorem pd_tell {α : Type} {c : ml_M → Option (α × ml_M)} {A : pl_A} {m : ml_M} {v : α} {x : Int32} (h : pl_Rel A m) (h1 : c m = some (v, ml_sI m 1 15 x)) : ∃ m1, c m = some (v, m1) ∧ pd_C (pl_tA A x) m1 ∧ ml_n m1 ≤ ml_n m + 1000 ∧ ml_s m1 ≤ ml_s m + 14000 := pd_mk (h.tC x) h1 (Nat.le_add_right _ _) (Nat.le_add_right _ _) (pl_tW h.2.1 x)
theorem pd_asked (A : pl_A) : pl_Dp (fX10_asked 1) A (pl_V A 3 0 0) := by
  intro m h
  have hS := h.1
  have h1 := h.2.2.2.1.2.2.2.2.2.2.1
  simp only [fX10_asked, pl_k1 hS, if_true, h1]
theorem pd_many (A : pl_A) : pl_Dp (fX10_many 1) A (pl_L A) := by
  intro m h
  have hS := h.1
  have h1 := h.2.2.2.1.2.2.2.2.2.2.2.1
  simp only [fX10_many, pl_k1 hS, if_true, h1]
theorem pd_may (A : pl_A) {i : Nat} (hl : i < pl_N A 0 3 0) : pl_Dp (fX10_may 1 (nI i)) A (nI (pl_own A i)) := by
  intro m h
  have hS := h.1
  have hw := h.2.1.1
  unfold pl_Wc at hw
  have hC := h.2.2.2
  obtain ⟨k1, k2, k3, k4, k5, k6, k7, k8, k9⟩ := pl_thg hC hl
  simp (disch := omega) [fX10_may, ↓pl_let, pl_b1, pl_b2, ↓reduceIte, pl_k1 hS, pl_k2 hS, pl_k3 hS, pl_k8 hS, pl_k9 hS, pl_k10 hS, pl_k11 hS, pl_k12 hS, pl_k13 hS, pl_k14 hS, pl_k15 hS, pl_k16 hS, pl_k17 hS, pl_k18 hS, pl_k19 hS, pl_k20 hS, pl_k21 hS, pl_k22 hS, pl_k23 hS, pl_k24 hS, pl_k25 hS, pl_k26 hS, pl_k27 hS, pl_k28 hS, pl_k29 hS, pl_k30 hS, pl_k31 hS, pl_k32 hS, pl_r1_0 hS, pl_r1_1 hS, pl_r1_4 hS, pl_r1_6 hS, pl_r1_8 hS, pl_r1_10 hS, pl_r1_12 hS, pl_r1_13 hS, pl_r1_14 hS, pl_r1_18 hS, pl_r12_2 hS, pl_r12_3 hS, pl_r12_4 hS, pl_r12_8 hS, pl_r12_9 hS, pl_r12_10 hS, pl_r12_11 hS, pl_r12_12 hS, pl_r21_3 hS, pl_r21_5 hS, pl_r21_6 hS, pl_r21_7 hS, pl_r26_0 hS, pl_r26_2 hS, pl_r26_3 hS, pl_r26_4 hS, pl_r26_5 hS, pl_isThg hS h.2.1 hC, pl_l1, pl_l2, pl_l3, pl_l4, pl_l5, pl_l6, pl_l7, pl_l8, pl_l9, pl_l10, pl_l11, pl_l12, pl_l13, pl_l14, pl_l15, pl_l16, pl_l17, pl_l18, pl_l19, pl_l20, pl_l21, pl_l22, pl_l23, pl_l24, pl_l25, pl_l26, pl_l27, pl_l28, pl_l29, pl_l30, pl_l31, pl_l32, pl_l33, pl_l34, pl_l35, pl_l36, pl_l37, pl_l38, pl_l39, pl_l40, pl_l41, pl_l42, pl_l43, pl_l44, pl_l45, pl_l46, pl_l47, pl_l48, pl_l49, pl_l50, pl_l51, pl_l52, pl_l53, pl_l54, pl_l55, pl_l56, pl_l57, pl_l58, pl_l59, pl_l60, pl_l61, pl_l62, pl_l63, pl_l64, pl_l99, pl_l100, pl_l119, pl_l120, pl_l255, pl_l256, pl_l999, pl_l1000, pl_l1023, pl_l1024, pl_l1111, pl_l5555, pl_l10240, pl_eq0, pl_le0, pl_lt0, pl_neg, pl_leN, pl_ltN, nI_leI, nI_ltI, nI_eq, nI_add, pk_mul, pl_sub, pk_div, pk_rem, nI_clamp, pl_in, pl_ofN, pl_shl1, pl_or, pl_and, pl_le1, pl_sz1, pl_within, pl_inM, pl_isRow, pl_isRowM, pl_isText, pl_isTextM, pl_leZ, pl_0eq, pl_0lt, pl_shl2, pl_shr2, pl_tcE, pl_tcN, pl_ne1, pl_rem3, hl, show i < 20 by omega, k1, k7]
theorem pd_joins (A : pl_A) {i j : Nat} (hi : i < pl_N A 0 5 0) (hj : j < pl_N A 0 5 0) : pl_Dp (fX10_joins 1 (nI i) (nI j)) A (if i = j then -1 else if pl_jn A i j then 1 else 0) := by
  intro m h
  have hS := h.1
  have hW := h.2.1
  have hw := hW.1
  unfold pl_Wc at hw
  have hC := h.2.2.2
  have hri := pl_rng1t hi (show pl_N A 0 5 0 < 2 ^ 30 by omega)
  have hrj := pl_rng1t hj (show pl_N A 0 5 0 < 2 ^ 30 by omega)
  by_cases hij : i = j
  · simp (disch := omega) only [fX10_joins, ↓pl_let, pl_b1, pl_b2, ↓reduceIte, pl_k1 hS, hC.1.1, hC.1.2.1, hC.1.2.2.1, hC.1.2.2.2.1, hC.1.2.2.2.2.1, pl_within, pl_l1, pl_le1, hri, hrj, if_false, if_true, pl_eq0, Nat.reduceEqDiff, hij]
  · have eC := pl_joinC hW hC.2.2.2.2.2.1 hi hj
    have kC := (hC.2.2.2.2.2.1.2 i hi).1.2.2
    simp (disch := omega) only [fX10_joins, ↓pl_let, pl_b1, pl_b2, ↓reduceIte, pl_k1 hS, pl_k2 hS, pl_k3 hS, pl_k8 hS, pl_k9 hS, pl_k10 hS, pl_k11 hS, pl_k12 hS, pl_k13 hS, pl_k14 hS, pl_k15 hS, pl_k16 hS, pl_k17 hS, pl_k18 hS, pl_k19 hS, pl_k20 hS, pl_k21 hS, pl_k22 hS, pl_k23 hS, pl_k24 hS, pl_k25 hS, pl_k26 hS, pl_k27 hS, pl_k28 hS, pl_k29 hS, pl_k30 hS, pl_k31 hS, pl_k32 hS, pl_r1_0 hS, pl_r1_1 hS, pl_r1_4 hS, pl_r1_6 hS, pl_r1_8 hS, pl_r1_10 hS, pl_r1_12 hS, pl_r1_13 hS, pl_r1_14 hS, pl_r1_18 hS, pl_r12_2 hS, pl_r12_3 hS, pl_r12_4 hS, pl_r12_8 hS, pl_r12_9 hS, pl_r12_10 hS, pl_r12_11 hS, pl_r12_12 hS, pl_r21_3 hS, pl_r21_5 hS, pl_r21_6 hS, pl_r21_7 hS, pl_r26_0 hS, pl_r26_2 hS, pl_r26_3 hS, pl_r26_4 hS, pl_r26_5 hS, hC.1.1, hC.1.2.1, hC.1.2.2.1, hC.1.2.2.2.1, hC.1.2.2.2.2.1, pl_within, pl_l1, pl_le1, hri, hrj, if_false, if_true, pl_eq0, Nat.reduceEqDiff, nI_eq, hij, pl_in, nI_clamp, show i < 10 by omega, show j < 10 by omega, and_self, kC, eC]
    by_cases h : pl_jn A i j = true
    · simp (disch := omega) only [h, if_true, pl_l1, pl_eq0, Nat.reduceEqDiff, if_false]
    · simp (disch := omega) only [h, if_true, if_false, Bool.false_eq_true]
theorem pd_at (A : pl_A) {r i n : Nat} (hr : r ≤ 5) (hn : pl_N A 8 r 0 = n + 1) (hi : i < n) : pl_Do (fX10_at 1 (nI r) (nI i)) A 1 (pl_tA A (pl_V A 0 r i)) := by
  intro m h
  have hS := h.1
  have hw := h.2.1.2.2.2.2.2.2.2.2.1 r (by omega)
  have hr5 : ¬ 5 < r := by omega
  have hr6 : r < 6 := by omega
  rcases h.2.2.2.2.1.get (r := r) (by omega) with ⟨h0, hR⟩ | ⟨n', h0, hR1, hR2, hR3, hK, hv⟩
  · omega
  · have : n' = n := by omega
    subst this
    refine pd_tell h ?_
    simp (disch := omega) [fX10_at, ↓pl_let, pl_b1, pl_b2, ↓reduceIte, pl_k1 hS, pl_k2 hS, pl_k3 hS, pl_k8 hS, pl_k9 hS, pl_k10 hS, pl_k11 hS, pl_k12 hS, pl_k13 hS, pl_k14 hS, pl_k15 hS, pl_k16 hS, pl_k17 hS, pl_k18 hS, pl_k19 hS, pl_k20 hS, pl_k21 hS, pl_k22 hS, pl_k23 hS, pl_k24 hS, pl_k25 hS, pl_k26 hS, pl_k27 hS, pl_k28 hS, pl_k29 hS, pl_k30 hS, pl_k31 hS, pl_k32 hS, pl_r1_0 hS, pl_r1_1 hS, pl_r1_4 hS, pl_r1_6 hS, pl_r1_8 hS, pl_r1_10 hS, pl_r1_12 hS, pl_r1_13 hS, pl_r1_14 hS, pl_r1_18 hS, pl_r12_2 hS, pl_r12_3 hS, pl_r12_4 hS, pl_r12_8 hS, pl_r12_9 hS, pl_r12_10 hS, pl_r12_11 hS, pl_r12_12 hS, pl_r21_3 hS, pl_r21_5 hS, pl_r21_6 hS, pl_r21_7 hS, pl_r26_0 hS, pl_r26_2 hS, pl_r26_3 hS, pl_r26_4 hS, pl_r26_5 hS, pl_l1, pl_l2, pl_l3, pl_l4, pl_l5, pl_l6, pl_l7, pl_l8, pl_l9, pl_l10, pl_l11, pl_l12, pl_l13, pl_l14, pl_l15, pl_l16, pl_l17, pl_l18, pl_l19, pl_l20, pl_l21, pl_l22, pl_l23, pl_l24, pl_l25, pl_l26, pl_l27, pl_l28, pl_l29, pl_l30, pl_l31, pl_l32, pl_l33, pl_l34, pl_l35, pl_l36, pl_l37, pl_l38, pl_l39, pl_l40, pl_l41, pl_l42, pl_l43, pl_l44, pl_l45, pl_l46, pl_l47, pl_l48, pl_l49, pl_l50, pl_l51, pl_l52, pl_l53, pl_l54, pl_l55, pl_l56, pl_l57, pl_l58, pl_l59, pl_l60, pl_l61, pl_l62, pl_l63, pl_l64, pl_l99, pl_l100, pl_l119, pl_l120, pl_l255, pl_l256, pl_l999, pl_l1000, pl_l1023, pl_l1024, pl_l1111, pl_l5555, pl_l10240, pl_eq0, pl_le0, pl_lt0, pl_neg, pl_leN, pl_ltN, nI_leI, nI_ltI, nI_eq, nI_add, pk_mul, pl_sub, pk_div, pk_rem, nI_clamp, pl_in, pl_ofN, pl_shl1, pl_or, pl_and, pl_le1, pl_sz1, pl_within, pl_inM, pl_isRow, pl_isRowM, pl_isText, pl_isTextM, hr5, hr6, pl_tell hS, hR3, hK, hi, hv i hi]
theorem pd_wear (A : pl_A) {w : Nat} (hw : w ≤ 4) : pl_Do (fX10_wear 1 (nI w)) A (nI (pl_N A 0 7 0)) (pl_sN A 0 7 0 w) := by
  intro m h
  have hS := h.1
  have hnr : pl_nr A (pl_sN A 0 7 0 w) := by
    refine ⟨fun g hg => ?_, fun j hj => ?_, fun g hg => rfl⟩
    · funext i k; rw [pl_N_sN, if_neg (by omega)]
    · rw [pl_N_sN, if_neg (by omega)]
  have hd : pl_Md A (pl_sN A 0 7 0 w) (ml_sI m 1 3 (nI w)) := by
    refine ⟨hS, h.2.1, ((pl_co.refl m).sI (by decide)).m h.2.2.1, hnr.C hS h.2.2.2 ((pl_ex.refl _ m).sI (by decide)) rfl ?_⟩
    have hb := h.2.2.2.1
    unfold pl_Cb at *
    simp only [pl_I_sI, pl_I_sR, pl_I_sJ, pl_I_al, pl_I_cp, pl_I_cl, pl_R_sI, pl_R_sR, pl_R_sJ, pl_R_al, pl_R_cp, pl_R_cl, pl_J_sI, pl_J_sR, pl_J_sJ, pl_J_al, pl_J_cp, pl_J_cl, pl_K_sI, pl_K_sR, pl_K_sJ, pl_K_al, pl_K_cp, pl_K_cl, pl_n_sI, pl_n_sR, pl_n_sJ, pl_n_al, pl_n_cp, pl_n_cl, pl_s_sI, pl_s_sR, pl_s_sJ, pl_s_al, pl_s_cp, pl_s_cl, pl_N_sN, pl_N_sV, pl_N_sVr, pl_N_sL, pl_V_sN, pl_V_sV, pl_V_sVr, pl_V_sL, pl_L_sN, pl_L_sV, pl_L_sVr, pl_L_sL]
    grind
  refine pd_mk hd ?_ (Nat.le_add_right _ _) (Nat.le_add_right _ _) (hnr.W h.2.1 ⟨hw, h.2.1.1.2.2.2.2.2.2.2.2⟩)
  simp (disch := omega) [fX10_wear, ↓pl_let, pl_b1, pl_b2, ↓reduceIte, pl_k1 hS, pl_k2 hS, pl_k3 hS, pl_k8 hS, pl_k9 hS, pl_k10 hS, pl_k11 hS, pl_k12 hS, pl_k13 hS, pl_k14 hS, pl_k15 hS, pl_k16 hS, pl_k17 hS, pl_k18 hS, pl_k19 hS, pl_k20 hS, pl_k21 hS, pl_k22 hS, pl_k23 hS, pl_k24 hS, pl_k25 hS, pl_k26 hS, pl_k27 hS, pl_k28 hS, pl_k29 hS, pl_k30 hS, pl_k31 hS, pl_k32 hS, pl_r1_0 hS, pl_r1_1 hS, pl_r1_4 hS, pl_r1_6 hS, pl_r1_8 hS, pl_r1_10 hS, pl_r1_12 hS, pl_r1_13 hS, pl_r1_14 hS, pl_r1_18 hS, pl_r12_2 hS, pl_r12_3 hS, pl_r12_4 hS, pl_r12_8 hS, pl_r12_9 hS, pl_r12_10 hS, pl_r12_11 hS, pl_r12_12 hS, pl_r21_3 hS, pl_r21_5 hS, pl_r21_6 hS, pl_r21_7 hS, pl_r26_0 hS, pl_r26_2 hS, pl_r26_3 hS, pl_r26_4 hS, pl_r26_5 hS, pl_l1, pl_l2, pl_l3, pl_l4, pl_l5, pl_l6, pl_l7, pl_l8, pl_l9, pl_l10, pl_l11, pl_l12, pl_l13, pl_l14, pl_l15, pl_l16, pl_l17, pl_l18, pl_l19, pl_l20, pl_l21, pl_l22, pl_l23, pl_l24, pl_l25, pl_l26, pl_l27, pl_l28, pl_l29, pl_l30, pl_l31, pl_l32, pl_l33, pl_l34, pl_l35, pl_l36, pl_l37, pl_l38, pl_l39, pl_l40, pl_l41, pl_l42, pl_l43, pl_l44, pl_l45, pl_l46, pl_l47, pl_l48, pl_l49, pl_l50, pl_l51, pl_l52, pl_l53, pl_l54, pl_l55, pl_l56, pl_l57, pl_l58, pl_l59, pl_l60, pl_l61, pl_l62, pl_l63, pl_l64, pl_l99, pl_l100, pl_l119, pl_l120, pl_l255, pl_l256, pl_l999, pl_l1000, pl_l1023, pl_l1024, pl_l1111, pl_l5555, pl_l10240, pl_eq0, pl_le0, pl_lt0, pl_neg, pl_leN, pl_ltN, nI_leI, nI_ltI, nI_eq, nI_add, pk_mul, pl_sub, pk_div, pk_rem, nI_clamp, pl_in, pl_ofN, pl_shl1, pl_or, pl_and, pl_le1, pl_sz1, pl_within, pl_inM, pl_isRow, pl_isRowM, pl_isText, pl_isTextM, h.2.2.2.1.1, show ¬ 4 < w by omega]
theorem pd_told (A : pl_A) {i k : Nat} (hl : i < pl_N A 0 3 0) (hk : k ≤ 4) : pl_Do (fX10_told 1 (nI i) (nI k)) A 1 (pl_tA A (pl_gf A i k)) := by
  intro m h
  have hS := h.1
  have hw := h.2.1.1
  unfold pl_Wc at hw
  have hC := h.2.2.2
  refine pd_tell h ?_
  simp (disch := omega) [fX10_told, ↓pl_let, pl_b1, pl_b2, ↓reduceIte, pl_k1 hS, pl_isThg hS h.2.1 hC, pl_l1, pl_l2, pl_l3, pl_l4, pl_l5, pl_l6, pl_l7, pl_l8, pl_l9, pl_l10, pl_l11, pl_l12, pl_l13, pl_l14, pl_l15, pl_l16, pl_l17, pl_l18, pl_l19, pl_l20, pl_l21, pl_l22, pl_l23, pl_l24, pl_l25, pl_l26, pl_l27, pl_l28, pl_l29, pl_l30, pl_l31, pl_l32, pl_l33, pl_l34, pl_l35, pl_l36, pl_l37, pl_l38, pl_l39, pl_l40, pl_l41, pl_l42, pl_l43, pl_l44, pl_l45, pl_l46, pl_l47, pl_l48, pl_l49, pl_l50, pl_l51, pl_l52, pl_l53, pl_l54, pl_l55, pl_l56, pl_l57, pl_l58, pl_l59, pl_l60, pl_l61, pl_l62, pl_l63, pl_l64, pl_l99, pl_l100, pl_l119, pl_l120, pl_l255, pl_l256, pl_l999, pl_l1000, pl_l1023, pl_l1024, pl_l1111, pl_l5555, pl_l10240, pl_eq0, pl_le0, pl_lt0, pl_neg, pl_leN, pl_ltN, nI_leI, nI_ltI, nI_eq, nI_add, pk_mul, pl_sub, pk_div, pk_rem, nI_clamp, pl_in, pl_ofN, pl_shl1, pl_or, pl_and, pl_le1, pl_sz1, pl_within, pl_inM, pl_isRow, pl_isRowM, pl_isText, pl_isTextM, pl_leZ, pl_0eq, pl_0lt, pl_shl2, pl_shr2, pl_tcE, pl_tcN, pl_ne1, pl_rem3, hl, show ¬ 4 < k by omega, pl_thgFact hS h.2.1 hC hl hk, pl_tell hS]
theorem pd_trunk (A : pl_A) {i k : Nat} (hl : i < pl_N A 0 1 0) (hk : k ≤ 3) : pl_Do (fX10_trunk 1 (nI i) (nI k)) A 1 (pl_tA A (nI (pl_tf A i k))) := by
  intro m h
  have hS := h.1
  have hw := h.2.1.1
  unfold pl_Wc at hw
  have hC := h.2.2.2
  refine pd_tell h ?_
  simp (disch := omega) [fX10_trunk, ↓pl_let, pl_b1, pl_b2, ↓reduceIte, pl_k1 hS, pl_isTrk hS h.2.1 hC, pl_l1, pl_l2, pl_l3, pl_l4, pl_l5, pl_l6, pl_l7, pl_l8, pl_l9, pl_l10, pl_l11, pl_l12, pl_l13, pl_l14, pl_l15, pl_l16, pl_l17, pl_l18, pl_l19, pl_l20, pl_l21, pl_l22, pl_l23, pl_l24, pl_l25, pl_l26, pl_l27, pl_l28, pl_l29, pl_l30, pl_l31, pl_l32, pl_l33, pl_l34, pl_l35, pl_l36, pl_l37, pl_l38, pl_l39, pl_l40, pl_l41, pl_l42, pl_l43, pl_l44, pl_l45, pl_l46, pl_l47, pl_l48, pl_l49, pl_l50, pl_l51, pl_l52, pl_l53, pl_l54, pl_l55, pl_l56, pl_l57, pl_l58, pl_l59, pl_l60, pl_l61, pl_l62, pl_l63, pl_l64, pl_l99, pl_l100, pl_l119, pl_l120, pl_l255, pl_l256, pl_l999, pl_l1000, pl_l1023, pl_l1024, pl_l1111, pl_l5555, pl_l10240, pl_eq0, pl_le0, pl_lt0, pl_neg, pl_leN, pl_ltN, nI_leI, nI_ltI, nI_eq, nI_add, pk_mul, pl_sub, pk_div, pk_rem, nI_clamp, pl_in, pl_ofN, pl_shl1, pl_or, pl_and, pl_le1, pl_sz1, pl_within, pl_inM, pl_isRow, pl_isRowM, pl_isText, pl_isTextM, pl_leZ, pl_0eq, pl_0lt, pl_shl2, pl_shr2, pl_tcE, pl_tcN, pl_ne1, pl_rem3, hl, show ¬ 3 < k by omega, pl_trkFact hS h.2.1 hC hl hk, pl_tell hS]
theorem pd_opens (A : pl_A) {i : Nat} (hi : i < pl_N A 0 3 0) (h5 : pl_N A 4 i 0 = 5) : pl_Do (fX10_opens 1 (nI i)) A (nI (pl_os A i)) A := by
  intro m h
  have hS := h.1
  have hW := h.2.1
  have hw := hW.1
  unfold pl_Wc at hw
  have hC := h.2.2.2
  have hrng := pl_rng1t hi (show pl_N A 0 3 0 < 2 ^ 30 by omega)
  obtain ⟨k1, k2, -⟩ := pl_thg hC hi
  have hkd := (hW.2.2.2.2.1 i hi).1
  refine pd_same h ?_
  simp (disch := omega) only [fX10_opens, ↓pl_let, pl_b1, pl_b2, ↓reduceIte, pl_k1 hS, pl_k2 hS, pl_k3 hS, pl_k8 hS, pl_k9 hS, pl_k10 hS, pl_k11 hS, pl_k12 hS, pl_k13 hS, pl_k14 hS, pl_k15 hS, pl_k16 hS, pl_k17 hS, pl_k18 hS, pl_k19 hS, pl_k20 hS, pl_k21 hS, pl_k22 hS, pl_k23 hS, pl_k24 hS, pl_k25 hS, pl_k26 hS, pl_k27 hS, pl_k28 hS, pl_k29 hS, pl_k30 hS, pl_k31 hS, pl_k32 hS, pl_r1_0 hS, pl_r1_1 hS, pl_r1_4 hS, pl_r1_6 hS, pl_r1_8 hS, pl_r1_10 hS, pl_r1_12 hS, pl_r1_13 hS, pl_r1_14 hS, pl_r1_18 hS, pl_r12_2 hS, pl_r12_3 hS, pl_r12_4 hS, pl_r12_8 hS, pl_r12_9 hS, pl_r12_10 hS, pl_r12_11 hS, pl_r12_12 hS, pl_r21_3 hS, pl_r21_5 hS, pl_r21_6 hS, pl_r21_7 hS, pl_r26_0 hS, pl_r26_2 hS, pl_r26_3 hS, pl_r26_4 hS, pl_r26_5 hS, pl_isThg hS hW hC, hrng, if_true, pl_l1, pl_eq0, Nat.reduceEqDiff, if_false, pl_in, nI_clamp, show i < 20 by omega, and_self, k1, k2, pl_l5, nI_eq, h5, pl_opened hS hW hC hi]
theorem pd_strange (A : pl_A) : pl_Do (fX10_strange 1) A (nI (pl_cnt (pl_sp A) (pl_N A 0 3 0))) (pl_tA A (pl_sf A (pl_N A 0 3 0))) := by
  intro m h
  have hS := h.1
  have hW := h.2.1
  have hw := hW.1
  unfold pl_Wc at hw
  have hC := h.2.2.2
  refine pd_tell h ?_
  · unfold fX10_strange
    refine pl_for (F := fun fu i g => fX10_strange_7 fu 1 (nI (pl_cnt (pl_sp A) i)) g (nI i) m) (R := some (nI (pl_cnt (pl_sp A) (pl_N A 0 3 0)), ml_sI m 1 15 (pl_sf A (pl_N A 0 3 0)))) (pl_N A 0 3 0) (pl_sf A) (fun fu i hi => ?_) (fun fu => ?_) ml_fu (by rw [pl_fu]; omega)
    · obtain ⟨k1, k2, k3, k4, k5, k6, k7, k8, k9⟩ := pl_thg hC hi
      have ho := pl_opened hS hW hC hi
      have hlt := pl_os_lt hW i
      have hb := pl_tcB hW hi
      have hkd := (hW.2.2.2.2.1 i hi).1
      have hcnt := pl_cnt_le (pl_sp A) i
      have h9 : (-9 : Int32) = - nI 9 := rfl
      rw [pl_sf1, pl_cnt1]
      simp (disch := omega) only [fX10_strange_7, ↓pl_let, pl_b1, pl_b2, ↓reduceIte, pl_k1 hS, pl_k2 hS, pl_k3 hS, pl_k8 hS, pl_k9 hS, pl_k10 hS, pl_k11 hS, pl_k12 hS, pl_k13 hS, pl_k14 hS, pl_k15 hS, pl_k16 hS, pl_k17 hS, pl_k18 hS, pl_k19 hS, pl_k20 hS, pl_k21 hS, pl_k22 hS, pl_k23 hS, pl_k24 hS, pl_k25 hS, pl_k26 hS, pl_k27 hS, pl_k28 hS, pl_k29 hS, pl_k30 hS, pl_k31 hS, pl_k32 hS, pl_r1_0 hS, pl_r1_1 hS, pl_r1_4 hS, pl_r1_6 hS, pl_r1_8 hS, pl_r1_10 hS, pl_r1_12 hS, pl_r1_13 hS, pl_r1_14 hS, pl_r1_18 hS, pl_r12_2 hS, pl_r12_3 hS, pl_r12_4 hS, pl_r12_8 hS, pl_r12_9 hS, pl_r12_10 hS, pl_r12_11 hS, pl_r12_12 hS, pl_r21_3 hS, pl_r21_5 hS, pl_r21_6 hS, pl_r21_7 hS, pl_r26_0 hS, pl_r26_2 hS, pl_r26_3 hS, pl_r26_4 hS, pl_r26_5 hS, hC.1.1, hC.1.2.1, hC.1.2.2.1, hC.1.2.2.2.1, hC.1.2.2.2.2.1, nI_leI, show ¬ pl_N A 0 3 0 ≤ i by omega, if_false, pl_in, nI_clamp, show i < 20 by omega, and_self, if_true, k1, k2, k8, pl_l5, nI_eq, h9, pl_tcN, ho, pl_eq0]
      by_cases h5 : pl_N A 4 i 0 = 5
      · by_cases h100 : pl_N A 4 i 3 = 100
        · have hp : pl_sp A i = false := decide_eq_false (fun z => z.2.1 h100)
          simp (disch := omega) only [h5, if_true, h100, fX10_strange_83, hp, Bool.false_eq_true, false_and, if_false, pl_l1, nI_add]
        · by_cases h0 : pl_os A i = 0
          · have hp : pl_sp A i = false := decide_eq_false (fun z => z.2.2.1 h0)
            simp (disch := omega) only [h5, if_true, h100, h0, fX10_strange_83, hp, Bool.false_eq_true, false_and, if_false, pl_l1, nI_add]
          · have htc : pl_tc (pl_N A 4 i 3) = nI (pl_N A 4 i 3) := by unfold pl_tc; rw [if_neg h100]
            have hh := (pl_has (s := pl_os A i) (t := pl_N A 4 i 3) (by omega) (by omega) m).1
            rw [htc]
            simp (disch := omega) only [h5, if_true, h100, h0, if_false, hh, pl_b1]
            by_cases ht : (pl_os A i).testBit (pl_N A 4 i 3) = true
            · have hp : pl_sp A i = false := decide_eq_false (fun z => by rw [ht] at z; exact absurd z.2.2.2 (by decide))
              simp (disch := omega) only [ht, if_true, pl_l1, pl_eq0, Nat.reduceEqDiff, if_false, fX10_strange_83, hp, Bool.false_eq_true, false_and, nI_add]
            · have ht : (pl_os A i).testBit (pl_N A 4 i 3) = false := by simpa using ht
              have hp : pl_sp A i = true := decide_eq_true ⟨h5, h100, h0, ht⟩
              by_cases hc : pl_cnt (pl_sp A) i = 0
              · simp (disch := omega) only [ht, Bool.false_eq_true, if_false, if_true, pl_eq0, hc, fX10_strange_80, fX10_strange_83, hp, and_self, pl_l1, nI_add]
              · simp (disch := omega) only [ht, Bool.false_eq_true, if_false, if_true, pl_eq0, hc, fX10_strange_80, fX10_strange_83, hp, and_false, pl_l1, nI_add]
      · have hp : pl_sp A i = false := decide_eq_false (fun z => h5 z.1)
        simp (disch := omega) only [h5, if_false, fX10_strange_83, hp, Bool.false_eq_true, false_and, pl_l1, nI_add]
    · simp (disch := omega) only [fX10_strange_7, fX10_strange_89, ↓pl_let, pl_b1, pl_b2, ↓reduceIte, pl_k1 hS, pl_k2 hS, pl_k3 hS, pl_k8 hS, pl_k9 hS, pl_k10 hS, pl_k11 hS, pl_k12 hS, pl_k13 hS, pl_k14 hS, pl_k15 hS, pl_k16 hS, pl_k17 hS, pl_k18 hS, pl_k19 hS, pl_k20 hS, pl_k21 hS, pl_k22 hS, pl_k23 hS, pl_k24 hS, pl_k25 hS, pl_k26 hS, pl_k27 hS, pl_k28 hS, pl_k29 hS, pl_k30 hS, pl_k31 hS, pl_k32 hS, pl_r1_0 hS, pl_r1_1 hS, pl_r1_4 hS, pl_r1_6 hS, pl_r1_8 hS, pl_r1_10 hS, pl_r1_12 hS, pl_r1_13 hS, pl_r1_14 hS, pl_r1_18 hS, pl_r12_2 hS, pl_r12_3 hS, pl_r12_4 hS, pl_r12_8 hS, pl_r12_9 hS, pl_r12_10 hS, pl_r12_11 hS, pl_r12_12 hS, pl_r21_3 hS, pl_r21_5 hS, pl_r21_6 hS, pl_r21_7 hS, pl_r26_0 hS, pl_r26_2 hS, pl_r26_3 hS, pl_r26_4 hS, pl_r26_5 hS, hC.1.1, hC.1.2.1, hC.1.2.2.1, hC.1.2.2.2.1, hC.1.2.2.2.2.1, nI_leI, Nat.le_refl, if_true]
theorem pd_water (A : pl_A) : if pl_lo A (pl_N A 0 3 0) ≤ pl_hi A (pl_N A 0 3 0) then pl_Do (fX10_water 1) A (nI (pl_lo A (pl_N A 0 3 0))) (pl_tA A (nI (pl_hi A (pl_N A 0 3 0)))) else pl_Do (fX10_water 1) A (-9) A := by
  by_cases hle : pl_lo A (pl_N A 0 3 0) ≤ pl_hi A (pl_N A 0 3 0)
  · rw [if_pos hle]
    intro m h
    have eC := pl_waterC h.1 h.2.1 h.2.2.2
    rw [if_pos hle] at eC
    exact pd_tell h eC
  · rw [if_neg hle]
    intro m h
    have eC := pl_waterC h.1 h.2.1 h.2.2.2
    rw [if_neg hle] at eC
    exact pd_same h eC
theorem pd_fewest (A : pl_A) : if pl_fb A (2 ^ pl_N A 0 0 0) = 999 then pl_Do (fX10_fewest 1) A (-3) (pl_fA A 4) else pl_Do (fX10_fewest 1) A (nI (pl_pc (pl_fb A (2 ^ pl_N A 0 0 0)))) (pl_tA A (nI (pl_fb A (2 ^ pl_N A 0 0 0)))) := by
  by_cases hle : pl_fb A (2 ^ pl_N A 0 0 0) = 999
  · rw [if_pos hle]
    intro m h
    have eC := pl_fewC h.1 h.2.1 h.2.2.2
    rw [if_pos hle] at eC
    exact pd_mk (h.fC 4 (by decide)) eC (Nat.le_add_right _ _) (Nat.le_add_right _ _) ((pl_nr.f A 4).W h.2.1 ⟨h.2.1.1.2.2.2.2.2.2.2.1, by simp [pl_fA, pl_N_sN, pl_N_sV, pl_N_sVr, pl_N_sL, pl_V_sN, pl_V_sV, pl_V_sVr, pl_V_sL, pl_L_sN, pl_L_sV, pl_L_sVr, pl_L_sL]⟩)
  · rw [if_neg hle]
    intro m h
    have eC := pl_fewC h.1 h.2.1 h.2.2.2
    rw [if_neg hle] at eC
    exact pd_tell h eC
theorem pd_piling (A : pl_A) {r : Nat} (hr : r < 6) : if pl_po A 0 = 0 then pl_Do (fX10_piling 1 (nI r)) A (-9) A else pl_Do (fX10_piling 1 (nI r)) A (nI (pl_po A 0)) (pl_rA A r (pl_N A 0 1 0 + 1) (pl_gk A (pl_N A 0 1 0))) := by
  by_cases h0 : pl_po A 0 = 0
  · rw [if_pos h0]
    intro m h
    obtain ⟨m1, e1, e2, e3, hd⟩ := (pl_pileC h hr).1 h0
    exact pd_mk hd e1 e2 e3 h.2.1
  · rw [if_neg h0]
    intro m h
    have hw := h.2.1.1.2.1
    obtain ⟨m1, e1, e2, e3, hd⟩ := (pl_pileC h hr).2 h0
    exact pd_mk hd e1 e2 e3 (pl_rW h.2.1 (by omega))
theorem pd_fits (A : pl_A) : pl_Do (fX10_fits 1) A (if pl_pr A (pl_N A 0 3 0) = 0 then 0 else 1) (pl_sL A (lN (pl_pr A (pl_N A 0 3 0)))) := by
  intro m h
  have hS := h.1
  have hW := h.2.1
  have hw := hW.1
  unfold pl_Wc at hw
  have hC := h.2.2.2
  have hb := pl_pr_b A (show pl_N A 0 3 0 ≤ 20 by omega)
  have hnr : pl_nr A (pl_sL A (lN (pl_pr A (pl_N A 0 3 0)))) := ⟨fun g _ => rfl, fun j _ => rfl, fun g _ => rfl⟩
  have hd : pl_Md A (pl_sL A (lN (pl_pr A (pl_N A 0 3 0)))) (ml_sJ m 1 16 (lN (pl_pr A (pl_N A 0 3 0)))) := by
    refine ⟨hS, hW, ((pl_co.refl m).sJ (by decide)).m h.2.2.1, hnr.C hS hC (pl_ex.refl _ m).sJ rfl ?_⟩
    obtain ⟨b1, b2, b3, b4, b5, b6, b7, b8, b9⟩ := hC.1
    refine ⟨b1, b2, b3, b4, b5, b6, b7, ?_, b9⟩
    rw [pl_J_sJ, if_pos ⟨rfl, rfl⟩, pl_L_sL]
  refine pd_mk hd ?_ (Nat.le_add_right _ _) (Nat.le_add_right _ _) (hnr.W hW ⟨hW.1.2.2.2.2.2.2.2.1, hW.1.2.2.2.2.2.2.2.2⟩)
  · have hl := pl_for (F := fun fu i g => fX10_fits_4 fu 1 (lN g) (nI i) m) (R := some (if pl_pr A (pl_N A 0 3 0) = 0 then 0 else 1, ml_sJ m 1 16 (lN (pl_pr A (pl_N A 0 3 0))))) (pl_N A 0 3 0) (pl_pr A) (fun fu i hi => ?_) (fun fu => ?_) ml_fu (by rw [pl_fu]; omega)
    · exact hl
    · obtain ⟨k1, k2, k3, k4, k5, k6, k7, k8, k9⟩ := pl_thg hC hi
      have hpc := pl_pc_le (pl_own A i)
      simp (disch := omega) only [fX10_fits_4, ↓pl_let, pl_b1, pl_b2, ↓reduceIte, pl_k1 hS, pl_k2 hS, pl_k3 hS, pl_k8 hS, pl_k9 hS, pl_k10 hS, pl_k11 hS, pl_k12 hS, pl_k13 hS, pl_k14 hS, pl_k15 hS, pl_k16 hS, pl_k17 hS, pl_k18 hS, pl_k19 hS, pl_k20 hS, pl_k21 hS, pl_k22 hS, pl_k23 hS, pl_k24 hS, pl_k25 hS, pl_k26 hS, pl_k27 hS, pl_k28 hS, pl_k29 hS, pl_k30 hS, pl_k31 hS, pl_k32 hS, pl_r1_0 hS, pl_r1_1 hS, pl_r1_4 hS, pl_r1_6 hS, pl_r1_8 hS, pl_r1_10 hS, pl_r1_12 hS, pl_r1_13 hS, pl_r1_14 hS, pl_r1_18 hS, pl_r12_2 hS, pl_r12_3 hS, pl_r12_4 hS, pl_r12_8 hS, pl_r12_9 hS, pl_r12_10 hS, pl_r12_11 hS, pl_r12_12 hS, pl_r21_3 hS, pl_r21_5 hS, pl_r21_6 hS, pl_r21_7 hS, pl_r26_0 hS, pl_r26_2 hS, pl_r26_3 hS, pl_r26_4 hS, pl_r26_5 hS, hC.1.1, hC.1.2.1, hC.1.2.2.1, hC.1.2.2.2.1, hC.1.2.2.2.2.1, nI_leI, show ¬ pl_N A 0 3 0 ≤ i by omega, if_false, pl_in, nI_clamp, show i < 20 by omega, and_self, if_true, k1, k7, pl_bitC (pl_own_lt hW i), nI_l, lN_mul, pl_l1, nI_add]
      rfl
    · simp (disch := omega) only [fX10_fits_4, fX10_fits_34, ↓pl_let, pl_b1, pl_b2, ↓reduceIte, pl_k1 hS, pl_k2 hS, pl_k3 hS, pl_k8 hS, pl_k9 hS, pl_k10 hS, pl_k11 hS, pl_k12 hS, pl_k13 hS, pl_k14 hS, pl_k15 hS, pl_k16 hS, pl_k17 hS, pl_k18 hS, pl_k19 hS, pl_k20 hS, pl_k21 hS, pl_k22 hS, pl_k23 hS, pl_k24 hS, pl_k25 hS, pl_k26 hS, pl_k27 hS, pl_k28 hS, pl_k29 hS, pl_k30 hS, pl_k31 hS, pl_k32 hS, pl_r1_0 hS, pl_r1_1 hS, pl_r1_4 hS, pl_r1_6 hS, pl_r1_8 hS, pl_r1_10 hS, pl_r1_12 hS, pl_r1_13 hS, pl_r1_14 hS, pl_r1_18 hS, pl_r12_2 hS, pl_r12_3 hS, pl_r12_4 hS, pl_r12_8 hS, pl_r12_9 hS, pl_r12_10 hS, pl_r12_11 hS, pl_r12_12 hS, pl_r21_3 hS, pl_r21_5 hS, pl_r21_6 hS, pl_r21_7 hS, pl_r26_0 hS, pl_r26_2 hS, pl_r26_3 hS, pl_r26_4 hS, pl_r26_5 hS, hC.1.1, hC.1.2.1, hC.1.2.2.1, hC.1.2.2.2.1, hC.1.2.2.2.2.1, nI_leI, Nat.le_refl, if_true, (pl_lg0 (show pl_pr A (pl_N A 0 3 0) < 2 ^ 63 by omega)).1]
      split <;> rfl
theorem pd_text (A : pl_A) {r n : Nat} (hr6 : r < 4) (hn : n ≤ 120) : pl_Do (fX10_text 1 (nI r) (nI n)) A (nI n) (pl_xA A r (n + 1) (fun _ => (32 : Int32).toInt8.toInt32)) := by
  intro m h
  have hS := h.1
  have hn60 := hS.2.2
  have hr5 : ¬ 3 < r := by omega
  have hd : pl_Md A (pl_xA A r (n + 1) (fun _ => (32 : Int32).toInt8.toInt32)) (ml_sR (pl_wI (ml_al m 21 n n) (ml_n m + 1) (pl_fv (ml_al m 21 n n) (ml_n m + 1) (32 : Int32).toInt8.toInt32 n)) 3 r (ml_n m + 1)) := by
    have hnew : ml_R (ml_sR (pl_wI (ml_al m 21 n n) (ml_n m + 1) (pl_fv (ml_al m 21 n n) (ml_n m + 1) (32 : Int32).toInt8.toInt32 n)) 3 r (ml_n m + 1)) 3 r = ml_n m + 1 := by rw [pl_R_sR, if_pos ⟨rfl, rfl⟩]
    refine h.xC (b := 0) hr6 (Or.inl rfl) (((pl_ex.refl _ m).al.wI (Or.inr (by omega))).sR (by simp)) ((((pl_co.refl m).al hn60).wI (by omega)).sR) ?_ (fun q _ hq => ?_) (Or.inr ⟨by omega, ?_, fun j hj => ?_⟩) (Or.inr (Or.inr ?_))
    · rw [pl_J_sR, pl_J_wI, pl_J_al, if_neg (by omega)]
    · rw [pl_R_sR, if_neg (by omega), pl_R_wI, pl_R_alo (by omega)]
    · rw [hnew]
      exact ⟨by omega, by rw [pl_n_sR, pl_n_wI, pl_n_al]; exact Nat.le_refl _, by rw [pl_K_sR, pl_K_wI, pl_K_aln]; rfl⟩
    · rw [hnew, pl_I_sR, pl_I_wI, if_pos rfl, pl_fv, if_pos (by omega)]
    · rw [hnew]; omega
  have hSa := hS.al 21 n n
  refine pd_mk hd ?_ (by show ml_n m + 1 ≤ _; omega) (by show ml_s m + n ≤ _; omega) (pl_xW h.2.1 (by omega) (fun j _ => ⟨_, rfl⟩))
  have hf := pl_fillB (m := ml_al m 21 n n) (a := ml_n m + 1) 32 (pl_K_aln m 21 n n) (by omega)
  simp only [pl_l1, pl_l2, pl_l3, pl_l4, pl_l5, pl_l6, pl_l7, pl_l8, pl_l9, pl_l10, pl_l11, pl_l12, pl_l13, pl_l14, pl_l15, pl_l16, pl_l17, pl_l18, pl_l19, pl_l20, pl_l21, pl_l22, pl_l23, pl_l24, pl_l25, pl_l26, pl_l27, pl_l28, pl_l29, pl_l30, pl_l31, pl_l32, pl_l33, pl_l34, pl_l35, pl_l36, pl_l37, pl_l38, pl_l39, pl_l40, pl_l41, pl_l42, pl_l43, pl_l44, pl_l45, pl_l46, pl_l47, pl_l48, pl_l49, pl_l50, pl_l51, pl_l52, pl_l53, pl_l54, pl_l55, pl_l56, pl_l57, pl_l58, pl_l59, pl_l60, pl_l61, pl_l62, pl_l63, pl_l64, pl_l99, pl_l100, pl_l119, pl_l120, pl_l255, pl_l256, pl_l999, pl_l1000, pl_l1023, pl_l1024, pl_l1111, pl_l5555, pl_l10240] at hf ⊢
  simp (disch := omega) [fX10_text, ↓pl_let, pl_b1, pl_b2, ↓reduceIte, pl_k1 hS, pl_k2 hS, pl_k3 hS, pl_k8 hS, pl_k9 hS, pl_k10 hS, pl_k11 hS, pl_k12 hS, pl_k13 hS, pl_k14 hS, pl_k15 hS, pl_k16 hS, pl_k17 hS, pl_k18 hS, pl_k19 hS, pl_k20 hS, pl_k21 hS, pl_k22 hS, pl_k23 hS, pl_k24 hS, pl_k25 hS, pl_k26 hS, pl_k27 hS, pl_k28 hS, pl_k29 hS, pl_k30 hS, pl_k31 hS, pl_k32 hS, pl_r1_0 hS, pl_r1_1 hS, pl_r1_4 hS, pl_r1_6 hS, pl_r1_8 hS, pl_r1_10 hS, pl_r1_12 hS, pl_r1_13 hS, pl_r1_14 hS, pl_r1_18 hS, pl_r12_2 hS, pl_r12_3 hS, pl_r12_4 hS, pl_r12_8 hS, pl_r12_9 hS, pl_r12_10 hS, pl_r12_11 hS, pl_r12_12 hS, pl_r21_3 hS, pl_r21_5 hS, pl_r21_6 hS, pl_r21_7 hS, pl_r26_0 hS, pl_r26_2 hS, pl_r26_3 hS, pl_r26_4 hS, pl_r26_5 hS, pl_l1, pl_l2, pl_l3, pl_l4, pl_l5, pl_l6, pl_l7, pl_l8, pl_l9, pl_l10, pl_l11, pl_l12, pl_l13, pl_l14, pl_l15, pl_l16, pl_l17, pl_l18, pl_l19, pl_l20, pl_l21, pl_l22, pl_l23, pl_l24, pl_l25, pl_l26, pl_l27, pl_l28, pl_l29, pl_l30, pl_l31, pl_l32, pl_l33, pl_l34, pl_l35, pl_l36, pl_l37, pl_l38, pl_l39, pl_l40, pl_l41, pl_l42, pl_l43, pl_l44, pl_l45, pl_l46, pl_l47, pl_l48, pl_l49, pl_l50, pl_l51, pl_l52, pl_l53, pl_l54, pl_l55, pl_l56, pl_l57, pl_l58, pl_l59, pl_l60, pl_l61, pl_l62, pl_l63, pl_l64, pl_l99, pl_l100, pl_l119, pl_l120, pl_l255, pl_l256, pl_l999, pl_l1000, pl_l1023, pl_l1024, pl_l1111, pl_l5555, pl_l10240, pl_eq0, pl_le0, pl_lt0, pl_neg, pl_leN, pl_ltN, nI_leI, nI_ltI, nI_eq, nI_add, pk_mul, pl_sub, pk_div, pk_rem, nI_clamp, pl_in, pl_ofN, pl_shl1, pl_or, pl_and, pl_le1, pl_sz1, pl_within, pl_inM, pl_isRow, pl_isRowM, pl_isText, pl_isTextM, pl_I_sI, pl_I_sR, pl_I_sJ, pl_I_alo, pl_I_aln, pl_R_sI, pl_R_sR, pl_R_sJ, pl_R_alo, pl_R_aln, pl_J_sI, pl_J_sR, pl_J_sJ, pl_K_sI, pl_K_sR, pl_K_sJ, pl_K_alo, pl_K_aln, pl_n_sI, pl_n_sR, pl_n_sJ, pl_n_al, pl_n_cp, pl_n_cl, pl_s_sI, pl_s_sR, pl_s_sJ, pl_s_al, pl_s_cp, pl_s_cl, pl_I_wI, pl_R_wI, pl_J_wI, pl_K_wI, pl_n_wI, pl_s_wI, pl_wI_sI, hr5, hr6, hf, show n ≤ 120 by omega, show n ≤ 20000 by omega]
theorem pd_put (A : pl_A) {r i n : Nat} (hr6 : r < 4) (hN : pl_N A 9 r 0 = n + 1) (hi : i < n) (v : Int32) : pl_Do (fX10_put 1 (nI r) (nI i) v) A (nI 1000 + pl_V A 1 r i) (pl_xA A r (n + 1) fun j => if j = i then v.toInt8.toInt32 else pl_V A 1 r j) := by
  intro m h
  have hS := h.1
  have hw := h.2.1.2.2.2.2.2.2.2.2.2.1 r (by omega)
  have hr5 : ¬ 3 < r := by omega
  rcases h.2.2.2.2.2.1.get (r := r) (by omega) with ⟨h0, hR⟩ | ⟨n', h0, hR1, hR2, hR3, hK, hv⟩
  · omega
  have : n = n' := by omega
  subst this
  have hd : pl_Md A (pl_xA A r (n + 1) fun j => if j = i then v.toInt8.toInt32 else pl_V A 1 r j) (ml_sI m (ml_R m 3 r) i v.toInt8.toInt32) := by
    refine h.xC (b := ml_R m 3 r) hr6 (Or.inr rfl) ((pl_ex.refl _ m).sI (by simp)) ((pl_co.refl m).sI (Or.inr hR1)) rfl (fun _ _ _ => rfl) (Or.inr ⟨by omega, ⟨hR1, hR2, hK⟩, fun j hj => ?_⟩) (Or.inr (Or.inl rfl))
    rw [pl_I_sI, pl_R_sI, hv j (by omega)]
    by_cases hji : j = i
    · rw [if_pos ⟨rfl, hji⟩, if_pos hji]
    · rw [if_neg (fun z => hji z.2), if_neg hji]
  have hW : pl_W (pl_xA A r (n + 1) fun j => if j = i then v.toInt8.toInt32 else pl_V A 1 r j) := pl_xW h.2.1 (by omega) (fun j hj => by
    show pl_by (if j = i then _ else _)
    by_cases hji : j = i
    · rw [if_pos hji]; exact ⟨_, rfl⟩
    · rw [if_neg hji]; exact h.2.1.2.2.2.2.2.2.2.2.2.2 r j hr6 (by omega))
  have hrun : fX10_put 1 (nI r) (nI i) v m = some (nI 1000 + pl_V A 1 r i, ml_sI m (ml_R m 3 r) i v.toInt8.toInt32) := by
    obtain ⟨z, hz⟩ : ∃ z, v.toInt8.toInt32 = z := ⟨_, rfl⟩
    have hzz : z.toInt8.toInt32 = z := by rw [← hz]; simp
    rw [hz]
    simp (disch := omega) [fX10_put, ↓pl_let, pl_b1, pl_b2, ↓reduceIte, pl_k1 hS, pl_k2 hS, pl_k3 hS, pl_k8 hS, pl_k9 hS, pl_k10 hS, pl_k11 hS, pl_k12 hS, pl_k13 hS, pl_k14 hS, pl_k15 hS, pl_k16 hS, pl_k17 hS, pl_k18 hS, pl_k19 hS, pl_k20 hS, pl_k21 hS, pl_k22 hS, pl_k23 hS, pl_k24 hS, pl_k25 hS, pl_k26 hS, pl_k27 hS, pl_k28 hS, pl_k29 hS, pl_k30 hS, pl_k31 hS, pl_k32 hS, pl_r1_0 hS, pl_r1_1 hS, pl_r1_4 hS, pl_r1_6 hS, pl_r1_8 hS, pl_r1_10 hS, pl_r1_12 hS, pl_r1_13 hS, pl_r1_14 hS, pl_r1_18 hS, pl_r12_2 hS, pl_r12_3 hS, pl_r12_4 hS, pl_r12_8 hS, pl_r12_9 hS, pl_r12_10 hS, pl_r12_11 hS, pl_r12_12 hS, pl_r21_3 hS, pl_r21_5 hS, pl_r21_6 hS, pl_r21_7 hS, pl_r26_0 hS, pl_r26_2 hS, pl_r26_3 hS, pl_r26_4 hS, pl_r26_5 hS, pl_l1, pl_l2, pl_l3, pl_l4, pl_l5, pl_l6, pl_l7, pl_l8, pl_l9, pl_l10, pl_l11, pl_l12, pl_l13, pl_l14, pl_l15, pl_l16, pl_l17, pl_l18, pl_l19, pl_l20, pl_l21, pl_l22, pl_l23, pl_l24, pl_l25, pl_l26, pl_l27, pl_l28, pl_l29, pl_l30, pl_l31, pl_l32, pl_l33, pl_l34, pl_l35, pl_l36, pl_l37, pl_l38, pl_l39, pl_l40, pl_l41, pl_l42, pl_l43, pl_l44, pl_l45, pl_l46, pl_l47, pl_l48, pl_l49, pl_l50, pl_l51, pl_l52, pl_l53, pl_l54, pl_l55, pl_l56, pl_l57, pl_l58, pl_l59, pl_l60, pl_l61, pl_l62, pl_l63, pl_l64, pl_l99, pl_l100, pl_l119, pl_l120, pl_l255, pl_l256, pl_l999, pl_l1000, pl_l1023, pl_l1024, pl_l1111, pl_l5555, pl_l10240, pl_eq0, pl_le0, pl_lt0, pl_neg, pl_leN, pl_ltN, nI_leI, nI_ltI, nI_eq, nI_add, pk_mul, pl_sub, pk_div, pk_rem, nI_clamp, pl_in, pl_ofN, pl_shl1, pl_or, pl_and, pl_le1, pl_sz1, pl_within, pl_inM, pl_isRow, pl_isRowM, pl_isText, pl_isTextM, hr5, hr6, hR3, hK, hi, hv i hi, hz, hzz]
  exact pd_mk hd hrun (Nat.le_add_right _ _) (Nat.le_add_right _ _) hW
theorem pd_lies (A : pl_A) {i c w : Nat} (hi : i < pl_N A 0 3 0) (hc : c = 100 ∨ c < pl_N A 0 1 0) (hw1 : w ≤ 1) : pl_Do (fX10_lies 1 (nI i) (pl_tc c) (nI w)) A 1 (pl_iA A i c w) := by
  intro m h
  have hS := h.1
  have hw := h.2.1.1
  unfold pl_Wc at hw
  have hC := h.2.2.2
  have hn60 := hS.2.2
  have hdy := (hC.2.2.2.2.1.1 i hi).1
  have htc : pl_tc c = -9 ∨ (0 ≤ pl_tc c ∧ pl_tc c < nI (pl_N A 0 1 0)) := by
    rcases hc with rfl | hc
    · exact Or.inl rfl
    · refine Or.inr ?_
      unfold pl_tc
      rw [if_neg (by omega)]
      exact of_eq_true (pl_rng1t hc (by omega))
  have hrng := pl_rng1t hi (show pl_N A 0 3 0 < 2 ^ 30 by omega)
  have hw01 : nI w = 0 ∨ nI w = 1 := by
    rcases (show w = 0 ∨ w = 1 by omega) with rfl | rfl
    · exact Or.inl rfl
    · exact Or.inr rfl
  refine pd_mk (v := (1 : Int32)) (pl_iC_md h (t := c) (w := w) hi) ?_ (Nat.le_add_right _ _) (Nat.le_add_right _ _) (pl_iW h.2.1 hi hc hw1)
  · have e : fX10_lies_26 1 (nI i) (pl_tc c) (nI w) m = some (1, pl_iC m i c w) := by
      have hw8 := hdy.2.2
      simp (disch := omega) [fX10_lies_26, ↓pl_let, pl_b1, pl_b2, ↓reduceIte, pl_k1 hS, pl_k2 hS, pl_k3 hS, pl_k8 hS, pl_k9 hS, pl_k10 hS, pl_k11 hS, pl_k12 hS, pl_k13 hS, pl_k14 hS, pl_k15 hS, pl_k16 hS, pl_k17 hS, pl_k18 hS, pl_k19 hS, pl_k20 hS, pl_k21 hS, pl_k22 hS, pl_k23 hS, pl_k24 hS, pl_k25 hS, pl_k26 hS, pl_k27 hS, pl_k28 hS, pl_k29 hS, pl_k30 hS, pl_k31 hS, pl_k32 hS, pl_r1_0 hS, pl_r1_1 hS, pl_r1_4 hS, pl_r1_6 hS, pl_r1_8 hS, pl_r1_10 hS, pl_r1_12 hS, pl_r1_13 hS, pl_r1_14 hS, pl_r1_18 hS, pl_r12_2 hS, pl_r12_3 hS, pl_r12_4 hS, pl_r12_8 hS, pl_r12_9 hS, pl_r12_10 hS, pl_r12_11 hS, pl_r12_12 hS, pl_r21_3 hS, pl_r21_5 hS, pl_r21_6 hS, pl_r21_7 hS, pl_r26_0 hS, pl_r26_2 hS, pl_r26_3 hS, pl_r26_4 hS, pl_r26_5 hS, pl_I_sI, pl_I_sR, pl_I_sJ, pl_I_al, pl_I_cp, pl_I_cl, pl_R_sI, pl_R_sR, pl_R_sJ, pl_R_al, pl_R_cp, pl_R_cl, pl_J_sI, pl_J_sR, pl_J_sJ, pl_J_al, pl_J_cp, pl_J_cl, pl_K_sI, pl_K_sR, pl_K_sJ, pl_K_al, pl_K_cp, pl_K_cl, pl_n_sI, pl_n_sR, pl_n_sJ, pl_n_al, pl_n_cp, pl_n_cl, pl_s_sI, pl_s_sR, pl_s_sJ, pl_s_al, pl_s_cp, pl_s_cl, pl_in, nI_clamp, show i < 20 by omega, hw8]
      exact ⟨hw01, by rfl⟩
    rcases htc with h9 | h9
    · simp only [fX10_lies, ↓pl_let, pl_b1, pl_b2, ↓reduceIte, pl_k1 hS, pl_isThg hS h.2.1 hC, hrng, h9, if_true]
      rw [if_neg (by decide), ← h9]
      exact e
    · by_cases h90 : pl_tc c = -9
      · simp only [fX10_lies, ↓pl_let, pl_b1, pl_b2, ↓reduceIte, pl_k1 hS, pl_isThg hS h.2.1 hC, hrng, h90, if_true]
        rw [if_neg (by decide), ← h90]
        exact e
      · simp only [fX10_lies, ↓pl_let, pl_b1, pl_b2, ↓reduceIte, pl_k1 hS, pl_isThg hS h.2.1 hC, pl_isTrk hS h.2.1 hC, hrng, h90, h9, if_true, if_false, and_self]
        rw [if_neg (by decide), if_neg (by decide)]
        exact e
theorem pd_ways (A : pl_A) {n : Nat} (hn : n ≤ 20) : pl_Do (fX10_ways 1 (nI n)) A (nI (pl_of A n).length) A := by
  intro m h
  have hS := h.1
  have hW := h.2.1
  have e20 : (20 : Int32) = nI 20 := rfl
  have hyes : 0 ≤ nI n ∧ nI n ≤ nI 20 := ⟨nI_pos' (by omega), nI_le hn (by decide)⟩
  obtain ⟨m1, c1, c2, c3, c4, c5⟩ := pl_refrS h
  have hS1 := c2.1
  have hr := pl_CsR c2 c5
  have h14 := (hr.2.2.2.2.2.1 n hn).1
  have hC1 : fX10_ways 1 (nI n) m = some (nI (pl_of A n).length, m1) := by
    simp (disch := omega) only [fX10_ways, ↓pl_let, pl_b1, pl_b2, ↓reduceIte, e20, pl_within, hyes, and_self, if_true, pl_10, if_false, pl_k1 hS, c1, pl_k1 hS1, pl_r1_12 hS1, pl_k12 hS1, pl_r12_3 hS1, pl_in, nI_clamp, pl_k14 hS1, show n < 21 by omega, h14]
  exact pd_mk c2.md hC1 (by omega) (by omega) hW
theorem pd_whose (A : pl_A) {t n : Nat} (ht : t < pl_N A 0 1 0) (hn : n ≤ 20) : pl_Do (fX10_whose 1 (nI t) (nI n)) A (nI (pl_set (fun l => decide (0 < pl_cw A n t l)) (pl_N A 0 0 0))) A := by
  intro m h
  have hS := h.1
  have hW := h.2.1
  have hC := h.2.2.2
  have hww := hW.1
  unfold pl_Wc at hww
  have e20 : (20 : Int32) = nI 20 := rfl
  have itC := fun v => pl_isTrk hS hW hC v
  have hyt : 0 ≤ nI t ∧ nI t < nI (pl_N A 0 1 0) := ⟨nI_pos' (by omega), nI_lt ht (by omega)⟩
  have hyes : 0 ≤ nI n ∧ nI n ≤ nI 20 := ⟨nI_pos' (by omega), nI_le hn (by decide)⟩
  obtain ⟨m1, c1, c2, c3, c4, c5⟩ := pl_refrS h
  have hS1 := c2.1
  have hCh := c2.2.2.2.2.2.2.1
  have z1 := hCh.1.2.2
  have z2 := hCh.2.2.2.1
  have e1 : (1 : Int32) = nI 1 := rfl
  have hloop := pl_for (F := fun fu l (_ : Unit) => fX10_whose_29 fu 1 (nI t) (nI n) (nI (pl_set (fun l => decide (0 < pl_cw A n t l)) l)) (nI l) m1) (R := some (nI (pl_set (fun l => decide (0 < pl_cw A n t l)) (pl_N A 0 0 0)), m1)) (pl_N A 0 0 0) (fun _ => ()) (fun fu l hl => ?_) (fun fu => ?_) ml_fu (by rw [pl_fu]; omega)
  · have hC1 : fX10_whose 1 (nI t) (nI n) m = some (nI (pl_set (fun l => decide (0 < pl_cw A n t l)) (pl_N A 0 0 0)), m1) := by
      have hl' : fX10_whose_29 ml_fu 1 (nI t) (nI n) 0 0 m1 = some (nI (pl_set (fun l => decide (0 < pl_cw A n t l)) (pl_N A 0 0 0)), m1) := hloop
      rw [← hl']
      simp (disch := omega) only [fX10_whose, ↓pl_let, pl_b1, pl_b2, ↓reduceIte, pl_k1 hS, if_true, itC, hyt, and_self, pl_10, if_false, e20, pl_within, hyes, c1]
    exact pd_mk c2.md hC1 (by omega) (by omega) hW
  · show fX10_whose_29 (fu + 1) 1 (nI t) (nI n) (nI (pl_set (fun l => decide (0 < pl_cw A n t l)) l)) (nI l) m1 = fX10_whose_29 fu 1 (nI t) (nI n) (nI (pl_set (fun l => decide (0 < pl_cw A n t l)) (l + 1))) (nI (l + 1)) m1
    have hp := pl_pairC c2 c5 hn ht hl
    have hb := pl_cw_le hW n t l
    have hor : ∀ s, nI s ||| (1 : Int32) <<< (nI l &&& 31) = nI (s ||| 2 ^ l) := fun s => by rw [pl_shl1 (by omega), pl_or]
    rw [pl_set1]
    by_cases c : pl_cw A n t l = 0
    · rw [if_neg (by simp [c])]
      simp (disch := omega) only [fX10_whose_29, fX10_whose_62, ↓pl_let, pl_b1, pl_b2, ↓reduceIte, pl_k1 hS1, if_true, z1, z2, nI_leI, show ¬ pl_N A 0 0 0 ≤ l by omega, if_false, pl_r1_12 hS1, pl_k12 hS1, hp, pl_leZ, eq_true c, nI_1]
    · rw [if_pos (by simp; omega)]
      simp (disch := omega) only [fX10_whose_29, fX10_whose_62, ↓pl_let, pl_b1, pl_b2, ↓reduceIte, pl_k1 hS1, if_true, z1, z2, nI_leI, show ¬ pl_N A 0 0 0 ≤ l by omega, if_false, pl_r1_12 hS1, pl_k12 hS1, hp, pl_leZ, c, hor, nI_1]
  · simp (disch := omega) only [fX10_whose_29, ↓pl_let, pl_b1, pl_b2, ↓reduceIte, pl_k1 hS1, if_true, z1, z2, nI_leI, Nat.le_refl]
theorem pd_sure0 (A : pl_A) {n : Nat} (hn : n ≤ 20) (h0 : (pl_of A n).length = 0) : pl_Do (fX10_sure 1 (nI n)) A (-9) A := by
  intro m h
  have hS := h.1
  have hW := h.2.1
  have e20 : (20 : Int32) = nI 20 := rfl
  have hyes : 0 ≤ nI n ∧ nI n ≤ nI 20 := ⟨nI_pos' (by omega), nI_le hn (by decide)⟩
  obtain ⟨m1, c1, c2, c3, c4, c5⟩ := pl_refrS h
  have hS1 := c2.1
  have hr := pl_CsR c2 c5
  have h14 := (hr.2.2.2.2.2.1 n hn).1
  have hlen := pl_of_len hW n
  have hCh := c2.2.2.2.2.2.2.1
  have z1 := hCh.1.2.2
  have z2 := hCh.2.2.2.1
  have z3 := hCh.2.2.2.2.1
  have hC1 : fX10_sure 1 (nI n) m = some (-9, m1) := by
    simp (disch := omega) only [fX10_sure, ↓pl_let, pl_b1, pl_b2, ↓reduceIte, e20, pl_within, hyes, and_self, if_true, pl_10, if_false, pl_k1 hS, c1, pl_k1 hS1, pl_r1_12 hS1, pl_k12 hS1, pl_r12_3 hS1, pl_in, nI_clamp, pl_k14 hS1, show n < 21 by omega, h14, pl_eq0, eq_true h0]
  exact pd_mk c2.md hC1 (by omega) (by omega) hW
theorem pd_sure (A : pl_A) {n : Nat} (hn : n ≤ 20) (h0 : ¬ (pl_of A n).length = 0) : pl_Do (fX10_sure 1 (nI n)) A (nI (pl_set (fun l => decide (pl_sw A n l = (pl_of A n).length)) (pl_N A 0 0 0))) (pl_tA A (nI (pl_set (fun l => decide (0 < pl_sw A n l)) (pl_N A 0 0 0)))) := by
  intro m h
  have hS := h.1
  have hW := h.2.1
  have hww := hW.1
  unfold pl_Wc at hww
  have e20 : (20 : Int32) = nI 20 := rfl
  have hyes : 0 ≤ nI n ∧ nI n ≤ nI 20 := ⟨nI_pos' (by omega), nI_le hn (by decide)⟩
  obtain ⟨m1, c1, c2, c3, c4, c5⟩ := pl_refrS h
  have hS1 := c2.1
  have hr := pl_CsR c2 c5
  have h14 := (hr.2.2.2.2.2.1 n hn).1
  have hlen := pl_of_len hW n
  have hCh := c2.2.2.2.2.2.2.1
  have z1 := hCh.1.2.2
  have z2 := hCh.2.2.2.1
  have z3 := hCh.2.2.2.2.1
  have hsum_le : ∀ l t, pl_sum (fun t => pl_cw A n t l) t ≤ t * 200001 := fun l t => pl_sum_le fun i _ => pl_cw_le hW n i l
  have hinner : ∀ (K : Nat → Int32 → Int32 → Int32 → Int32 → Int32 → ml_M → Option (Int32 × ml_M)) (a b l : Nat), l < pl_N A 0 0 0 → fX10_sure_59 K ml_fu 1 (nI n) (nI (pl_of A n).length) (nI a) (nI b) (nI l) 0 0 m1 = K 1 (nI n) (nI (pl_of A n).length) (nI (if decide (pl_sw A n l = (pl_of A n).length) = true then a ||| 2 ^ l else a)) (nI (if decide (0 < pl_sw A n l) = true then b ||| 2 ^ l else b)) (nI (l + 1)) m1 := fun K a b l hl => by
    have hh := pl_for (F := fun fu t (_ : Unit) => fX10_sure_59 K fu 1 (nI n) (nI (pl_of A n).length) (nI a) (nI b) (nI l) (nI (pl_sum (fun t => pl_cw A n t l) t)) (nI t) m1) (R := K 1 (nI n) (nI (pl_of A n).length) (nI (if decide (pl_sw A n l = (pl_of A n).length) = true then a ||| 2 ^ l else a)) (nI (if decide (0 < pl_sw A n l) = true then b ||| 2 ^ l else b)) (nI (l + 1)) m1) (pl_N A 0 1 0) (fun _ => ()) (fun fu t ht => ?_) (fun fu => ?_) ml_fu (by rw [pl_fu]; omega)
    · exact hh
    · show fX10_sure_59 K (fu + 1) 1 (nI n) (nI (pl_of A n).length) (nI a) (nI b) (nI l) (nI (pl_sum (fun t => pl_cw A n t l) t)) (nI t) m1 = fX10_sure_59 K fu 1 (nI n) (nI (pl_of A n).length) (nI a) (nI b) (nI l) (nI (pl_sum (fun t => pl_cw A n t l) (t + 1))) (nI (t + 1)) m1
      have hp := pl_pairC c2 c5 hn ht hl
      rw [pl_sum1]
      simp (disch := omega) only [fX10_sure_59, ↓pl_let, pl_b1, pl_b2, ↓reduceIte, pl_k1 hS1, if_true, z1, z3, nI_leI, show ¬ pl_N A 0 1 0 ≤ t by omega, if_false, pl_r1_12 hS1, pl_k12 hS1, hp, nI_add, nI_1]
    · have hsl := hsum_le l (pl_N A 0 1 0)
      have hsw : pl_sum (fun t => pl_cw A n t l) (pl_N A 0 1 0) = pl_sw A n l := rfl
      rw [hsw] at hsl ⊢
      have hsb : pl_sw A n l < 2 ^ 31 := by
        have : pl_N A 0 1 0 * 200001 ≤ 8 * 200001 := Nat.mul_le_mul_right _ (by omega)
        omega
      have hor : ∀ s, nI s ||| (1 : Int32) <<< (nI l &&& 31) = nI (s ||| 2 ^ l) := fun s => by rw [pl_shl1 (by omega), pl_or]
      have h107 : ∀ a' : Nat, fX10_sure_107 K 1 (nI n) (nI (pl_of A n).length) (nI a') (nI b) (nI l) (nI (pl_sw A n l)) m1 = K 1 (nI n) (nI (pl_of A n).length) (nI a') (nI (if decide (0 < pl_sw A n l) = true then b ||| 2 ^ l else b)) (nI (l + 1)) m1 := fun a' => by
        by_cases c : pl_sw A n l = 0
        · rw [if_neg (by simp [c])]
          simp (disch := omega) only [fX10_sure_107, fX10_sure_121, pl_leZ, eq_true c, if_true, nI_1]
        · rw [if_pos (by simp; omega)]
          simp (disch := omega) only [fX10_sure_107, fX10_sure_121, ↓pl_let, pl_b1, pl_b2, ↓reduceIte, pl_leZ, c, if_false, hor, nI_1]
      have h59 : fX10_sure_59 K (fu + 1) 1 (nI n) (nI (pl_of A n).length) (nI a) (nI b) (nI l) (nI (pl_sw A n l)) (nI (pl_N A 0 1 0)) m1 = fX10_sure_94 K 1 (nI n) (nI (pl_of A n).length) (nI a) (nI b) (nI l) (nI (pl_sw A n l)) m1 := by
        simp (disch := omega) only [fX10_sure_59, ↓pl_let, pl_b1, pl_b2, ↓reduceIte, pl_k1 hS1, if_true, z1, z3, nI_leI, Nat.le_refl]
      rw [h59]
      by_cases c : pl_sw A n l = (pl_of A n).length
      · rw [if_pos (decide_eq_true c), ← h107]
        simp (disch := omega) only [fX10_sure_94, ↓pl_let, pl_b1, pl_b2, ↓reduceIte, nI_eq, eq_true c, if_true, hor]
      · rw [if_neg (by simpa using c), ← h107]
        simp (disch := omega) only [fX10_sure_94, ↓pl_let, pl_b1, pl_b2, ↓reduceIte, nI_eq, c, if_false]
  have houter := pl_for (F := fun fu l (_ : Unit) => fX10_sure_41 fu 1 (nI n) (nI (pl_of A n).length) (nI (pl_set (fun l => decide (pl_sw A n l = (pl_of A n).length)) l)) (nI (pl_set (fun l => decide (0 < pl_sw A n l)) l)) (nI l) m1) (R := some (nI (pl_set (fun l => decide (pl_sw A n l = (pl_of A n).length)) (pl_N A 0 0 0)), ml_sI m1 1 15 (nI (pl_set (fun l => decide (0 < pl_sw A n l)) (pl_N A 0 0 0))))) (pl_N A 0 0 0) (fun _ => ()) (fun fu l hl => ?_) (fun fu => ?_) ml_fu (by rw [pl_fu]; omega)
  · have hC1 : fX10_sure 1 (nI n) m = some (nI (pl_set (fun l => decide (pl_sw A n l = (pl_of A n).length)) (pl_N A 0 0 0)), ml_sI m1 1 15 (nI (pl_set (fun l => decide (0 < pl_sw A n l)) (pl_N A 0 0 0)))) := by
      have hl' : fX10_sure_41 ml_fu 1 (nI n) (nI (pl_of A n).length) 0 0 0 m1 = some (nI (pl_set (fun l => decide (pl_sw A n l = (pl_of A n).length)) (pl_N A 0 0 0)), ml_sI m1 1 15 (nI (pl_set (fun l => decide (0 < pl_sw A n l)) (pl_N A 0 0 0)))) := houter
      rw [← hl']
      simp (disch := omega) only [fX10_sure, ↓pl_let, pl_b1, pl_b2, ↓reduceIte, e20, pl_within, hyes, and_self, if_true, pl_10, if_false, pl_k1 hS, c1, pl_k1 hS1, pl_r1_12 hS1, pl_k12 hS1, pl_r12_3 hS1, pl_in, nI_clamp, pl_k14 hS1, show n < 21 by omega, h14, pl_eq0, h0]
    have hd := c2.tC (nI (pl_set (fun l => decide (0 < pl_sw A n l)) (pl_N A 0 0 0)))
    exact pd_mk hd hC1 (by rw [pl_n_sI]; omega) (by rw [pl_s_sI]; omega) (pl_tW hW _)
  · show fX10_sure_41 (fu + 1) 1 (nI n) (nI (pl_of A n).length) (nI (pl_set (fun l => decide (pl_sw A n l = (pl_of A n).length)) l)) (nI (pl_set (fun l => decide (0 < pl_sw A n l)) l)) (nI l) m1 = fX10_sure_41 fu 1 (nI n) (nI (pl_of A n).length) (nI (pl_set (fun l => decide (pl_sw A n l = (pl_of A n).length)) (l + 1))) (nI (pl_set (fun l => decide (0 < pl_sw A n l)) (l + 1))) (nI (l + 1)) m1
    rw [pl_set1, pl_set1, ← hinner (fX10_sure_41 fu) _ _ l hl]
    simp (disch := omega) only [fX10_sure_41, ↓pl_let, pl_b1, pl_b2, ↓reduceIte, pl_k1 hS1, if_true, z1, z2, nI_leI, show ¬ pl_N A 0 0 0 ≤ l by omega, if_false]
  · simp (disch := omega) only [fX10_sure_41, fX10_sure_127, ↓pl_let, pl_b1, pl_b2, ↓reduceIte, pl_k1 hS1, if_true, z1, z2, nI_leI, Nat.le_refl]
theorem pd_next0 (A : pl_A) {n : Nat} (hn : n ≤ 20) (h0 : (pl_of A n).length = 0 ∨ pl_N A 0 1 0 = 0) : pl_Do (fX10_next 1 (nI n)) A (-9) A := by
  intro m h
  have hS := h.1
  have hW := h.2.1
  have hww := hW.1
  unfold pl_Wc at hww
  have e20 : (20 : Int32) = nI 20 := rfl
  have hyes : 0 ≤ nI n ∧ nI n ≤ nI 20 := ⟨nI_pos' (by omega), nI_le hn (by decide)⟩
  obtain ⟨m1, c1, c2, c3, c4, c5⟩ := pl_refrS h
  have hS1 := c2.1
  have hr := pl_CsR c2 c5
  have h14 := (hr.2.2.2.2.2.1 n hn).1
  have hlen := pl_of_len hW n
  have hCh := c2.2.2.2.2.2.2.1
  have z1 := hCh.1.2.2
  have z2 := hCh.2.2.2.1
  have z3 := hCh.2.2.2.2.1
  have h99 : ((-9 : Int32) = -9) = True := eq_true rfl
  have hC1 : fX10_next 1 (nI n) m = some (-9, m1) := by
    by_cases ha : (pl_of A n).length = 0
    · simp (disch := omega) only [fX10_next, ↓pl_let, pl_b1, pl_b2, ↓reduceIte, e20, pl_within, hyes, and_self, if_true, pl_10, if_false, pl_k1 hS, c1, pl_k1 hS1, pl_r1_12 hS1, pl_k12 hS1, pl_r12_3 hS1, pl_in, nI_clamp, pl_k14 hS1, show n < 21 by omega, h14, pl_eq0, eq_true ha]
    · have hb : pl_N A 0 1 0 = 0 := h0.resolve_left ha
      simp (disch := omega) only [fX10_next, ↓pl_let, pl_b1, pl_b2, ↓reduceIte, e20, pl_within, hyes, and_self, if_true, pl_10, if_false, pl_k1 hS, c1, pl_k1 hS1, pl_r1_12 hS1, pl_k12 hS1, pl_r12_3 hS1, pl_in, nI_clamp, pl_k14 hS1, show n < 21 by omega, h14, pl_eq0, ha, z1, z3, eq_true hb]
  exact pd_mk c2.md hC1 (by omega) (by omega) hW
theorem pd_next (A : pl_A) {n : Nat} (hW0 : pl_W A) (hn : n ≤ 20) (ha : ¬ (pl_of A n).length = 0) (hb : ¬ pl_N A 0 1 0 = 0) : ∃ bj, bj < 8 ∧ pl_Do (fX10_next 1 (nI n)) A (nI bj) (pl_tA A (nI (pl_nb A n (pl_N A 0 1 0)).2)) := by
  obtain ⟨nb1, nb2⟩ := pl_nb_ok hW0 n (pl_N A 0 1 0) hW0.1.2.1
  obtain ⟨bj, hbj8, hbj⟩ := nb2 (by omega)
  refine ⟨bj, hbj8, ?_⟩
  intro m h
  have hS := h.1
  have hW := h.2.1
  have hww := hW.1
  unfold pl_Wc at hww
  have e20 : (20 : Int32) = nI 20 := rfl
  have hyes : 0 ≤ nI n ∧ nI n ≤ nI 20 := ⟨nI_pos' (by omega), nI_le hn (by decide)⟩
  obtain ⟨m1, c1, c2, c3, c4, c5⟩ := pl_refrS h
  have hS1 := c2.1
  have hr := pl_CsR c2 c5
  have h14 := (hr.2.2.2.2.2.1 n hn).1
  have hlen := pl_of_len hW n
  have hCh := c2.2.2.2.2.2.2.1
  have z1 := hCh.1.2.2
  have z2 := hCh.2.2.2.1
  have z3 := hCh.2.2.2.2.1
  have h99 : ((-9 : Int32) = -9) = True := eq_true rfl
  have hinner : ∀ (K : Nat → Int32 → Int32 → Int32 → Int32 → ml_M → Option (Int32 × ml_M)) (t : Nat), t < pl_N A 0 1 0 → fX10_next_67 K ml_fu 1 (nI n) (pl_nb A n t).1 (nI (pl_nb A n t).2) (nI t) 0 0 m1 = K 1 (nI n) (pl_nb A n (t + 1)).1 (nI (pl_nb A n (t + 1)).2) (nI (t + 1)) m1 := fun K t ht => by
    have hh := pl_for (F := fun fu l (_ : Unit) => fX10_next_67 K fu 1 (nI n) (pl_nb A n t).1 (nI (pl_nb A n t).2) (nI t) (nI (pl_mo2 A n t l)) (nI l) m1) (R := K 1 (nI n) (pl_nb A n (t + 1)).1 (nI (pl_nb A n (t + 1)).2) (nI (t + 1)) m1) (pl_N A 0 0 0) (fun _ => ()) (fun fu l hl => ?_) (fun fu => ?_) ml_fu (by rw [pl_fu]; omega)
    · exact hh
    · show fX10_next_67 K (fu + 1) 1 (nI n) (pl_nb A n t).1 (nI (pl_nb A n t).2) (nI t) (nI (pl_mo2 A n t l)) (nI l) m1 = fX10_next_67 K fu 1 (nI n) (pl_nb A n t).1 (nI (pl_nb A n t).2) (nI t) (nI (pl_mo2 A n t (l + 1))) (nI (l + 1)) m1
      have hp := pl_pairC c2 c5 hn ht hl
      have b1 := pl_cw_le hW n t l
      have b2 := pl_mo2_le hW n t l
      have hmx : (if nI (pl_mo2 A n t l) < nI (pl_cw A n t l) then nI (pl_cw A n t l) else nI (pl_mo2 A n t l)) = nI (pl_mo2 A n t (l + 1)) := by
        rw [pl_mo21]
        by_cases c : pl_mo2 A n t l < pl_cw A n t l
        · rw [if_pos ((nI_ltI (by omega) (by omega)).mpr c), if_pos c]
        · rw [if_neg (fun z => c ((nI_ltI (by omega) (by omega)).mp z)), if_neg c]
      simp (disch := omega) only [fX10_next_67, ↓pl_let, pl_b1, pl_b2, ↓reduceIte, pl_k1 hS1, if_true, z1, z2, nI_leI, show ¬ pl_N A 0 0 0 ≤ l by omega, if_false, pl_r1_12 hS1, pl_k12 hS1, hp, hmx, nI_1]
    · have b2 := pl_mo2_le hW n t (pl_N A 0 0 0)
      have b3 := (pl_nb_ok hW n t (by omega)).1
      have h67 : fX10_next_67 K (fu + 1) 1 (nI n) (pl_nb A n t).1 (nI (pl_nb A n t).2) (nI t) (nI (pl_mo2 A n t (pl_N A 0 0 0))) (nI (pl_N A 0 0 0)) m1 = fX10_next_104 K 1 (nI n) (pl_nb A n t).1 (nI (pl_nb A n t).2) (nI t) (nI (pl_mo2 A n t (pl_N A 0 0 0))) m1 := by
        simp (disch := omega) only [fX10_next_67, ↓pl_let, pl_b1, pl_b2, ↓reduceIte, pl_k1 hS1, if_true, z1, z2, nI_leI, Nat.le_refl]
      rw [h67, pl_nb1]
      unfold fX10_next_104
      by_cases d1 : (pl_nb A n t).1 = -9
      · rw [if_pos d1, if_pos (Or.inl d1)]
        simp only [fX10_next_116, fX10_next_122, nI_1]
      · rw [if_neg d1]
        by_cases d2 : pl_mo2 A n t (pl_N A 0 0 0) < (pl_nb A n t).2
        · rw [if_pos (Or.inr d2), if_neg (by rw [nI_leI (by omega) (by omega)]; omega)]
          simp only [fX10_next_116, fX10_next_122, nI_1]
        · rw [if_neg (show ¬ ((pl_nb A n t).1 = -9 ∨ pl_mo2 A n t (pl_N A 0 0 0) < (pl_nb A n t).2) from fun z => z.elim d1 d2), if_pos (by rw [nI_leI (by omega) (by omega)]; omega)]
          simp only [fX10_next_122, nI_1]
  have houter := pl_for (F := fun fu t (_ : Unit) => fX10_next_49 fu 1 (nI n) (pl_nb A n t).1 (nI (pl_nb A n t).2) (nI t) m1) (R := some (nI bj, ml_sI m1 1 15 (nI (pl_nb A n (pl_N A 0 1 0)).2))) (pl_N A 0 1 0) (fun _ => ()) (fun fu t ht => ?_) (fun fu => ?_) ml_fu (by rw [pl_fu]; omega)
  · have hC1 : fX10_next 1 (nI n) m = some (nI bj, ml_sI m1 1 15 (nI (pl_nb A n (pl_N A 0 1 0)).2)) := by
      have hl' : fX10_next_49 ml_fu 1 (nI n) (-9) 0 0 m1 = some (nI bj, ml_sI m1 1 15 (nI (pl_nb A n (pl_N A 0 1 0)).2)) := houter
      rw [← hl']
      simp (disch := omega) only [fX10_next, ↓pl_let, pl_b1, pl_b2, ↓reduceIte, e20, pl_within, hyes, and_self, if_true, pl_10, if_false, pl_k1 hS, c1, pl_k1 hS1, pl_r1_12 hS1, pl_k12 hS1, pl_r12_3 hS1, pl_in, nI_clamp, pl_k14 hS1, show n < 21 by omega, h14, pl_eq0, ha, z1, z3, hb]
    have hd := c2.tC (nI (pl_nb A n (pl_N A 0 1 0)).2)
    exact pd_mk hd hC1 (by rw [pl_n_sI]; omega) (by rw [pl_s_sI]; omega) (pl_tW hW _)
  · show fX10_next_49 (fu + 1) 1 (nI n) (pl_nb A n t).1 (nI (pl_nb A n t).2) (nI t) m1 = fX10_next_49 fu 1 (nI n) (pl_nb A n (t + 1)).1 (nI (pl_nb A n (t + 1)).2) (nI (t + 1)) m1
    rw [← hinner (fX10_next_49 fu) t ht]
    simp (disch := omega) only [fX10_next_49, ↓pl_let, pl_b1, pl_b2, ↓reduceIte, pl_k1 hS1, if_true, z1, z3, nI_leI, show ¬ pl_N A 0 1 0 ≤ t by omega, if_false]
  · rw [hbj]
    simp (disch := omega) only [fX10_next_49, fX10_next_128, ↓pl_let, pl_b1, pl_b2, ↓reduceIte, pl_k1 hS1, if_true, z1, z3, nI_leI, Nat.le_refl]
theorem pd_share0 (A : pl_A) {r : Nat} (hr : r ≤ 5) (hb : pl_best A = none) : pl_Do (fX10_share 1 (nI r)) A (-9) A := by
  intro m h
  have hS := h.1
  have hW := h.2.1
  have hww := hW.1
  unfold pl_Wc at hww
  have hr5 : 0 ≤ nI r ∧ nI r ≤ nI 5 := ⟨nI_pos' (by omega), nI_le (by omega) (by decide)⟩
  obtain ⟨m1, c1, c2, c3, c4, c5⟩ := pl_refrS h
  have hS1 := c2.1
  have hn60 := hS1.2.2
  have hrr := pl_CsR c2 c5
  have hCh := c2.2.2.2.2.2.2.1
  have z1 := hCh.1.2.2
  have z3 := hCh.2.2.2.2.1
  have i1 := hrr.2.2.2.1
  rw [hb] at i1
  have i1 : ml_I m1 12 1 = -9 := i1
  have hC1 : fX10_share 1 (nI r) m = some (-9, m1) := by
    simp (disch := omega) only [fX10_share, ↓pl_let, pl_b1, pl_b2, ↓reduceIte, pl_isRow, hr5, and_self, if_true, pl_10, if_false, pl_k1 hS, c1, pl_k1 hS1, pl_r1_12 hS1, pl_k12 hS1, i1]
  exact pd_mk c2.md hC1 (by omega) (by omega) hW
theorem pd_share (A : pl_A) {r : Nat} (hr : r ≤ 5) {q : Nat × List Nat} (hb : pl_best A = some q) : pl_Do (fX10_share 1 (nI r)) A (nI q.1) (pl_rA A r (pl_N A 0 1 0 + 1) (fun t => nI (q.2.getD t 0))) := by
  intro m h
  have hS := h.1
  have hW := h.2.1
  have hww := hW.1
  unfold pl_Wc at hww
  have hr5 : 0 ≤ nI r ∧ nI r ≤ nI 5 := ⟨nI_pos' (by omega), nI_le (by omega) (by decide)⟩
  obtain ⟨m1, c1, c2, c3, c4, c5⟩ := pl_refrS h
  have hS1 := c2.1
  have hn60 := hS1.2.2
  have hrr := pl_CsR c2 c5
  have hCh := c2.2.2.2.2.2.2.1
  have z1 := hCh.1.2.2
  have z3 := hCh.2.2.2.2.1
  have i1 := hrr.2.2.2.1
  have hq20 : q.1 ≤ 20 := pl_bst_20 hW (pl_S A) q hb
  rw [hb] at i1
  have i1 : ml_I m1 12 1 = nI q.1 := i1
  have i13 := hrr.2.2.2.2.1 q hb
  have hn9 : ¬ nI q.1 = -9 := by rw [pl_n9 (by omega)]; exact id
  obtain ⟨m2, d1, d2, d3, d4, d5, d6, d7, d8⟩ := pl_copyOf (m := m1) (a := 13) (L := 8) (n := pl_N A 0 1 0) (pl_k13 hS1) (by omega) (by omega) (by decide) hn60
  have hd := pl_rowC c2 (r := r) (f := fun t => nI (q.2.getD t 0)) (by omega) d6 d7 d8 (c := ml_n m1 + 1) ⟨by omega, by omega⟩ d4 (fun j hj => by rw [d5 j hj, i13 j hj])
  have hS2 : pl_Sh m2 := d6.sh hS1 (fun q _ hq => by simp at hq)
  have hS3 := hd.1
  have i12 : ml_I (ml_sR m2 2 r (ml_n m1 + 1)) 12 1 = nI q.1 := by
    rw [pl_I_sR, (d6.2.2 12 (by omega) (by simp)).1, i1]
  have hC1 : fX10_share 1 (nI r) m = some (nI q.1, ml_sR m2 2 r (ml_n m1 + 1)) := by
    have k2 := pl_k2 hS2
    simp (disch := omega) only [fX10_share, ↓pl_let, pl_b1, pl_b2, ↓reduceIte, pl_isRow, hr5, and_self, if_true, pl_10, if_false, pl_k1 hS, c1, pl_k1 hS1, pl_r1_12 hS1, pl_k12 hS1, i1, hn9, pl_r1_0 hS1, pl_r12_2 hS1, z1, z3, d1, d4, pl_in, nI_clamp, k2, show r < 6 by omega, pl_k1 hS3, pl_r1_12 hS3, pl_k12 hS3, i12]
  exact pd_mk hd hC1 (by rw [pl_n_sR]; omega) (by rw [pl_s_sR]; omega) (pl_rW hW (by omega))
theorem pd_moves (A : pl_A) {r s : Nat} (hr : r ≤ 5) (hs : s ≤ 5) {w : List Nat} (hN : pl_N A 8 r 0 = pl_N A 0 1 0 + 1) (hw0 : pl_isS A (pl_V A 0 r) w) : pl_Do (fX10_moves 1 (nI r) (nI s)) A (nI (pl_moved A w)) (pl_rA A s (2 * pl_moved A w + 1) (pl_mvf A w 0 (fun _ => 0) (pl_N A 0 3 0))) := by
  intro m h
  have hS := h.1
  have hW := h.2.1
  have hww := hW.1
  unfold pl_Wc at hww
  have hr5 : 0 ≤ nI r ∧ nI r ≤ nI 5 := ⟨nI_pos' (by omega), nI_le (by omega) (by decide)⟩
  have hs5 : 0 ≤ nI s ∧ nI s ≤ nI 5 := ⟨nI_pos' (by omega), nI_le (by omega) (by decide)⟩
  have e1 : (1 : Int32) = nI 1 := rfl
  have e3 : (3 : Int32) = nI 3 := rfl
  have e5 : (5 : Int32) = nI 5 := rfl
  have hn60 := hS.2.2
  rcases h.2.2.2.2.1.1 r (by omega) with ⟨hN0, hR⟩ | ⟨hN0, ⟨b1, b2, b3⟩, hf⟩
  · omega
  have hwr := hW.2.2.2.2.2.2.2.2.1 r (by omega)
  obtain ⟨a, ha⟩ : ∃ a, a = ml_R m 2 r := ⟨_, rfl⟩
  obtain ⟨n, hn⟩ : ∃ n, n + 1 = pl_N A 8 r 0 := ⟨pl_N A 8 r 0 - 1, by omega⟩
  rw [← hn, Nat.add_sub_cancel] at b3
  rw [← ha] at b1 b2 b3 hf
  have ha0 : ¬ a = 0 := by omega
  obtain ⟨c1, c2, c3, c4, c5, c6, c7⟩ := h.2.2.2.2.2.2.1
  have hKH := c1.2.2
  have hsize : n = pl_N A 0 1 0 := by omega
  obtain ⟨m1, d1, d2, d3, d4, d5, d6⟩ := pl_refrSx h
  have hS1 := d2.1
  have hxs : ∀ x ∈ pl_xsS, x ≤ 60 := by decide
  have ha1 : a ∉ pl_xsS := fun z => by have := hxs a z; omega
  have hKa : ml_K m1 a = (20, pl_N A 0 1 0) := by rw [d6.2.1 a b2, b3, hsize]
  have hIa : ml_I m1 a = ml_I m a := (d6.2.2 a b2 ha1).1
  have hK1 : (ml_K m a).1 = 20 := by rw [b3]
  have hK2 : Int32.ofNat (ml_K m a).2 = nI (pl_N A 0 1 0) := by rw [b3, pl_ofN, hsize]
  have hC0 : ∀ {R : Option (Int32 × ml_M)}, fX7_isSharing 12 a m1 = R → fX10_moves 1 (nI r) (nI s) m = ml_b2 R fun r2720 m2721 => if r2720 = 0 then (if (ml_K m2721 1).1 = 10 then ml_b2 (fX10_found 1 (3 : Int32) m2721) fun r2730 m2731 => some (r2730, m2731) else none) else if (ml_K m2721 1).1 = 10 then (if ml_len ((2 : Int32) * (ml_I m2721 1 5)) then ml_let (ml_n m2721 + 1) fun a2724 => ml_let (ml_al m2721 20 ((2 : Int32) * (ml_I m2721 1 5)).toNatClampNeg ((2 : Int32) * (ml_I m2721 1 5)).toNatClampNeg) fun m2725 => fX10_moves_88 ml_fu 1 (nI s) a a2724 (0 : Int32) (0 : Int32) m2725 else none) else none := fun {R} hR => by
    rw [← hR]
    simp (disch := omega) only [fX10_moves, ↓pl_let, pl_b1, pl_b2, ↓reduceIte, pl_isRow, hr5, hs5, and_self, if_true, pl_10, if_false, pl_k1 hS, pl_r1_0 hS, pl_in, nI_clamp, pl_k2 hS, show r < 6 by omega, ← ha, ha0, hK1, hK2, hKH, c5, d1, pl_k1 hS1, pl_r1_12 hS1, pl_k12 hS1]
  have hfitm : ∀ w, pl_isS A (ml_I m1 a) w ↔ pl_isS A (pl_V A 0 r) w := fun w => by
    have hfe : ∀ j, j < pl_N A 0 1 0 → ml_I m1 a j = pl_V A 0 r j := fun j hj => by rw [hIa]; exact hf j (by omega)
    constructor
    · rintro ⟨z1, ⟨z2, z3, z4⟩, z5⟩
      exact ⟨z1, ⟨z2, z3, fun i hi => by rw [← hfe i (by omega)]; exact z4 i hi⟩, z5⟩
    · rintro ⟨z1, ⟨z2, z3, z4⟩, z5⟩
      exact ⟨z1, ⟨z2, z3, fun i hi => by rw [hfe i (by omega)]; exact z4 i hi⟩, z5⟩
  have hsh := pl_isShC d2 d5 b1 hKa
  rcases hsh with ⟨w', c, hw, he⟩ | ⟨hnw, c, he⟩
  · -- a sharing
    have hw' := (hfitm w').mp hw
    have hww' : w = w' := by
      obtain ⟨v, hv⟩ := pl_fit_app hW hw'.2.1 hw0.2.1 (by rw [hw'.1, hw0.1]; exact Nat.le_refl _)
      have hv0 : v = [] := by
        have hl := hw0.1
        rw [hv, List.length_append, hw'.1] at hl
        exact List.eq_nil_of_length_eq_zero (by omega)
      rw [hv, hv0, List.append_nil]
    subst hww'
    have d20 := d2.c20 c
    obtain ⟨m2, hm2⟩ : ∃ m2, m2 = pl_wI m1 20 c := ⟨_, rfl⟩
    rw [← hm2] at d20 he
    have hS2 := d20.1
    have hn2 : ml_n m2 = ml_n m := by rw [hm2, pl_n_wI, d3]
    have hs2 : ml_s m2 = ml_s m := by rw [hm2, pl_s_wI, d4]
    have hKa2 : ml_K m2 a = (20, pl_N A 0 1 0) := by rw [hm2, pl_K_wI, hKa]
    have hIa2 : ml_I m2 a = ml_I m1 a := by rw [hm2, pl_I_wI, if_neg (by omega)]
    have hw2 : pl_isS A (ml_I m2 a) w := by rw [hIa2]; exact hw
    have hmc := pl_movesC d20 (a := a) ⟨b1, by omega⟩ hKa2 hw2 (nI s)
    have h15 : ml_I m2 1 5 = nI (pl_N A 0 3 0) := d20.2.2.2.1.2.1
    have e2 : (2 : Int32) = nI 2 := rfl
    have hlen := pl_len (n := 2 * pl_N A 0 3 0) (by omega)
    obtain ⟨m3, hm3⟩ : ∃ m3, m3 = pl_wI (ml_al m2 20 (2 * pl_N A 0 3 0) (2 * pl_N A 0 3 0)) (ml_n m2 + 1) (pl_mvf A w 0 (fun _ => 0) (pl_N A 0 3 0)) := ⟨_, rfl⟩
    have d3' : pl_Rel A m3 := by rw [hm3]; exact pl_alR d20 _ _
    rw [← hm3] at hmc
    have hn3 : ml_n m3 = ml_n m + 1 := by rw [hm3, pl_n_wI, pl_n_al, hn2]
    have hs3 : ml_s m3 = ml_s m + 2 * pl_N A 0 3 0 := by rw [hm3, pl_s_wI, pl_s_al, hs2]
    have hm20 := pl_moved_le hW w
    have hmn : pl_moved A w ≤ pl_N A 0 3 0 := pl_cnt_le _ _
    have hKb : ml_K m3 (ml_n m + 1) = (20, 2 * pl_N A 0 3 0) := by rw [hm3, pl_K_wI, ← hn2, pl_K_aln]
    have hIb : ml_I m3 (ml_n m + 1) = pl_mvf A w 0 (fun _ => 0) (pl_N A 0 3 0) := by rw [hm3, pl_I_wI, hn2, if_pos rfl]
    obtain ⟨m4, f1, f2, f3, f4, f5, f6, f7, f8⟩ := pl_copyOf (m := m3) (a := ml_n m + 1) (L := 2 * pl_N A 0 3 0) (n := 2 * pl_moved A w) hKb (by omega) (by omega) (by omega) (by omega)
    have hd := pl_rowC d3' (r := s) (n := 2 * pl_moved A w) (f := pl_mvf A w 0 (fun _ => 0) (pl_N A 0 3 0)) (by omega) f6 f7 f8 (c := ml_n m3 + 1) ⟨by omega, by omega⟩ f4 (fun j hj => by rw [f5 j hj, hIb])
    have hS3 := d3'.1
    have hS4 : pl_Sh m4 := f6.sh hS3 (fun q _ hq => by simp at hq)
    have hK4 : ml_K m4 (ml_n m3 + 1) = (20, 2 * pl_moved A w) := f4
    have h169 : fX10_moves_169 1 (nI s) (ml_n m2 + 1) (nI (2 * pl_moved A w)) m3 = some (nI (pl_moved A w), ml_sR m4 2 s (ml_n m3 + 1)) := by
      rw [hn2]
      simp (disch := omega) only [fX10_moves_169, ↓pl_let, pl_b1, pl_b2, ↓reduceIte, pl_k1 hS3, if_true, pl_r1_0 hS3, f1, hK4, pl_in, nI_clamp, pl_k2 hS4, show s < 6 by omega, and_self, e2, pk_div, show 2 * pl_moved A w / 2 = pl_moved A w by omega]
    have hC1 : fX10_moves 1 (nI r) (nI s) m = some (nI (pl_moved A w), ml_sR m4 2 s (ml_n m3 + 1)) := by
      rw [hC0 he, pl_b2, if_neg (show ¬ (1 : Int32) = 0 by decide), pl_k1 hS2, if_pos rfl, h15, e2, pk_mul, if_pos hlen, pl_let, pl_let, nI_clamp (by omega), hmc, h169]
    exact pd_mk hd hC1 (by rw [pl_n_sR, f2, hn3]; omega) (by rw [pl_s_sR, f3, hs3]; omega) (pl_rW hW (by omega))
  · exact absurd ((hfitm w).mpr hw0) (hnw w)
theorem pd_bit (A : pl_A) {a b x y : Nat} (hc : pl_N A 0 5 0 < 10) (ha1 : 1 ≤ a) (ha9 : a ≤ 9) (hb : b ≤ 9) (hx : x ≤ 999) (hy : y ≤ 999) : pl_Do (fX10_bit 1 (nI a) (nI b) (nI x) (nI y)) A (nI (pl_N A 0 5 0)) (pl_sR A 6 (pl_N A 0 5 0) (pl_4 a b x y) 5 (pl_N A 0 5 0 + 1)) := by
  intro m h
  have hS := h.1
  have hC := h.2.2.2
  have hn60 := hS.2.2
  have hA : ¬ (1 ≤ a → 9 < a) := by omega
  refine pd_mk (pl_bC_md h (a := a) (b := b) (x := x) (y := y) hc) ?_ (by show ml_n m + 1 ≤ _; omega) (by show ml_s m + 4 ≤ _; omega) (pl_bW h.2.1 hc ha9 hb hx hy)
  simp (disch := omega) [fX10_bit, fX0_init, ↓pl_let, pl_b1, pl_b2, ↓reduceIte, pl_k1 hS, pl_k2 hS, pl_k3 hS, pl_k8 hS, pl_k9 hS, pl_k10 hS, pl_k11 hS, pl_k12 hS, pl_k13 hS, pl_k14 hS, pl_k15 hS, pl_k16 hS, pl_k17 hS, pl_k18 hS, pl_k19 hS, pl_k20 hS, pl_k21 hS, pl_k22 hS, pl_k23 hS, pl_k24 hS, pl_k25 hS, pl_k26 hS, pl_k27 hS, pl_k28 hS, pl_k29 hS, pl_k30 hS, pl_k31 hS, pl_k32 hS, pl_r1_0 hS, pl_r1_1 hS, pl_r1_4 hS, pl_r1_6 hS, pl_r1_8 hS, pl_r1_10 hS, pl_r1_12 hS, pl_r1_13 hS, pl_r1_14 hS, pl_r1_18 hS, pl_r12_2 hS, pl_r12_3 hS, pl_r12_4 hS, pl_r12_8 hS, pl_r12_9 hS, pl_r12_10 hS, pl_r12_11 hS, pl_r12_12 hS, pl_r21_3 hS, pl_r21_5 hS, pl_r21_6 hS, pl_r21_7 hS, pl_r26_0 hS, pl_r26_2 hS, pl_r26_3 hS, pl_r26_4 hS, pl_r26_5 hS, pl_I_sI, pl_I_sR, pl_I_sJ, pl_I_alo, pl_I_aln, pl_R_sI, pl_R_sR, pl_R_sJ, pl_R_alo, pl_R_aln, pl_J_sI, pl_J_sR, pl_J_sJ, pl_K_sI, pl_K_sR, pl_K_sJ, pl_K_alo, pl_K_aln, pl_n_sI, pl_n_sR, pl_n_sJ, pl_n_al, pl_n_cp, pl_n_cl, pl_s_sI, pl_s_sR, pl_s_sJ, pl_s_al, pl_s_cp, pl_s_cl, pl_l1, pl_l2, pl_l3, pl_l4, pl_l5, pl_l6, pl_l7, pl_l8, pl_l9, pl_l10, pl_l11, pl_l12, pl_l13, pl_l14, pl_l15, pl_l16, pl_l17, pl_l18, pl_l19, pl_l20, pl_l21, pl_l22, pl_l23, pl_l24, pl_l25, pl_l26, pl_l27, pl_l28, pl_l29, pl_l30, pl_l31, pl_l32, pl_l33, pl_l34, pl_l35, pl_l36, pl_l37, pl_l38, pl_l39, pl_l40, pl_l41, pl_l42, pl_l43, pl_l44, pl_l45, pl_l46, pl_l47, pl_l48, pl_l49, pl_l50, pl_l51, pl_l52, pl_l53, pl_l54, pl_l55, pl_l56, pl_l57, pl_l58, pl_l59, pl_l60, pl_l61, pl_l62, pl_l63, pl_l64, pl_l99, pl_l100, pl_l119, pl_l120, pl_l255, pl_l256, pl_l999, pl_l1000, pl_l1023, pl_l1024, pl_l1111, pl_l5555, pl_l10240, pl_eq0, pl_le0, pl_lt0, pl_neg, pl_leN, pl_ltN, nI_leI, nI_ltI, nI_eq, nI_add, pk_mul, pl_sub, pk_div, pk_rem, nI_clamp, pl_in, pl_ofN, pl_shl1, pl_or, pl_and, pl_le1, pl_sz1, pl_within, pl_inM, pl_isRow, pl_isRowM, pl_isText, pl_isTextM, pl_leZ, pl_0eq, pl_0lt, pl_shl2, pl_shr2, pl_tcE, pl_tcN, pl_ne1, pl_rem3, hC.1.1, hC.1.2.1, hC.1.2.2.1, hC.1.2.2.2.1, hC.1.2.2.2.2.1, hc, hA, show ¬ 9 < b by omega, show ¬ 999 < x by omega, show ¬ 999 < y by omega, show ¬ 1 = ml_n m + 1 by omega, pl_bC]
theorem pd_sheets (A : pl_A) {r : Nat} (hr : r ≤ 5) : pl_Do (fX10_sheets 1 (nI r)) A (nI (pl_G A (pl_N A 0 5 0) 0 fun _ => false).1) (pl_rA A r (pl_N A 0 5 0 + 1) (fun k => nI ((pl_fr A (pl_N A 0 5 0) 0 fun _ => false).getD k 0))) := by
  intro m h
  have hS := h.1
  have hW := h.2.1
  have hw := hW.1
  unfold pl_Wc at hw
  have hr5 : 0 ≤ nI r ∧ nI r ≤ nI 5 := ⟨nI_pos' (by omega), nI_le (by omega) (by decide)⟩
  obtain ⟨m1, c1, c2, c3, c4, -, c5, -, c7⟩ := pl_refrL h
  obtain ⟨n, hnA⟩ : ∃ n, n = pl_N A 0 5 0 := ⟨_, rfl⟩
  have hn10 : n ≤ 10 := by omega
  rw [← hnA] at c5 c7
  have hS1 := c2.1
  have hn60 := hS1.2.2
  obtain ⟨m2, d1, d2, d3, d4, d5, d6, d7, d8⟩ := pl_copyOf (m := m1) (a := 22) (L := 10) (n := n) (pl_k22 hS1) (by omega) hn10 (by decide) hn60
  have hd := pl_rowC c2 (r := r) (f := fun k => nI ((pl_fr A n 0 fun _ => false).getD k 0)) (by omega) d6 d7 d8 (c := ml_n m1 + 1) ⟨by omega, by omega⟩ d4 (fun j hj => by rw [d5 j hj, c7 j hj])
  have hS2 : pl_Sh m2 := d6.sh hS1 (fun q _ hq => by simp at hq)
  have hS3 := hd.1
  have hC1 : fX10_sheets 1 (nI r) m = some (nI (pl_G A n 0 fun _ => false).1, ml_sR m2 2 r (ml_n m1 + 1)) := by
    have h9 : ml_I m1 1 9 = nI n := by rw [hnA]; exact c2.2.2.2.1.2.2.2.1
    have i21 : ml_I (ml_sR m2 2 r (ml_n m1 + 1)) 21 1 = nI (pl_G A n 0 fun _ => false).1 := by
      rw [pl_I_sR, (d6.2.2 21 (by omega) (by simp)).1, c5]
    have k2 := pl_k2 hS2
    simp (disch := omega) only [fX10_sheets, ↓pl_let, pl_b1, pl_b2, ↓reduceIte, pl_isRow, hr5, and_self, if_true, pl_10, if_false, pl_k1 hS, c1, pl_k1 hS1, pl_r1_0 hS1, pl_r1_13 hS1, pl_k21 hS1, pl_r21_3 hS1, h9, d1, d4, pl_in, nI_clamp, k2, show r < 6 by omega, pl_k1 hS3, pl_r1_13 hS3, pl_k21 hS3, i21]
  subst hnA
  exact pd_mk hd hC1 (by rw [pl_n_sR]; omega) (by rw [pl_s_sR]; omega) (pl_rW hW (by omega))
theorem pd_laid (A : pl_A) : pl_Do (fX10_laid 1) A (nI (pl_G A (pl_N A 0 5 0) 0 fun _ => false).2) A := by
  intro m h
  obtain ⟨m1, c1, c2, c3, c4, -, -, c6, -⟩ := pl_refrL h
  have hW := h.2.1
  have hw := hW.1
  unfold pl_Wc at hw
  have hC1 : fX10_laid 1 m = some (nI (pl_G A (pl_N A 0 5 0) 0 fun _ => false).2, m1) := by
    have hS := h.1
    have hS1 := c2.1
    simp only [fX10_laid, ↓pl_let, pl_b1, pl_b2, ↓reduceIte, pl_k1 hS, if_true, c1, pl_k1 hS1, pl_r1_13 hS1, pl_k21 hS1, c6]
  exact pd_mk c2.md hC1 (by omega) (by omega) hW
theorem pd_travellers (A : pl_A) {S : Nat} (hSd : S = 2 ^ pl_N A 0 3 0 - 1) (h10 : pl_tn A S ≤ 10) : pl_Do (fX10_travellers 1) A (nI (pl_pp (pl_tl (pl_tn A S) (pl_ta A S) (pl_tb2 A S) (pl_on (pl_tx A S)) (2 ^ pl_tn A S)) (2 ^ pl_tn A S) (2 ^ pl_tn A S - 1))) A := by
  intro m h
  obtain ⟨hS, hW, hM, hC⟩ := h
  have h : pl_Rel A m := ⟨hS, hW, hM, hC⟩
  have hw := hW.1
  unfold pl_Wc at hw
  obtain ⟨n3, hn3⟩ : ∃ n3, n3 = pl_N A 0 3 0 := ⟨_, rfl⟩
  obtain ⟨q1, q2⟩ := pl_pown20 (show n3 ≤ 20 by omega)
  rw [← hn3] at hSd
  obtain ⟨m1, g1, g2, g3, g4, g5⟩ := pl_gathered h (S := S) (by omega)
  have hset : (1 : Int32) <<< (nI n3 &&& 31) - 1 = nI S := by
    rw [pl_shl1 (by omega), hSd]; exact pl_sub q1
  have h5 : ml_I m 1 5 = nI n3 := by rw [hn3]; exact hC.1.2.1
  have e10 : (10 : Int32) = nI 10 := rfl
  have htn : pl_tn A S ≤ 20 := by
    have := pl_cnt_le (pl_tq A S) (pl_N A 0 3 0)
    unfold pl_tn; omega
  rw [← hn3] at g1
  obtain ⟨m2, f1, f2, f3, f4⟩ := pl_fewPC g2 (g5 h10) rfl
  have hC1 : fX10_travellers 1 m = some (nI (pl_pp (pl_tl (pl_tn A S) (pl_ta A S) (pl_tb2 A S) (pl_on (pl_tx A S)) (2 ^ pl_tn A S)) (2 ^ pl_tn A S) (2 ^ pl_tn A S - 1)), m2) := by
    have hS1 := g2.1
    simp (disch := omega) only [fX10_travellers, ↓pl_let, pl_b1, pl_b2, ↓reduceIte, pl_k1 hS, pl_r1_14 hS, pl_r1_4 hS, pl_k26 hS, if_true, h5, hset, g1, e10, nI_leI, h10, pl_k1 hS1, pl_r1_14 hS1, pl_k26 hS1, f1]
  exact pd_mk f2 hC1 (by omega) (by omega) hW

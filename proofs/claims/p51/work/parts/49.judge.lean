/-! CLAIMS: which marks are true; judge. -/
theorem pl_lst_le (p : Nat → Bool) (n : Nat) : pl_lst p n ≤ n := by
  induction n with
  | zero => exact Nat.le_refl _
  | succ n ih => unfold pl_lst; split <;> (try split) <;> omega
theorem pl_lst_p (p : Nat → Bool) (n : Nat) : (pl_lst p n < n → p (pl_lst p n) = true) ∧ ∀ j, j < pl_lst p n → p j = false := by
  induction n with
  | zero => exact ⟨fun h => by simp [pl_lst] at h, fun j hj => by simp [pl_lst] at hj⟩
  | succ n ih =>
    have hle := pl_lst_le p n
    unfold pl_lst
    by_cases h : pl_lst p n < n
    · rw [if_pos h]
      exact ⟨fun _ => ih.1 h, ih.2⟩
    · have he : pl_lst p n = n := by omega
      rw [if_neg h]
      rw [he] at ih
      by_cases hp : p n = true
      · rw [if_pos hp]
        exact ⟨fun _ => hp, ih.2⟩
      · rw [if_neg hp]
        refine ⟨fun h => by omega, fun j hj => ?_⟩
        by_cases hjn : j = n
        · rw [hjn]; simpa using hp
        · exact ih.2 j (by omega)
def pl_any (p : Nat → Bool) : Nat → Bool
  | 0 => false
  | n + 1 => pl_any p n || p n
theorem pl_any1 (p : Nat → Bool) (n : Nat) : pl_any p (n + 1) = (pl_any p n || p n) := rfl
theorem pl_any_iff (p : Nat → Bool) (n : Nat) : pl_any p n = true ↔ ∃ i, i < n ∧ p i = true := by
  induction n with
  | zero => simp [pl_any]
  | succ n ih =>
    rw [pl_any1, Bool.or_eq_true, ih]
    constructor
    · rintro (⟨i, hi, hp⟩ | hp)
      · exact ⟨i, by omega, hp⟩
      · exact ⟨n, by omega, hp⟩
    · rintro ⟨i, hi, hp⟩
      by_cases h : i = n
      · exact Or.inr (h ▸ hp)
      · exact Or.inl ⟨i, by omega, hp⟩
theorem pl_lst_any (p : Nat → Bool) (n : Nat) : pl_any p n = decide (pl_lst p n < n) := by
  have h := pl_lst_p p n
  by_cases hl : pl_lst p n < n
  · rw [decide_eq_true hl, pl_any_iff]
    exact ⟨_, hl, h.1 hl⟩
  · rw [decide_eq_false hl]
    cases ha : pl_any p n with
    | false => rfl
    | true =>
      obtain ⟨i, hi, hp⟩ := (pl_any_iff p n).mp ha
      have := h.2 i (by omega)
      rw [this] at hp
      cases hp
/-- a search: the first below N that has p ends it -/
theorem pl_srch {α : Type} {F : Nat → Nat → Option α} {R0 : Option α} {R1 : Nat → Option α} (N : Nat) (p : Nat → Bool) (hs : ∀ fu i, i < N → p i = false → F (fu + 1) i = F fu (i + 1)) (hp : ∀ fu i, i < N → p i = true → F (fu + 1) i = R1 i) (he : ∀ fu, F (fu + 1) N = R0) (fu : Nat) (hf : N < fu) : F fu 0 = if pl_lst p N < N then R1 (pl_lst p N) else R0 := by
  have hl := pl_lst_p p N
  have hle := pl_lst_le p N
  have : ∀ d i fu, i + d = pl_lst p N → d + (N - pl_lst p N) < fu → F fu i = F (fu - d) (pl_lst p N) := by
    intro d
    induction d with
    | zero => intro i fu hi hf; rw [show i = pl_lst p N by omega]; rfl
    | succ d ih =>
      intro i fu hi hf
      obtain ⟨fu, rfl⟩ : ∃ k, fu = k + 1 := ⟨fu - 1, by omega⟩
      rw [hs fu i (by omega) (hl.2 i (by omega)), ih (i + 1) fu (by omega) (by omega), show fu + 1 - (d + 1) = fu - d by omega]
  rw [this (pl_lst p N) 0 fu (by omega) (by omega)]
  obtain ⟨k, hk⟩ : ∃ k, fu - pl_lst p N = k + 1 := ⟨fu - pl_lst p N - 1, by omega⟩
  rw [hk]
  by_cases h : pl_lst p N < N
  · rw [if_pos h, hp k _ h (hl.1 h)]
  · rw [if_neg h]
    have he' := he k
    rw [show pl_lst p N = N by omega]
    exact he'
theorem pl_isOf2 {A : pl_A} {m : ml_M} (hW : pl_W A) (hC : pl_Ci A m) {i k : Nat} (hi : i < pl_N A 0 3 0) (hk : k ≤ 5) : fX8_isOf (ml_R m 8 i) (nI k) m = some (if pl_is A i k then 1 else 0) ∧ (pl_is A i k = true → fX8_tells (ml_R m 8 i) (nI k) m = some (nI (pl_te A i k))) := by
  obtain ⟨k1, k2, k3, k4, k5, k6, k7, k8, k9⟩ := hC.1 i hi
  have k1 := k1.2.2
  have hwi := hW.2.2.2.2.1 i hi
  refine ⟨?_, fun h => ?_⟩
  · simp (disch := omega) [fX8_isOf, fX8_isOf_21, ↓pl_let, pl_b1, pl_b2, ↓reduceIte, pl_l1, pl_l2, pl_l3, pl_l4, pl_l5, pl_l6, pl_l7, pl_l8, pl_l9, pl_l10, pl_l11, pl_l12, pl_l13, pl_l14, pl_l15, pl_l16, pl_l17, pl_l18, pl_l19, pl_l20, pl_l21, pl_l22, pl_l23, pl_l24, pl_l25, pl_l26, pl_l27, pl_l28, pl_l29, pl_l30, pl_l31, pl_l32, pl_l33, pl_l34, pl_l35, pl_l36, pl_l37, pl_l38, pl_l39, pl_l40, pl_l41, pl_l42, pl_l43, pl_l44, pl_l45, pl_l46, pl_l47, pl_l48, pl_l49, pl_l50, pl_l51, pl_l52, pl_l53, pl_l54, pl_l55, pl_l56, pl_l57, pl_l58, pl_l59, pl_l60, pl_l61, pl_l62, pl_l63, pl_l64, pl_l99, pl_l100, pl_l119, pl_l120, pl_l255, pl_l256, pl_l999, pl_l1000, pl_l1023, pl_l1024, pl_l1111, pl_l5555, pl_l10240, pl_eq0, pl_le0, pl_lt0, pl_neg, pl_leN, pl_ltN, nI_leI, nI_ltI, nI_eq, nI_add, pk_mul, pl_sub, pk_div, pk_rem, nI_clamp, pl_in, pl_ofN, pl_shl1, pl_or, pl_and, pl_le1, pl_sz1, pl_within, pl_inM, pl_isRow, pl_isRowM, pl_isText, pl_isTextM, pl_leZ, pl_0eq, pl_0lt, pl_shl2, pl_shr2, pl_tcE, pl_tcN, pl_ne1, pl_rem3, k1, k2, pl_is]
    grind
  · unfold pl_is at h
    have h := of_decide_eq_true h
    by_cases h3 : k = 3
    · rw [if_pos (by omega)] at k6
      simp (disch := omega) [fX8_tells, ↓pl_let, pl_b1, pl_b2, ↓reduceIte, pl_l1, pl_l2, pl_l3, pl_l4, pl_l5, pl_l6, pl_l7, pl_l8, pl_l9, pl_l10, pl_l11, pl_l12, pl_l13, pl_l14, pl_l15, pl_l16, pl_l17, pl_l18, pl_l19, pl_l20, pl_l21, pl_l22, pl_l23, pl_l24, pl_l25, pl_l26, pl_l27, pl_l28, pl_l29, pl_l30, pl_l31, pl_l32, pl_l33, pl_l34, pl_l35, pl_l36, pl_l37, pl_l38, pl_l39, pl_l40, pl_l41, pl_l42, pl_l43, pl_l44, pl_l45, pl_l46, pl_l47, pl_l48, pl_l49, pl_l50, pl_l51, pl_l52, pl_l53, pl_l54, pl_l55, pl_l56, pl_l57, pl_l58, pl_l59, pl_l60, pl_l61, pl_l62, pl_l63, pl_l64, pl_l99, pl_l100, pl_l119, pl_l120, pl_l255, pl_l256, pl_l999, pl_l1000, pl_l1023, pl_l1024, pl_l1111, pl_l5555, pl_l10240, pl_eq0, pl_le0, pl_lt0, pl_neg, pl_leN, pl_ltN, nI_leI, nI_ltI, nI_eq, nI_add, pk_mul, pl_sub, pk_div, pk_rem, nI_clamp, pl_in, pl_ofN, pl_shl1, pl_or, pl_and, pl_le1, pl_sz1, pl_within, pl_inM, pl_isRow, pl_isRowM, pl_isText, pl_isTextM, pl_leZ, pl_0eq, pl_0lt, pl_shl2, pl_shr2, pl_tcE, pl_tcN, pl_ne1, pl_rem3, k1, k6, pl_te, h3]
    · simp (disch := omega) [fX8_tells, ↓pl_let, pl_b1, pl_b2, ↓reduceIte, pl_l1, pl_l2, pl_l3, pl_l4, pl_l5, pl_l6, pl_l7, pl_l8, pl_l9, pl_l10, pl_l11, pl_l12, pl_l13, pl_l14, pl_l15, pl_l16, pl_l17, pl_l18, pl_l19, pl_l20, pl_l21, pl_l22, pl_l23, pl_l24, pl_l25, pl_l26, pl_l27, pl_l28, pl_l29, pl_l30, pl_l31, pl_l32, pl_l33, pl_l34, pl_l35, pl_l36, pl_l37, pl_l38, pl_l39, pl_l40, pl_l41, pl_l42, pl_l43, pl_l44, pl_l45, pl_l46, pl_l47, pl_l48, pl_l49, pl_l50, pl_l51, pl_l52, pl_l53, pl_l54, pl_l55, pl_l56, pl_l57, pl_l58, pl_l59, pl_l60, pl_l61, pl_l62, pl_l63, pl_l64, pl_l99, pl_l100, pl_l119, pl_l120, pl_l255, pl_l256, pl_l999, pl_l1000, pl_l1023, pl_l1024, pl_l1111, pl_l5555, pl_l10240, pl_eq0, pl_le0, pl_lt0, pl_neg, pl_leN, pl_ltN, nI_leI, nI_ltI, nI_eq, nI_add, pk_mul, pl_sub, pk_div, pk_rem, nI_clamp, pl_in, pl_ofN, pl_shl1, pl_or, pl_and, pl_le1, pl_sz1, pl_within, pl_inM, pl_isRow, pl_isRowM, pl_isText, pl_isTextM, pl_leZ, pl_0eq, pl_0lt, pl_shl2, pl_shr2, pl_tcE, pl_tcN, pl_ne1, pl_rem3, k1, k5, pl_te, h3]
/-- thing i has mark (k, v) in trunk t; mark j of claim c is true -/
def pl_hm (A : pl_A) (t k : Nat) (v : Int32) (i : Nat) : Bool := decide (pl_N A 4 i 3 = t) && (pl_is A i k && decide (nI (pl_te A i k) = v))
def pl_tr (A : pl_A) (c j : Nat) : Bool := pl_any (pl_hm A (pl_N A 7 c 1) (pl_V A 2 c (2 * j)).toNatClampNeg (pl_V A 2 c (2 * j + 1))) (pl_N A 0 3 0)
def pl_tm (A : pl_A) (c : Nat) : Nat := pl_cnt (pl_tr A c) (pl_N A 7 c 2)
theorem pl_isTrue {A : pl_A} {m : ml_M} (hS : pl_Sh m) (hW : pl_W A) (hC : pl_Ci A m) (h5 : ml_I m 1 5 = nI (pl_N A 0 3 0)) {t k : Nat} (ht : t < 8) (hk : k ≤ 5) (v : Int32) : fX10_isTrue 1 (nI t) (nI k) v m = some (if pl_any (pl_hm A t k v) (pl_N A 0 3 0) then 1 else 0) := by
  have hw := hW.1
  unfold pl_Wc at hw
  unfold fX10_isTrue
  have hsr := pl_srch (F := fun fu i => fX10_isTrue_3 fu 1 (nI t) (nI k) v (nI i) m) (R0 := some 0) (R1 := fun _ => some 1) (pl_N A 0 3 0) (pl_hm A t k v) (fun fu i hi hp => ?_) (fun fu i hi hp => ?_) (fun fu => ?_) ml_fu (by rw [pl_fu]; omega)
  · rw [pl_lst_any]
    simp only [nI_0] at hsr
    rw [hsr]
    by_cases h : pl_lst (pl_hm A t k v) (pl_N A 0 3 0) < pl_N A 0 3 0 <;> simp [h]
  · obtain ⟨z1, z2, z3, z4, z5, z6, z7, z8, z9⟩ := hC.1 i hi
    have hb := pl_tcB hW hi
    obtain ⟨o1, o2⟩ := pl_isOf2 hW hC hi hk
    unfold pl_hm at hp
    by_cases h1 : pl_N A 4 i 3 = t
    · by_cases h2 : pl_is A i k = true
      · have o2 := o2 h2
        have h3 : ¬ nI (pl_te A i k) = v := by simpa [h1, h2] using hp
        simp (disch := omega) [fX10_isTrue_3, fX10_isTrue_51, ↓pl_let, pl_b1, pl_b2, ↓reduceIte, pl_k1 hS, pl_k2 hS, pl_k3 hS, pl_k8 hS, pl_k9 hS, pl_k10 hS, pl_k11 hS, pl_k12 hS, pl_k13 hS, pl_k14 hS, pl_k15 hS, pl_k16 hS, pl_k17 hS, pl_k18 hS, pl_k19 hS, pl_k20 hS, pl_k21 hS, pl_k22 hS, pl_k23 hS, pl_k24 hS, pl_k25 hS, pl_k26 hS, pl_k27 hS, pl_k28 hS, pl_k29 hS, pl_k30 hS, pl_k31 hS, pl_k32 hS, pl_r1_0 hS, pl_r1_1 hS, pl_r1_4 hS, pl_r1_6 hS, pl_r1_8 hS, pl_r1_10 hS, pl_r1_12 hS, pl_r1_13 hS, pl_r1_14 hS, pl_r1_18 hS, pl_r12_2 hS, pl_r12_3 hS, pl_r12_4 hS, pl_r12_8 hS, pl_r12_9 hS, pl_r12_10 hS, pl_r12_11 hS, pl_r12_12 hS, pl_r21_3 hS, pl_r21_5 hS, pl_r21_6 hS, pl_r21_7 hS, pl_r26_0 hS, pl_r26_2 hS, pl_r26_3 hS, pl_r26_4 hS, pl_r26_5 hS, pl_l1, pl_l2, pl_l3, pl_l4, pl_l5, pl_l6, pl_l7, pl_l8, pl_l9, pl_l10, pl_l11, pl_l12, pl_l13, pl_l14, pl_l15, pl_l16, pl_l17, pl_l18, pl_l19, pl_l20, pl_l21, pl_l22, pl_l23, pl_l24, pl_l25, pl_l26, pl_l27, pl_l28, pl_l29, pl_l30, pl_l31, pl_l32, pl_l33, pl_l34, pl_l35, pl_l36, pl_l37, pl_l38, pl_l39, pl_l40, pl_l41, pl_l42, pl_l43, pl_l44, pl_l45, pl_l46, pl_l47, pl_l48, pl_l49, pl_l50, pl_l51, pl_l52, pl_l53, pl_l54, pl_l55, pl_l56, pl_l57, pl_l58, pl_l59, pl_l60, pl_l61, pl_l62, pl_l63, pl_l64, pl_l99, pl_l100, pl_l119, pl_l120, pl_l255, pl_l256, pl_l999, pl_l1000, pl_l1023, pl_l1024, pl_l1111, pl_l5555, pl_l10240, pl_eq0, pl_le0, pl_lt0, pl_neg, pl_leN, pl_ltN, nI_leI, nI_ltI, nI_eq, nI_add, pk_mul, pl_sub, pk_div, pk_rem, nI_clamp, pl_in, pl_ofN, pl_shl1, pl_or, pl_and, pl_le1, pl_sz1, pl_within, pl_inM, pl_isRow, pl_isRowM, pl_isText, pl_isTextM, pl_leZ, pl_0eq, pl_0lt, pl_shl2, pl_shr2, pl_tcE, pl_tcN, pl_ne1, pl_rem3, h5, z1.2.2, z8, h1, o1, o2, h2, h3, show i < 20 by omega, show ¬ pl_N A 0 3 0 ≤ i by omega]
      · simp (disch := omega) [fX10_isTrue_3, fX10_isTrue_51, ↓pl_let, pl_b1, pl_b2, ↓reduceIte, pl_k1 hS, pl_k2 hS, pl_k3 hS, pl_k8 hS, pl_k9 hS, pl_k10 hS, pl_k11 hS, pl_k12 hS, pl_k13 hS, pl_k14 hS, pl_k15 hS, pl_k16 hS, pl_k17 hS, pl_k18 hS, pl_k19 hS, pl_k20 hS, pl_k21 hS, pl_k22 hS, pl_k23 hS, pl_k24 hS, pl_k25 hS, pl_k26 hS, pl_k27 hS, pl_k28 hS, pl_k29 hS, pl_k30 hS, pl_k31 hS, pl_k32 hS, pl_r1_0 hS, pl_r1_1 hS, pl_r1_4 hS, pl_r1_6 hS, pl_r1_8 hS, pl_r1_10 hS, pl_r1_12 hS, pl_r1_13 hS, pl_r1_14 hS, pl_r1_18 hS, pl_r12_2 hS, pl_r12_3 hS, pl_r12_4 hS, pl_r12_8 hS, pl_r12_9 hS, pl_r12_10 hS, pl_r12_11 hS, pl_r12_12 hS, pl_r21_3 hS, pl_r21_5 hS, pl_r21_6 hS, pl_r21_7 hS, pl_r26_0 hS, pl_r26_2 hS, pl_r26_3 hS, pl_r26_4 hS, pl_r26_5 hS, pl_l1, pl_l2, pl_l3, pl_l4, pl_l5, pl_l6, pl_l7, pl_l8, pl_l9, pl_l10, pl_l11, pl_l12, pl_l13, pl_l14, pl_l15, pl_l16, pl_l17, pl_l18, pl_l19, pl_l20, pl_l21, pl_l22, pl_l23, pl_l24, pl_l25, pl_l26, pl_l27, pl_l28, pl_l29, pl_l30, pl_l31, pl_l32, pl_l33, pl_l34, pl_l35, pl_l36, pl_l37, pl_l38, pl_l39, pl_l40, pl_l41, pl_l42, pl_l43, pl_l44, pl_l45, pl_l46, pl_l47, pl_l48, pl_l49, pl_l50, pl_l51, pl_l52, pl_l53, pl_l54, pl_l55, pl_l56, pl_l57, pl_l58, pl_l59, pl_l60, pl_l61, pl_l62, pl_l63, pl_l64, pl_l99, pl_l100, pl_l119, pl_l120, pl_l255, pl_l256, pl_l999, pl_l1000, pl_l1023, pl_l1024, pl_l1111, pl_l5555, pl_l10240, pl_eq0, pl_le0, pl_lt0, pl_neg, pl_leN, pl_ltN, nI_leI, nI_ltI, nI_eq, nI_add, pk_mul, pl_sub, pk_div, pk_rem, nI_clamp, pl_in, pl_ofN, pl_shl1, pl_or, pl_and, pl_le1, pl_sz1, pl_within, pl_inM, pl_isRow, pl_isRowM, pl_isText, pl_isTextM, pl_leZ, pl_0eq, pl_0lt, pl_shl2, pl_shr2, pl_tcE, pl_tcN, pl_ne1, pl_rem3, h5, z1.2.2, z8, h1, o1, h2, show i < 20 by omega, show ¬ pl_N A 0 3 0 ≤ i by omega]
    · simp (disch := omega) [fX10_isTrue_3, fX10_isTrue_51, ↓pl_let, pl_b1, pl_b2, ↓reduceIte, pl_k1 hS, pl_k2 hS, pl_k3 hS, pl_k8 hS, pl_k9 hS, pl_k10 hS, pl_k11 hS, pl_k12 hS, pl_k13 hS, pl_k14 hS, pl_k15 hS, pl_k16 hS, pl_k17 hS, pl_k18 hS, pl_k19 hS, pl_k20 hS, pl_k21 hS, pl_k22 hS, pl_k23 hS, pl_k24 hS, pl_k25 hS, pl_k26 hS, pl_k27 hS, pl_k28 hS, pl_k29 hS, pl_k30 hS, pl_k31 hS, pl_k32 hS, pl_r1_0 hS, pl_r1_1 hS, pl_r1_4 hS, pl_r1_6 hS, pl_r1_8 hS, pl_r1_10 hS, pl_r1_12 hS, pl_r1_13 hS, pl_r1_14 hS, pl_r1_18 hS, pl_r12_2 hS, pl_r12_3 hS, pl_r12_4 hS, pl_r12_8 hS, pl_r12_9 hS, pl_r12_10 hS, pl_r12_11 hS, pl_r12_12 hS, pl_r21_3 hS, pl_r21_5 hS, pl_r21_6 hS, pl_r21_7 hS, pl_r26_0 hS, pl_r26_2 hS, pl_r26_3 hS, pl_r26_4 hS, pl_r26_5 hS, pl_l1, pl_l2, pl_l3, pl_l4, pl_l5, pl_l6, pl_l7, pl_l8, pl_l9, pl_l10, pl_l11, pl_l12, pl_l13, pl_l14, pl_l15, pl_l16, pl_l17, pl_l18, pl_l19, pl_l20, pl_l21, pl_l22, pl_l23, pl_l24, pl_l25, pl_l26, pl_l27, pl_l28, pl_l29, pl_l30, pl_l31, pl_l32, pl_l33, pl_l34, pl_l35, pl_l36, pl_l37, pl_l38, pl_l39, pl_l40, pl_l41, pl_l42, pl_l43, pl_l44, pl_l45, pl_l46, pl_l47, pl_l48, pl_l49, pl_l50, pl_l51, pl_l52, pl_l53, pl_l54, pl_l55, pl_l56, pl_l57, pl_l58, pl_l59, pl_l60, pl_l61, pl_l62, pl_l63, pl_l64, pl_l99, pl_l100, pl_l119, pl_l120, pl_l255, pl_l256, pl_l999, pl_l1000, pl_l1023, pl_l1024, pl_l1111, pl_l5555, pl_l10240, pl_eq0, pl_le0, pl_lt0, pl_neg, pl_leN, pl_ltN, nI_leI, nI_ltI, nI_eq, nI_add, pk_mul, pl_sub, pk_div, pk_rem, nI_clamp, pl_in, pl_ofN, pl_shl1, pl_or, pl_and, pl_le1, pl_sz1, pl_within, pl_inM, pl_isRow, pl_isRowM, pl_isText, pl_isTextM, pl_leZ, pl_0eq, pl_0lt, pl_shl2, pl_shr2, pl_tcE, pl_tcN, pl_ne1, pl_rem3, h5, z1.2.2, z8, h1, show i < 20 by omega, show ¬ pl_N A 0 3 0 ≤ i by omega]
  · obtain ⟨z1, z2, z3, z4, z5, z6, z7, z8, z9⟩ := hC.1 i hi
    have hb := pl_tcB hW hi
    obtain ⟨o1, o2⟩ := pl_isOf2 hW hC hi hk
    unfold pl_hm at hp
    simp only [Bool.and_eq_true, decide_eq_true_eq] at hp
    obtain ⟨h1, h2, h3⟩ := hp
    have o2 := o2 h2
    simp (disch := omega) [fX10_isTrue_3, fX10_isTrue_51, ↓pl_let, pl_b1, pl_b2, ↓reduceIte, pl_k1 hS, pl_k2 hS, pl_k3 hS, pl_k8 hS, pl_k9 hS, pl_k10 hS, pl_k11 hS, pl_k12 hS, pl_k13 hS, pl_k14 hS, pl_k15 hS, pl_k16 hS, pl_k17 hS, pl_k18 hS, pl_k19 hS, pl_k20 hS, pl_k21 hS, pl_k22 hS, pl_k23 hS, pl_k24 hS, pl_k25 hS, pl_k26 hS, pl_k27 hS, pl_k28 hS, pl_k29 hS, pl_k30 hS, pl_k31 hS, pl_k32 hS, pl_r1_0 hS, pl_r1_1 hS, pl_r1_4 hS, pl_r1_6 hS, pl_r1_8 hS, pl_r1_10 hS, pl_r1_12 hS, pl_r1_13 hS, pl_r1_14 hS, pl_r1_18 hS, pl_r12_2 hS, pl_r12_3 hS, pl_r12_4 hS, pl_r12_8 hS, pl_r12_9 hS, pl_r12_10 hS, pl_r12_11 hS, pl_r12_12 hS, pl_r21_3 hS, pl_r21_5 hS, pl_r21_6 hS, pl_r21_7 hS, pl_r26_0 hS, pl_r26_2 hS, pl_r26_3 hS, pl_r26_4 hS, pl_r26_5 hS, pl_l1, pl_l2, pl_l3, pl_l4, pl_l5, pl_l6, pl_l7, pl_l8, pl_l9, pl_l10, pl_l11, pl_l12, pl_l13, pl_l14, pl_l15, pl_l16, pl_l17, pl_l18, pl_l19, pl_l20, pl_l21, pl_l22, pl_l23, pl_l24, pl_l25, pl_l26, pl_l27, pl_l28, pl_l29, pl_l30, pl_l31, pl_l32, pl_l33, pl_l34, pl_l35, pl_l36, pl_l37, pl_l38, pl_l39, pl_l40, pl_l41, pl_l42, pl_l43, pl_l44, pl_l45, pl_l46, pl_l47, pl_l48, pl_l49, pl_l50, pl_l51, pl_l52, pl_l53, pl_l54, pl_l55, pl_l56, pl_l57, pl_l58, pl_l59, pl_l60, pl_l61, pl_l62, pl_l63, pl_l64, pl_l99, pl_l100, pl_l119, pl_l120, pl_l255, pl_l256, pl_l999, pl_l1000, pl_l1023, pl_l1024, pl_l1111, pl_l5555, pl_l10240, pl_eq0, pl_le0, pl_lt0, pl_neg, pl_leN, pl_ltN, nI_leI, nI_ltI, nI_eq, nI_add, pk_mul, pl_sub, pk_div, pk_rem, nI_clamp, pl_in, pl_ofN, pl_shl1, pl_or, pl_and, pl_le1, pl_sz1, pl_within, pl_inM, pl_isRow, pl_isRowM, pl_isText, pl_isTextM, pl_leZ, pl_0eq, pl_0lt, pl_shl2, pl_shr2, pl_tcE, pl_tcN, pl_ne1, pl_rem3, h5, z1.2.2, z8, h1, o1, o2, h2, h3, show i < 20 by omega, show ¬ pl_N A 0 3 0 ≤ i by omega]
  · simp (disch := omega) [fX10_isTrue_3, ↓pl_let, pl_b1, pl_b2, ↓reduceIte, pl_k1 hS, pl_k2 hS, pl_k3 hS, pl_k8 hS, pl_k9 hS, pl_k10 hS, pl_k11 hS, pl_k12 hS, pl_k13 hS, pl_k14 hS, pl_k15 hS, pl_k16 hS, pl_k17 hS, pl_k18 hS, pl_k19 hS, pl_k20 hS, pl_k21 hS, pl_k22 hS, pl_k23 hS, pl_k24 hS, pl_k25 hS, pl_k26 hS, pl_k27 hS, pl_k28 hS, pl_k29 hS, pl_k30 hS, pl_k31 hS, pl_k32 hS, pl_r1_0 hS, pl_r1_1 hS, pl_r1_4 hS, pl_r1_6 hS, pl_r1_8 hS, pl_r1_10 hS, pl_r1_12 hS, pl_r1_13 hS, pl_r1_14 hS, pl_r1_18 hS, pl_r12_2 hS, pl_r12_3 hS, pl_r12_4 hS, pl_r12_8 hS, pl_r12_9 hS, pl_r12_10 hS, pl_r12_11 hS, pl_r12_12 hS, pl_r21_3 hS, pl_r21_5 hS, pl_r21_6 hS, pl_r21_7 hS, pl_r26_0 hS, pl_r26_2 hS, pl_r26_3 hS, pl_r26_4 hS, pl_r26_5 hS, pl_l1, pl_l2, pl_l3, pl_l4, pl_l5, pl_l6, pl_l7, pl_l8, pl_l9, pl_l10, pl_l11, pl_l12, pl_l13, pl_l14, pl_l15, pl_l16, pl_l17, pl_l18, pl_l19, pl_l20, pl_l21, pl_l22, pl_l23, pl_l24, pl_l25, pl_l26, pl_l27, pl_l28, pl_l29, pl_l30, pl_l31, pl_l32, pl_l33, pl_l34, pl_l35, pl_l36, pl_l37, pl_l38, pl_l39, pl_l40, pl_l41, pl_l42, pl_l43, pl_l44, pl_l45, pl_l46, pl_l47, pl_l48, pl_l49, pl_l50, pl_l51, pl_l52, pl_l53, pl_l54, pl_l55, pl_l56, pl_l57, pl_l58, pl_l59, pl_l60, pl_l61, pl_l62, pl_l63, pl_l64, pl_l99, pl_l100, pl_l119, pl_l120, pl_l255, pl_l256, pl_l999, pl_l1000, pl_l1023, pl_l1024, pl_l1111, pl_l5555, pl_l10240, pl_eq0, pl_le0, pl_lt0, pl_neg, pl_leN, pl_ltN, nI_leI, nI_ltI, nI_eq, nI_add, pk_mul, pl_sub, pk_div, pk_rem, nI_clamp, pl_in, pl_ofN, pl_shl1, pl_or, pl_and, pl_le1, pl_sz1, pl_within, pl_inM, pl_isRow, pl_isRowM, pl_isText, pl_isTextM, pl_leZ, pl_0eq, pl_0lt, pl_shl2, pl_shr2, pl_tcE, pl_tcN, pl_ne1, pl_rem3, h5]
theorem pl_trueMarks {A : pl_A} {m : ml_M} (hS : pl_Sh m) (hW : pl_W A) (hC : pl_Ci A m) (hK : pl_Ck A m) (h5 : ml_I m 1 5 = nI (pl_N A 0 3 0)) {c : Nat} (hc : c < pl_N A 0 6 0) : fX10_trueMarks 1 (ml_R m 11 c) m = some (nI (pl_tm A c)) := by
  have hw := hW.1
  unfold pl_Wc at hw
  obtain ⟨w1, w2, w3, w4⟩ := hW.2.2.2.2.2.2.2.1 c hc
  obtain ⟨q1, q2, q3, q4, q5, q6⟩ := hK c hc
  unfold fX10_trueMarks
  refine pl_for (F := fun fu j g => fX10_trueMarks_4 fu 1 (ml_R m 11 c) g (nI (2 * j)) m) (R := some (nI (pl_tm A c))) (pl_N A 7 c 2) (fun j => nI (pl_cnt (pl_tr A c) j)) (fun fu j hj => ?_) (fun fu => ?_) ml_fu (by rw [pl_fu]; omega)
  · obtain ⟨kd, kd1, kd2, kd3⟩ := w4 j hj
    have e0 := q6 (2 * j) (by omega)
    have e1 := q6 (2 * j + 1) (by omega)
    have hit := pl_isTrue hS hW hC h5 (t := pl_N A 7 c 1) (by omega) kd2 (pl_V A 2 c (2 * j + 1))
    have htr : pl_tr A c j = pl_any (pl_hm A (pl_N A 7 c 1) kd (pl_V A 2 c (2 * j + 1))) (pl_N A 0 3 0) := by
      unfold pl_tr; rw [kd3, nI_clamp (by omega)]
    rw [← htr] at hit
    rw [kd3] at e0
    have hlt : 2 * j < 2 * pl_N A 7 c 2 := by omega
    have hlt2 : 2 * j + 1 < 2 * pl_N A 7 c 2 := by omega
    show fX10_trueMarks_4 (fu + 1) 1 (ml_R m 11 c) _ (nI (2 * j)) m = fX10_trueMarks_4 fu 1 (ml_R m 11 c) _ (nI (2 * j + 2)) m
    simp (disch := omega) only [fX10_trueMarks_4, fX10_trueMarks_43, ↓pl_let, pl_b1, pl_b2, ↓reduceIte, pl_l1, pl_l2, pl_l3, pl_l4, pl_l5, pl_l6, pl_l7, pl_l8, pl_l9, pl_l10, pl_l11, pl_l12, pl_l13, pl_l14, pl_l15, pl_l16, pl_l17, pl_l18, pl_l19, pl_l20, pl_l21, pl_l22, pl_l23, pl_l24, pl_l25, pl_l26, pl_l27, pl_l28, pl_l29, pl_l30, pl_l31, pl_l32, pl_l33, pl_l34, pl_l35, pl_l36, pl_l37, pl_l38, pl_l39, pl_l40, pl_l41, pl_l42, pl_l43, pl_l44, pl_l45, pl_l46, pl_l47, pl_l48, pl_l49, pl_l50, pl_l51, pl_l52, pl_l53, pl_l54, pl_l55, pl_l56, pl_l57, pl_l58, pl_l59, pl_l60, pl_l61, pl_l62, pl_l63, pl_l64, pl_l99, pl_l100, pl_l119, pl_l120, pl_l255, pl_l256, pl_l999, pl_l1000, pl_l1023, pl_l1024, pl_l1111, pl_l5555, pl_l10240, pl_k1 hS, q1.2.2, q4.2.2, pl_ofN, nI_add, nI_leI, pl_in, nI_clamp, hlt, hlt2, and_self, if_true, show ¬ 2 * pl_N A 7 c 2 ≤ 2 * j + 1 by omega, if_false, q3, e0, e1, hit]
    by_cases h : pl_tr A c j = true
    · rw [if_pos h, if_neg (by decide), pl_cnt1, if_pos h]
    · rw [if_neg h, if_pos rfl, pl_cnt1, if_neg h]
  · show fX10_trueMarks_4 (fu + 1) 1 (ml_R m 11 c) _ (nI (2 * pl_N A 7 c 2)) m = _
    simp (disch := omega) only [fX10_trueMarks_4, ↓pl_let, pl_b1, pl_b2, ↓reduceIte, pl_l1, pl_l2, pl_l3, pl_l4, pl_l5, pl_l6, pl_l7, pl_l8, pl_l9, pl_l10, pl_l11, pl_l12, pl_l13, pl_l14, pl_l15, pl_l16, pl_l17, pl_l18, pl_l19, pl_l20, pl_l21, pl_l22, pl_l23, pl_l24, pl_l25, pl_l26, pl_l27, pl_l28, pl_l29, pl_l30, pl_l31, pl_l32, pl_l33, pl_l34, pl_l35, pl_l36, pl_l37, pl_l38, pl_l39, pl_l40, pl_l41, pl_l42, pl_l43, pl_l44, pl_l45, pl_l46, pl_l47, pl_l48, pl_l49, pl_l50, pl_l51, pl_l52, pl_l53, pl_l54, pl_l55, pl_l56, pl_l57, pl_l58, pl_l59, pl_l60, pl_l61, pl_l62, pl_l63, pl_l64, pl_l99, pl_l100, pl_l119, pl_l120, pl_l255, pl_l256, pl_l999, pl_l1000, pl_l1023, pl_l1024, pl_l1111, pl_l5555, pl_l10240, q1.2.2, q4.2.2, pl_ofN, nI_add, nI_leI, show 2 * pl_N A 7 c 2 ≤ 2 * pl_N A 7 c 2 + 1 by omega, if_true]
    rfl

/-! ROWS, go on: row, tear, mean, copy; a row cleared. -/
/-- a loop from 0 to N - 1 whose state at i is known -/
theorem pl_for {σ α : Type} {F : Nat → Nat → σ → Option α} {R : Option α} (N : Nat) (st : Nat → σ) (hs : ∀ fu i, i < N → F (fu + 1) i (st i) = F fu (i + 1) (st (i + 1))) (he : ∀ fu, F (fu + 1) N (st N) = R) (fu : Nat) (hf : N < fu) : F fu 0 (st 0) = R := by
  have : ∀ d i fu, i + d = N → d < fu → F fu i (st i) = R := by
    intro d
    induction d with
    | zero =>
      intro i fu hi hf
      obtain ⟨fu, rfl⟩ : ∃ k, fu = k + 1 := ⟨fu - 1, by omega⟩
      rw [show i = N by omega]
      exact he fu
    | succ d ih =>
      intro i fu hi hf
      obtain ⟨fu, rfl⟩ : ∃ k, fu = k + 1 := ⟨fu - 1, by omega⟩
      rw [hs fu i (by omega)]
      exact ih (i + 1) fu (by omega) (by omega)
  exact this N 0 fu (by omega) hf
/-- the same with an early end -/
theorem pl_forE {σ α : Type} {F : Nat → Nat → σ → Option α} {R : Option α} (N : Nat) (st : Nat → σ) (hs : ∀ fu i, i < N → F (fu + 1) i (st i) = F fu (i + 1) (st (i + 1)) ∨ F (fu + 1) i (st i) = R) (he : ∀ fu, F (fu + 1) N (st N) = R) (fu : Nat) (hf : N < fu) : F fu 0 (st 0) = R := by
  have : ∀ d i fu, i + d = N → d < fu → F fu i (st i) = R := by
    intro d
    induction d with
    | zero =>
      intro i fu hi hf
      obtain ⟨fu, rfl⟩ : ∃ k, fu = k + 1 := ⟨fu - 1, by omega⟩
      rw [show i = N by omega]
      exact he fu
    | succ d ih =>
      intro i fu hi hf
      obtain ⟨fu, rfl⟩ : ∃ k, fu = k + 1 := ⟨fu - 1, by omega⟩
      rcases hs fu i (by omega) with h | h
      · rw [h]; exact ih (i + 1) fu (by omega) (by omega)
      · exact h
  exact this N 0 fu (by omega) hf
/-- a row's ints from 0 on: the first i noughts -/
def pl_z (m : ml_M) (r i : Nat) : Nat → Int32 := fun x => if 48 * r ≤ x ∧ x < 48 * r + i then 0 else ml_I m 36 x
theorem pl_z0 (m : ml_M) (r : Nat) : pl_z m r 0 = ml_I m 36 := by
  funext x; unfold pl_z; rw [if_neg (by omega)]
theorem pl_z1 (m : ml_M) (r i : Nat) : (fun x => if x = 48 * r + i then 0 else pl_z m r i x) = pl_z m r (i + 1) := by
  funext x; unfold pl_z; grind
theorem pl_row34 {m : ml_M} (hS : pl_Sh m) (r : Nat) (hr : r < 6) (v : Int32) : fX11_row_34 ml_fu 33 (nI r) v 0 m = some (v, pl_wI m 36 (pl_z m r 48)) := by
  have h := pl_for (F := fun fu i g => fX11_row_34 fu 33 (nI r) v (nI i) (pl_wI m 36 g)) (R := some (v, pl_wI m 36 (pl_z m r 48))) 48 (pl_z m r) (fun fu i hi => ?_) (fun fu => ?_) ml_fu (by rw [pl_fu]; omega)
  · rw [pl_z0, pl_wI_0] at h; exact h
  · simp (disch := omega) [fX11_row_34, ↓pl_let, pl_b1, pl_b2, ↓reduceIte, pl_k33 hS, pl_k34 hS, pl_k35 hS, pl_k36 hS, pl_k37 hS, pl_k38 hS, pl_k39 hS, pl_k40 hS, pl_k41 hS, pl_k42 hS, pl_k43 hS, pl_k44 hS, pl_k45 hS, pl_k46 hS, pl_k47 hS, pl_k48 hS, pl_k49 hS, pl_k50 hS, pl_k51 hS, pl_k52 hS, pl_k53 hS, pl_k54 hS, pl_k55 hS, pl_k56 hS, pl_k57 hS, pl_k58 hS, pl_k59 hS, pl_k60 hS, pl_r33_1 hS, pl_r33_4 hS, pl_r33_5 hS, pl_r33_6 hS, pl_r33_7 hS, pl_r33_8 hS, pl_r33_12 hS, pl_r33_13 hS, pl_r33_14 hS, pl_r33_20 hS, pl_r33_21 hS, pl_r33_22 hS, pl_r33_25 hS, pl_r33_26 hS, pl_r33_27 hS, pl_r33_29 hS, pl_r33_31 hS, pl_r33_35 hS, pl_r33_36 hS, pl_r33_38 hS, pl_r33_39 hS, pl_r33_40 hS, pl_r33_42 hS, pl_r33_43 hS, pl_r33_44 hS, pl_r33_45 hS, pl_r33_47 hS, pl_l1, pl_l2, pl_l3, pl_l4, pl_l5, pl_l6, pl_l7, pl_l8, pl_l9, pl_l10, pl_l11, pl_l12, pl_l13, pl_l14, pl_l15, pl_l16, pl_l17, pl_l18, pl_l19, pl_l20, pl_l21, pl_l22, pl_l23, pl_l24, pl_l25, pl_l26, pl_l27, pl_l28, pl_l29, pl_l30, pl_l31, pl_l32, pl_l33, pl_l34, pl_l35, pl_l36, pl_l37, pl_l38, pl_l39, pl_l40, pl_l41, pl_l42, pl_l43, pl_l44, pl_l45, pl_l46, pl_l47, pl_l48, pl_l49, pl_l50, pl_l51, pl_l52, pl_l53, pl_l54, pl_l55, pl_l56, pl_l57, pl_l58, pl_l59, pl_l60, pl_l61, pl_l62, pl_l63, pl_l64, pl_l99, pl_l100, pl_l119, pl_l120, pl_l255, pl_l256, pl_l999, pl_l1000, pl_l1023, pl_l1024, pl_l1111, pl_l5555, pl_l10240, pl_eq0, pl_le0, pl_lt0, pl_neg, pl_leN, pl_ltN, nI_leI, nI_ltI, nI_eq, nI_add, pk_mul, pl_sub, pk_div, pk_rem, nI_clamp, pl_in, pl_ofN, pl_shl1, pl_or, pl_and, pl_le1, pl_sz1, pl_within, pl_inM, pl_isRow, pl_isRowM, pl_isText, pl_isTextM, pl_I_wI, pl_R_wI, pl_J_wI, pl_K_wI, pl_n_wI, pl_s_wI, pl_wI_sI, show ¬ 48 ≤ i by omega, show 48 * r + i < 288 by omega, pl_z1]
  · simp (disch := omega) [fX11_row_34, pl_l1, pl_l2, pl_l3, pl_l4, pl_l5, pl_l6, pl_l7, pl_l8, pl_l9, pl_l10, pl_l11, pl_l12, pl_l13, pl_l14, pl_l15, pl_l16, pl_l17, pl_l18, pl_l19, pl_l20, pl_l21, pl_l22, pl_l23, pl_l24, pl_l25, pl_l26, pl_l27, pl_l28, pl_l29, pl_l30, pl_l31, pl_l32, pl_l33, pl_l34, pl_l35, pl_l36, pl_l37, pl_l38, pl_l39, pl_l40, pl_l41, pl_l42, pl_l43, pl_l44, pl_l45, pl_l46, pl_l47, pl_l48, pl_l49, pl_l50, pl_l51, pl_l52, pl_l53, pl_l54, pl_l55, pl_l56, pl_l57, pl_l58, pl_l59, pl_l60, pl_l61, pl_l62, pl_l63, pl_l64, pl_l99, pl_l100, pl_l119, pl_l120, pl_l255, pl_l256, pl_l999, pl_l1000, pl_l1023, pl_l1024, pl_l1111, pl_l5555, pl_l10240, pl_eq0, pl_le0, pl_lt0, pl_neg, pl_leN, pl_ltN, nI_leI, nI_ltI, nI_eq, nI_add, pk_mul, pl_sub, pk_div, pk_rem, nI_clamp, pl_in, pl_ofN, pl_shl1, pl_or, pl_and, pl_le1, pl_sz1, pl_within, pl_inM, pl_isRow, pl_isRowM, pl_isText, pl_isTextM]
theorem pl_clear9 {m : ml_M} (hS : pl_Sh m) (r : Nat) (hr : r < 6) : fX11_clear_9 ml_fu 33 (nI r) 0 m = some (pl_wI m 36 (pl_z m r 48)) := by
  have h := pl_for (F := fun fu i g => fX11_clear_9 fu 33 (nI r) (nI i) (pl_wI m 36 g)) (R := some (pl_wI m 36 (pl_z m r 48))) 48 (pl_z m r) (fun fu i hi => ?_) (fun fu => ?_) ml_fu (by rw [pl_fu]; omega)
  · rw [pl_z0, pl_wI_0] at h; exact h
  · simp (disch := omega) [fX11_clear_9, ↓pl_let, pl_b1, pl_b2, ↓reduceIte, pl_k33 hS, pl_k34 hS, pl_k35 hS, pl_k36 hS, pl_k37 hS, pl_k38 hS, pl_k39 hS, pl_k40 hS, pl_k41 hS, pl_k42 hS, pl_k43 hS, pl_k44 hS, pl_k45 hS, pl_k46 hS, pl_k47 hS, pl_k48 hS, pl_k49 hS, pl_k50 hS, pl_k51 hS, pl_k52 hS, pl_k53 hS, pl_k54 hS, pl_k55 hS, pl_k56 hS, pl_k57 hS, pl_k58 hS, pl_k59 hS, pl_k60 hS, pl_r33_1 hS, pl_r33_4 hS, pl_r33_5 hS, pl_r33_6 hS, pl_r33_7 hS, pl_r33_8 hS, pl_r33_12 hS, pl_r33_13 hS, pl_r33_14 hS, pl_r33_20 hS, pl_r33_21 hS, pl_r33_22 hS, pl_r33_25 hS, pl_r33_26 hS, pl_r33_27 hS, pl_r33_29 hS, pl_r33_31 hS, pl_r33_35 hS, pl_r33_36 hS, pl_r33_38 hS, pl_r33_39 hS, pl_r33_40 hS, pl_r33_42 hS, pl_r33_43 hS, pl_r33_44 hS, pl_r33_45 hS, pl_r33_47 hS, pl_l1, pl_l2, pl_l3, pl_l4, pl_l5, pl_l6, pl_l7, pl_l8, pl_l9, pl_l10, pl_l11, pl_l12, pl_l13, pl_l14, pl_l15, pl_l16, pl_l17, pl_l18, pl_l19, pl_l20, pl_l21, pl_l22, pl_l23, pl_l24, pl_l25, pl_l26, pl_l27, pl_l28, pl_l29, pl_l30, pl_l31, pl_l32, pl_l33, pl_l34, pl_l35, pl_l36, pl_l37, pl_l38, pl_l39, pl_l40, pl_l41, pl_l42, pl_l43, pl_l44, pl_l45, pl_l46, pl_l47, pl_l48, pl_l49, pl_l50, pl_l51, pl_l52, pl_l53, pl_l54, pl_l55, pl_l56, pl_l57, pl_l58, pl_l59, pl_l60, pl_l61, pl_l62, pl_l63, pl_l64, pl_l99, pl_l100, pl_l119, pl_l120, pl_l255, pl_l256, pl_l999, pl_l1000, pl_l1023, pl_l1024, pl_l1111, pl_l5555, pl_l10240, pl_eq0, pl_le0, pl_lt0, pl_neg, pl_leN, pl_ltN, nI_leI, nI_ltI, nI_eq, nI_add, pk_mul, pl_sub, pk_div, pk_rem, nI_clamp, pl_in, pl_ofN, pl_shl1, pl_or, pl_and, pl_le1, pl_sz1, pl_within, pl_inM, pl_isRow, pl_isRowM, pl_isText, pl_isTextM, pl_I_wI, pl_R_wI, pl_J_wI, pl_K_wI, pl_n_wI, pl_s_wI, pl_wI_sI, show ¬ 48 ≤ i by omega, show 48 * r + i < 288 by omega, pl_z1]
  · simp (disch := omega) [fX11_clear_9, pl_l1, pl_l2, pl_l3, pl_l4, pl_l5, pl_l6, pl_l7, pl_l8, pl_l9, pl_l10, pl_l11, pl_l12, pl_l13, pl_l14, pl_l15, pl_l16, pl_l17, pl_l18, pl_l19, pl_l20, pl_l21, pl_l22, pl_l23, pl_l24, pl_l25, pl_l26, pl_l27, pl_l28, pl_l29, pl_l30, pl_l31, pl_l32, pl_l33, pl_l34, pl_l35, pl_l36, pl_l37, pl_l38, pl_l39, pl_l40, pl_l41, pl_l42, pl_l43, pl_l44, pl_l45, pl_l46, pl_l47, pl_l48, pl_l49, pl_l50, pl_l51, pl_l52, pl_l53, pl_l54, pl_l55, pl_l56, pl_l57, pl_l58, pl_l59, pl_l60, pl_l61, pl_l62, pl_l63, pl_l64, pl_l99, pl_l100, pl_l119, pl_l120, pl_l255, pl_l256, pl_l999, pl_l1000, pl_l1023, pl_l1024, pl_l1111, pl_l5555, pl_l10240, pl_eq0, pl_le0, pl_lt0, pl_neg, pl_leN, pl_ltN, nI_leI, nI_ltI, nI_eq, nI_add, pk_mul, pl_sub, pk_div, pk_rem, nI_clamp, pl_in, pl_ofN, pl_shl1, pl_or, pl_and, pl_le1, pl_sz1, pl_within, pl_inM, pl_isRow, pl_isRowM, pl_isText, pl_isTextM]
/-- a row of the reference cleared: its size, noughts -/
def pl_cM (m : ml_M) (r : Nat) (v : Int32) : ml_M := pl_wI (ml_sI m 35 r v) 36 (pl_z m r 48)
theorem pl_clear {m : ml_M} (hS : pl_Sh m) (r : Nat) (hr : r < 6) (v : Int32) : fX11_clear 33 (nI r) v m = some (pl_cM m r v) := by
  unfold fX11_clear
  simp (disch := omega) only [↓pl_let, pl_b1, pl_b2, ↓reduceIte, pl_k33 hS, pl_k34 hS, pl_k35 hS, pl_k36 hS, pl_k37 hS, pl_k38 hS, pl_k39 hS, pl_k40 hS, pl_k41 hS, pl_k42 hS, pl_k43 hS, pl_k44 hS, pl_k45 hS, pl_k46 hS, pl_k47 hS, pl_k48 hS, pl_k49 hS, pl_k50 hS, pl_k51 hS, pl_k52 hS, pl_k53 hS, pl_k54 hS, pl_k55 hS, pl_k56 hS, pl_k57 hS, pl_k58 hS, pl_k59 hS, pl_k60 hS, pl_r33_1 hS, pl_r33_4 hS, pl_r33_5 hS, pl_r33_6 hS, pl_r33_7 hS, pl_r33_8 hS, pl_r33_12 hS, pl_r33_13 hS, pl_r33_14 hS, pl_r33_20 hS, pl_r33_21 hS, pl_r33_22 hS, pl_r33_25 hS, pl_r33_26 hS, pl_r33_27 hS, pl_r33_29 hS, pl_r33_31 hS, pl_r33_35 hS, pl_r33_36 hS, pl_r33_38 hS, pl_r33_39 hS, pl_r33_40 hS, pl_r33_42 hS, pl_r33_43 hS, pl_r33_44 hS, pl_r33_45 hS, pl_r33_47 hS, pl_l1, pl_l2, pl_l3, pl_l4, pl_l5, pl_l6, pl_l7, pl_l8, pl_l9, pl_l10, pl_l11, pl_l12, pl_l13, pl_l14, pl_l15, pl_l16, pl_l17, pl_l18, pl_l19, pl_l20, pl_l21, pl_l22, pl_l23, pl_l24, pl_l25, pl_l26, pl_l27, pl_l28, pl_l29, pl_l30, pl_l31, pl_l32, pl_l33, pl_l34, pl_l35, pl_l36, pl_l37, pl_l38, pl_l39, pl_l40, pl_l41, pl_l42, pl_l43, pl_l44, pl_l45, pl_l46, pl_l47, pl_l48, pl_l49, pl_l50, pl_l51, pl_l52, pl_l53, pl_l54, pl_l55, pl_l56, pl_l57, pl_l58, pl_l59, pl_l60, pl_l61, pl_l62, pl_l63, pl_l64, pl_l99, pl_l100, pl_l119, pl_l120, pl_l255, pl_l256, pl_l999, pl_l1000, pl_l1023, pl_l1024, pl_l1111, pl_l5555, pl_l10240, pl_eq0, pl_le0, pl_lt0, pl_neg, pl_leN, pl_ltN, nI_leI, nI_ltI, nI_eq, nI_add, pk_mul, pl_sub, pk_div, pk_rem, nI_clamp, pl_in, pl_ofN, pl_shl1, pl_or, pl_and, pl_le1, pl_sz1, pl_within, pl_inM, pl_isRow, pl_isRowM, pl_isText, pl_isTextM, hr, and_self, if_true]
  rw [pl_clear9 (hS.sI 35 r v) r hr]
  rfl
theorem pl_cM_mo (m : ml_M) (r : Nat) (v : Int32) : pl_mo m (pl_cM m r v) := ((pl_mo.refl m).sI (by decide)).wI (by decide)
theorem pl_op_tear (r : Int32) : pl_Ok (fX10_tear 1 r) (fX11_tear 33 r) := by
  intro A m h
  have hS := h.1
  have hw := h.2.1.2.2.2.2.2.2.2.2.1
  rcases pl_rng0 (x := r) 5 (by decide) with hr | ⟨r, hr, rfl⟩
  · refine pl_Ok.same h (-1) ?_ ?_ <;> simp [fX10_tear, fX11_tear, ↓pl_let, pl_b1, pl_b2, ↓reduceIte, pl_isRow, pl_isRowM, hr]
  · have hw := hw r (by omega)
    have hr5 : ¬ 5 < r := by omega
    have hr6 : r < 6 := by omega
    rcases h.2.2.2.2.1.get (r := r) (by omega) with ⟨h0, hR⟩ | ⟨n, h0, hR1, hR2, hR3, hK, hv⟩
    · refine pl_Ok.found h (-3) 1 (by decide) ?_ fun m1 hS1 hM1 => ⟨_, pl_Ok.st hM1 ?_⟩
      · simp (disch := omega) [fX10_tear, ↓pl_let, pl_b1, pl_b2, ↓reduceIte, pl_k1 hS, pl_k2 hS, pl_k3 hS, pl_k8 hS, pl_k9 hS, pl_k10 hS, pl_k11 hS, pl_k12 hS, pl_k13 hS, pl_k14 hS, pl_k15 hS, pl_k16 hS, pl_k17 hS, pl_k18 hS, pl_k19 hS, pl_k20 hS, pl_k21 hS, pl_k22 hS, pl_k23 hS, pl_k24 hS, pl_k25 hS, pl_k26 hS, pl_k27 hS, pl_k28 hS, pl_k29 hS, pl_k30 hS, pl_k31 hS, pl_k32 hS, pl_r1_0 hS, pl_r1_1 hS, pl_r1_4 hS, pl_r1_6 hS, pl_r1_8 hS, pl_r1_10 hS, pl_r1_12 hS, pl_r1_13 hS, pl_r1_14 hS, pl_r1_18 hS, pl_r12_2 hS, pl_r12_3 hS, pl_r12_4 hS, pl_r12_8 hS, pl_r12_9 hS, pl_r12_10 hS, pl_r12_11 hS, pl_r12_12 hS, pl_r21_3 hS, pl_r21_5 hS, pl_r21_6 hS, pl_r21_7 hS, pl_r26_0 hS, pl_r26_2 hS, pl_r26_3 hS, pl_r26_4 hS, pl_r26_5 hS, pl_l1, pl_l2, pl_l3, pl_l4, pl_l5, pl_l6, pl_l7, pl_l8, pl_l9, pl_l10, pl_l11, pl_l12, pl_l13, pl_l14, pl_l15, pl_l16, pl_l17, pl_l18, pl_l19, pl_l20, pl_l21, pl_l22, pl_l23, pl_l24, pl_l25, pl_l26, pl_l27, pl_l28, pl_l29, pl_l30, pl_l31, pl_l32, pl_l33, pl_l34, pl_l35, pl_l36, pl_l37, pl_l38, pl_l39, pl_l40, pl_l41, pl_l42, pl_l43, pl_l44, pl_l45, pl_l46, pl_l47, pl_l48, pl_l49, pl_l50, pl_l51, pl_l52, pl_l53, pl_l54, pl_l55, pl_l56, pl_l57, pl_l58, pl_l59, pl_l60, pl_l61, pl_l62, pl_l63, pl_l64, pl_l99, pl_l100, pl_l119, pl_l120, pl_l255, pl_l256, pl_l999, pl_l1000, pl_l1023, pl_l1024, pl_l1111, pl_l5555, pl_l10240, pl_eq0, pl_le0, pl_lt0, pl_neg, pl_leN, pl_ltN, nI_leI, nI_ltI, nI_eq, nI_add, pk_mul, pl_sub, pk_div, pk_rem, nI_clamp, pl_in, pl_ofN, pl_shl1, pl_or, pl_and, pl_le1, pl_sz1, pl_within, pl_inM, pl_isRow, pl_isRowM, pl_isText, pl_isTextM, hr5, hr6, pl_found hS, hR]
      · have h2 := (hM1.2.1 r (by omega)).1
        rw [h0, pl_sz0] at h2
        have hS := hS1
        simp (disch := omega) [fX11_tear, ↓pl_let, pl_b1, pl_b2, ↓reduceIte, pl_k33 hS, pl_k34 hS, pl_k35 hS, pl_k36 hS, pl_k37 hS, pl_k38 hS, pl_k39 hS, pl_k40 hS, pl_k41 hS, pl_k42 hS, pl_k43 hS, pl_k44 hS, pl_k45 hS, pl_k46 hS, pl_k47 hS, pl_k48 hS, pl_k49 hS, pl_k50 hS, pl_k51 hS, pl_k52 hS, pl_k53 hS, pl_k54 hS, pl_k55 hS, pl_k56 hS, pl_k57 hS, pl_k58 hS, pl_k59 hS, pl_k60 hS, pl_r33_1 hS, pl_r33_4 hS, pl_r33_5 hS, pl_r33_6 hS, pl_r33_7 hS, pl_r33_8 hS, pl_r33_12 hS, pl_r33_13 hS, pl_r33_14 hS, pl_r33_20 hS, pl_r33_21 hS, pl_r33_22 hS, pl_r33_25 hS, pl_r33_26 hS, pl_r33_27 hS, pl_r33_29 hS, pl_r33_31 hS, pl_r33_35 hS, pl_r33_36 hS, pl_r33_38 hS, pl_r33_39 hS, pl_r33_40 hS, pl_r33_42 hS, pl_r33_43 hS, pl_r33_44 hS, pl_r33_45 hS, pl_r33_47 hS, pl_l1, pl_l2, pl_l3, pl_l4, pl_l5, pl_l6, pl_l7, pl_l8, pl_l9, pl_l10, pl_l11, pl_l12, pl_l13, pl_l14, pl_l15, pl_l16, pl_l17, pl_l18, pl_l19, pl_l20, pl_l21, pl_l22, pl_l23, pl_l24, pl_l25, pl_l26, pl_l27, pl_l28, pl_l29, pl_l30, pl_l31, pl_l32, pl_l33, pl_l34, pl_l35, pl_l36, pl_l37, pl_l38, pl_l39, pl_l40, pl_l41, pl_l42, pl_l43, pl_l44, pl_l45, pl_l46, pl_l47, pl_l48, pl_l49, pl_l50, pl_l51, pl_l52, pl_l53, pl_l54, pl_l55, pl_l56, pl_l57, pl_l58, pl_l59, pl_l60, pl_l61, pl_l62, pl_l63, pl_l64, pl_l99, pl_l100, pl_l119, pl_l120, pl_l255, pl_l256, pl_l999, pl_l1000, pl_l1023, pl_l1024, pl_l1111, pl_l5555, pl_l10240, pl_eq0, pl_le0, pl_lt0, pl_neg, pl_leN, pl_ltN, nI_leI, nI_ltI, nI_eq, nI_add, pk_mul, pl_sub, pk_div, pk_rem, nI_clamp, pl_in, pl_ofN, pl_shl1, pl_or, pl_and, pl_le1, pl_sz1, pl_within, pl_inM, pl_isRow, pl_isRowM, pl_isText, pl_isTextM, hr5, hr6, h2, pl_meets hS1]
    · have hd : pl_Md A (pl_rA A r 0 (fun _ => 0)) (ml_sR m 2 r 0) := by
        refine h.rC (b := 0) hr6 (Or.inl rfl) ((pl_ex.refl _ m).sR (by simp)) (pl_co.refl m) rfl (fun q _ hq => ?_) (Or.inl ⟨rfl, ?_⟩) (Or.inl ?_)
        · rw [pl_R_sR, if_neg (by omega)]
        · rw [pl_R_sR, if_pos ⟨rfl, rfl⟩]
        · rw [pl_R_sR, if_pos ⟨rfl, rfl⟩]
      refine ⟨1, ml_sR m 2 r 0, ml_sI (ml_sR m 2 r 0) 35 r (-1), pl_rA A r 0 (fun _ => 0), ?_, ?_, Nat.le_add_right _ _, Nat.le_add_right _ _, by rw [pl_k33 hd.1], ?_⟩
      · simp (disch := omega) [fX10_tear, ↓pl_let, pl_b1, pl_b2, ↓reduceIte, pl_k1 hS, pl_k2 hS, pl_k3 hS, pl_k8 hS, pl_k9 hS, pl_k10 hS, pl_k11 hS, pl_k12 hS, pl_k13 hS, pl_k14 hS, pl_k15 hS, pl_k16 hS, pl_k17 hS, pl_k18 hS, pl_k19 hS, pl_k20 hS, pl_k21 hS, pl_k22 hS, pl_k23 hS, pl_k24 hS, pl_k25 hS, pl_k26 hS, pl_k27 hS, pl_k28 hS, pl_k29 hS, pl_k30 hS, pl_k31 hS, pl_k32 hS, pl_r1_0 hS, pl_r1_1 hS, pl_r1_4 hS, pl_r1_6 hS, pl_r1_8 hS, pl_r1_10 hS, pl_r1_12 hS, pl_r1_13 hS, pl_r1_14 hS, pl_r1_18 hS, pl_r12_2 hS, pl_r12_3 hS, pl_r12_4 hS, pl_r12_8 hS, pl_r12_9 hS, pl_r12_10 hS, pl_r12_11 hS, pl_r12_12 hS, pl_r21_3 hS, pl_r21_5 hS, pl_r21_6 hS, pl_r21_7 hS, pl_r26_0 hS, pl_r26_2 hS, pl_r26_3 hS, pl_r26_4 hS, pl_r26_5 hS, pl_l1, pl_l2, pl_l3, pl_l4, pl_l5, pl_l6, pl_l7, pl_l8, pl_l9, pl_l10, pl_l11, pl_l12, pl_l13, pl_l14, pl_l15, pl_l16, pl_l17, pl_l18, pl_l19, pl_l20, pl_l21, pl_l22, pl_l23, pl_l24, pl_l25, pl_l26, pl_l27, pl_l28, pl_l29, pl_l30, pl_l31, pl_l32, pl_l33, pl_l34, pl_l35, pl_l36, pl_l37, pl_l38, pl_l39, pl_l40, pl_l41, pl_l42, pl_l43, pl_l44, pl_l45, pl_l46, pl_l47, pl_l48, pl_l49, pl_l50, pl_l51, pl_l52, pl_l53, pl_l54, pl_l55, pl_l56, pl_l57, pl_l58, pl_l59, pl_l60, pl_l61, pl_l62, pl_l63, pl_l64, pl_l99, pl_l100, pl_l119, pl_l120, pl_l255, pl_l256, pl_l999, pl_l1000, pl_l1023, pl_l1024, pl_l1111, pl_l5555, pl_l10240, pl_eq0, pl_le0, pl_lt0, pl_neg, pl_leN, pl_ltN, nI_leI, nI_ltI, nI_eq, nI_add, pk_mul, pl_sub, pk_div, pk_rem, nI_clamp, pl_in, pl_ofN, pl_shl1, pl_or, pl_and, pl_le1, pl_sz1, pl_within, pl_inM, pl_isRow, pl_isRowM, pl_isText, pl_isTextM, hr5, hr6, hR3]
      · have hS := hd.1
        have hM1 := hd.2.2.1
        have h2 := (hM1.2.1 r (by omega)).1
        rw [h0, pl_sz1] at h2
        simp (disch := omega) [fX11_tear, ↓pl_let, pl_b1, pl_b2, ↓reduceIte, pl_k33 hS, pl_k34 hS, pl_k35 hS, pl_k36 hS, pl_k37 hS, pl_k38 hS, pl_k39 hS, pl_k40 hS, pl_k41 hS, pl_k42 hS, pl_k43 hS, pl_k44 hS, pl_k45 hS, pl_k46 hS, pl_k47 hS, pl_k48 hS, pl_k49 hS, pl_k50 hS, pl_k51 hS, pl_k52 hS, pl_k53 hS, pl_k54 hS, pl_k55 hS, pl_k56 hS, pl_k57 hS, pl_k58 hS, pl_k59 hS, pl_k60 hS, pl_r33_1 hS, pl_r33_4 hS, pl_r33_5 hS, pl_r33_6 hS, pl_r33_7 hS, pl_r33_8 hS, pl_r33_12 hS, pl_r33_13 hS, pl_r33_14 hS, pl_r33_20 hS, pl_r33_21 hS, pl_r33_22 hS, pl_r33_25 hS, pl_r33_26 hS, pl_r33_27 hS, pl_r33_29 hS, pl_r33_31 hS, pl_r33_35 hS, pl_r33_36 hS, pl_r33_38 hS, pl_r33_39 hS, pl_r33_40 hS, pl_r33_42 hS, pl_r33_43 hS, pl_r33_44 hS, pl_r33_45 hS, pl_r33_47 hS, pl_l1, pl_l2, pl_l3, pl_l4, pl_l5, pl_l6, pl_l7, pl_l8, pl_l9, pl_l10, pl_l11, pl_l12, pl_l13, pl_l14, pl_l15, pl_l16, pl_l17, pl_l18, pl_l19, pl_l20, pl_l21, pl_l22, pl_l23, pl_l24, pl_l25, pl_l26, pl_l27, pl_l28, pl_l29, pl_l30, pl_l31, pl_l32, pl_l33, pl_l34, pl_l35, pl_l36, pl_l37, pl_l38, pl_l39, pl_l40, pl_l41, pl_l42, pl_l43, pl_l44, pl_l45, pl_l46, pl_l47, pl_l48, pl_l49, pl_l50, pl_l51, pl_l52, pl_l53, pl_l54, pl_l55, pl_l56, pl_l57, pl_l58, pl_l59, pl_l60, pl_l61, pl_l62, pl_l63, pl_l64, pl_l99, pl_l100, pl_l119, pl_l120, pl_l255, pl_l256, pl_l999, pl_l1000, pl_l1023, pl_l1024, pl_l1111, pl_l5555, pl_l10240, pl_eq0, pl_le0, pl_lt0, pl_neg, pl_leN, pl_ltN, nI_leI, nI_ltI, nI_eq, nI_add, pk_mul, pl_sub, pk_div, pk_rem, nI_clamp, pl_in, pl_ofN, pl_shl1, pl_or, pl_and, pl_le1, pl_sz1, pl_within, pl_inM, pl_isRow, pl_isRowM, pl_isText, pl_isTextM, hr5, hr6, h2]
      · refine hd.rM hr6 (by omega) ((pl_mo.refl _).sI (by decide)) (fun q hq => ?_) (fun q hq hqr j hj => ?_) (fun j hj => by omega) ⟨fun a ha => ?_, fun k _ => rfl, rfl⟩
        · rw [pl_I_sI]
          by_cases hqr : q = r
          · rw [if_pos ⟨rfl, hqr⟩, if_pos hqr]; rfl
          · rw [if_neg (by omega), if_neg hqr]
        · rw [pl_I_sI, if_neg (by omega)]
        · funext j
          have : a ≠ 35 := by revert ha; revert a; decide
          rw [pl_I_sI, if_neg (by omega)]
theorem pl_op_row (r n : Int32) : pl_Ok (fX10_row 1 r n) (fX11_row 33 r n) := by
  intro A m h
  have hS := h.1
  have hn60 := hS.2.2
  rcases pl_rng0 (x := r) 5 (by decide) with hr | ⟨r, hr, rfl⟩
  · refine pl_Ok.same h (-1) ?_ ?_ <;> simp [fX10_row, fX11_row, ↓pl_let, pl_b1, pl_b2, ↓reduceIte, pl_isRow, pl_isRowM, hr]
  · have hr5 : ¬ 5 < r := by omega
    have hr6 : r < 6 := by omega
    rcases pk_ix n (n := 49) (by omega) with hi | hi | ⟨n, hi, rfl⟩
    · have hn48 : n ≤ nI 48 := Int32.le_trans (Int32.le_of_lt hi) (by decide)
      refine pl_Ok.found h (-3) 5 (by decide) ?_ fun m1 hS1 hM1 => ⟨_, pl_Ok.st hM1 ?_⟩
      · simp (disch := omega) [fX10_row, ↓pl_let, pl_b1, pl_b2, ↓reduceIte, pl_k1 hS, pl_k2 hS, pl_k3 hS, pl_k8 hS, pl_k9 hS, pl_k10 hS, pl_k11 hS, pl_k12 hS, pl_k13 hS, pl_k14 hS, pl_k15 hS, pl_k16 hS, pl_k17 hS, pl_k18 hS, pl_k19 hS, pl_k20 hS, pl_k21 hS, pl_k22 hS, pl_k23 hS, pl_k24 hS, pl_k25 hS, pl_k26 hS, pl_k27 hS, pl_k28 hS, pl_k29 hS, pl_k30 hS, pl_k31 hS, pl_k32 hS, pl_r1_0 hS, pl_r1_1 hS, pl_r1_4 hS, pl_r1_6 hS, pl_r1_8 hS, pl_r1_10 hS, pl_r1_12 hS, pl_r1_13 hS, pl_r1_14 hS, pl_r1_18 hS, pl_r12_2 hS, pl_r12_3 hS, pl_r12_4 hS, pl_r12_8 hS, pl_r12_9 hS, pl_r12_10 hS, pl_r12_11 hS, pl_r12_12 hS, pl_r21_3 hS, pl_r21_5 hS, pl_r21_6 hS, pl_r21_7 hS, pl_r26_0 hS, pl_r26_2 hS, pl_r26_3 hS, pl_r26_4 hS, pl_r26_5 hS, pl_l1, pl_l2, pl_l3, pl_l4, pl_l5, pl_l6, pl_l7, pl_l8, pl_l9, pl_l10, pl_l11, pl_l12, pl_l13, pl_l14, pl_l15, pl_l16, pl_l17, pl_l18, pl_l19, pl_l20, pl_l21, pl_l22, pl_l23, pl_l24, pl_l25, pl_l26, pl_l27, pl_l28, pl_l29, pl_l30, pl_l31, pl_l32, pl_l33, pl_l34, pl_l35, pl_l36, pl_l37, pl_l38, pl_l39, pl_l40, pl_l41, pl_l42, pl_l43, pl_l44, pl_l45, pl_l46, pl_l47, pl_l48, pl_l49, pl_l50, pl_l51, pl_l52, pl_l53, pl_l54, pl_l55, pl_l56, pl_l57, pl_l58, pl_l59, pl_l60, pl_l61, pl_l62, pl_l63, pl_l64, pl_l99, pl_l100, pl_l119, pl_l120, pl_l255, pl_l256, pl_l999, pl_l1000, pl_l1023, pl_l1024, pl_l1111, pl_l5555, pl_l10240, pl_eq0, pl_le0, pl_lt0, pl_neg, pl_leN, pl_ltN, nI_leI, nI_ltI, nI_eq, nI_add, pk_mul, pl_sub, pk_div, pk_rem, nI_clamp, pl_in, pl_ofN, pl_shl1, pl_or, pl_and, pl_le1, pl_sz1, pl_within, pl_inM, pl_isRow, pl_isRowM, pl_isText, pl_isTextM, hr5, hr6, pl_found hS, hi, hn48, Int32.not_le.mpr hi]
      · have hS := hS1
        simp (disch := omega) [fX11_row, ↓pl_let, pl_b1, pl_b2, ↓reduceIte, pl_k33 hS, pl_k34 hS, pl_k35 hS, pl_k36 hS, pl_k37 hS, pl_k38 hS, pl_k39 hS, pl_k40 hS, pl_k41 hS, pl_k42 hS, pl_k43 hS, pl_k44 hS, pl_k45 hS, pl_k46 hS, pl_k47 hS, pl_k48 hS, pl_k49 hS, pl_k50 hS, pl_k51 hS, pl_k52 hS, pl_k53 hS, pl_k54 hS, pl_k55 hS, pl_k56 hS, pl_k57 hS, pl_k58 hS, pl_k59 hS, pl_k60 hS, pl_r33_1 hS, pl_r33_4 hS, pl_r33_5 hS, pl_r33_6 hS, pl_r33_7 hS, pl_r33_8 hS, pl_r33_12 hS, pl_r33_13 hS, pl_r33_14 hS, pl_r33_20 hS, pl_r33_21 hS, pl_r33_22 hS, pl_r33_25 hS, pl_r33_26 hS, pl_r33_27 hS, pl_r33_29 hS, pl_r33_31 hS, pl_r33_35 hS, pl_r33_36 hS, pl_r33_38 hS, pl_r33_39 hS, pl_r33_40 hS, pl_r33_42 hS, pl_r33_43 hS, pl_r33_44 hS, pl_r33_45 hS, pl_r33_47 hS, pl_l1, pl_l2, pl_l3, pl_l4, pl_l5, pl_l6, pl_l7, pl_l8, pl_l9, pl_l10, pl_l11, pl_l12, pl_l13, pl_l14, pl_l15, pl_l16, pl_l17, pl_l18, pl_l19, pl_l20, pl_l21, pl_l22, pl_l23, pl_l24, pl_l25, pl_l26, pl_l27, pl_l28, pl_l29, pl_l30, pl_l31, pl_l32, pl_l33, pl_l34, pl_l35, pl_l36, pl_l37, pl_l38, pl_l39, pl_l40, pl_l41, pl_l42, pl_l43, pl_l44, pl_l45, pl_l46, pl_l47, pl_l48, pl_l49, pl_l50, pl_l51, pl_l52, pl_l53, pl_l54, pl_l55, pl_l56, pl_l57, pl_l58, pl_l59, pl_l60, pl_l61, pl_l62, pl_l63, pl_l64, pl_l99, pl_l100, pl_l119, pl_l120, pl_l255, pl_l256, pl_l999, pl_l1000, pl_l1023, pl_l1024, pl_l1111, pl_l5555, pl_l10240, pl_eq0, pl_le0, pl_lt0, pl_neg, pl_leN, pl_ltN, nI_leI, nI_ltI, nI_eq, nI_add, pk_mul, pl_sub, pk_div, pk_rem, nI_clamp, pl_in, pl_ofN, pl_shl1, pl_or, pl_and, pl_le1, pl_sz1, pl_within, pl_inM, pl_isRow, pl_isRowM, pl_isText, pl_isTextM, hr5, hr6, pl_meets hS1, hi, hn48, Int32.not_le.mpr hi]
    · have hn48 : ¬ n ≤ nI 48 := fun z => by
        have := Int32.le_trans hi z
        revert this; decide
      refine pl_Ok.same h (-1) ?_ ?_ <;> simp (disch := omega) [fX10_row, fX11_row, ↓pl_let, pl_b1, pl_b2, ↓reduceIte, pl_l1, pl_l2, pl_l3, pl_l4, pl_l5, pl_l6, pl_l7, pl_l8, pl_l9, pl_l10, pl_l11, pl_l12, pl_l13, pl_l14, pl_l15, pl_l16, pl_l17, pl_l18, pl_l19, pl_l20, pl_l21, pl_l22, pl_l23, pl_l24, pl_l25, pl_l26, pl_l27, pl_l28, pl_l29, pl_l30, pl_l31, pl_l32, pl_l33, pl_l34, pl_l35, pl_l36, pl_l37, pl_l38, pl_l39, pl_l40, pl_l41, pl_l42, pl_l43, pl_l44, pl_l45, pl_l46, pl_l47, pl_l48, pl_l49, pl_l50, pl_l51, pl_l52, pl_l53, pl_l54, pl_l55, pl_l56, pl_l57, pl_l58, pl_l59, pl_l60, pl_l61, pl_l62, pl_l63, pl_l64, pl_l99, pl_l100, pl_l119, pl_l120, pl_l255, pl_l256, pl_l999, pl_l1000, pl_l1023, pl_l1024, pl_l1111, pl_l5555, pl_l10240, pl_eq0, pl_le0, pl_lt0, pl_neg, pl_leN, pl_ltN, nI_leI, nI_ltI, nI_eq, nI_add, pk_mul, pl_sub, pk_div, pk_rem, nI_clamp, pl_in, pl_ofN, pl_shl1, pl_or, pl_and, pl_le1, pl_sz1, pl_within, pl_inM, pl_isRow, pl_isRowM, pl_isText, pl_isTextM, hr5, hn48]
    · have hd : pl_Md A (pl_rA A r (n + 1) (fun _ => 0)) (ml_sR (ml_al m 20 n n) 2 r (ml_n m + 1)) := by
        have hnew : ml_R (ml_sR (ml_al m 20 n n) 2 r (ml_n m + 1)) 2 r = ml_n m + 1 := by rw [pl_R_sR, if_pos ⟨rfl, rfl⟩]
        refine h.rC (b := 0) hr6 (Or.inl rfl) ((pl_ex.refl _ m).al.sR (by simp)) (((pl_co.refl m).al hn60).sR) ?_ (fun q _ hq => ?_) (Or.inr ⟨by omega, ?_, fun j hj => ?_⟩) (Or.inr (Or.inr ?_))
        · rw [pl_J_sR, pl_J_al, if_neg (by omega)]
        · rw [pl_R_sR, if_neg (by omega), pl_R_alo (by omega)]
        · rw [hnew]
          exact ⟨by omega, by rw [pl_n_sR, pl_n_al]; exact Nat.le_refl _, by rw [pl_K_sR, pl_K_aln]; rfl⟩
        · rw [hnew, pl_I_sR, pl_I_aln]
        · rw [hnew]; omega
      refine ⟨nI n, ml_sR (ml_al m 20 n n) 2 r (ml_n m + 1), pl_cM (ml_sR (ml_al m 20 n n) 2 r (ml_n m + 1)) r (nI n), pl_rA A r (n + 1) (fun _ => 0), ?_, ?_, ?_, ?_, by rw [pl_k33 hd.1], ?_⟩
      · simp (disch := omega) [fX10_row, ↓pl_let, pl_b1, pl_b2, ↓reduceIte, pl_k1 hS, pl_k2 hS, pl_k3 hS, pl_k8 hS, pl_k9 hS, pl_k10 hS, pl_k11 hS, pl_k12 hS, pl_k13 hS, pl_k14 hS, pl_k15 hS, pl_k16 hS, pl_k17 hS, pl_k18 hS, pl_k19 hS, pl_k20 hS, pl_k21 hS, pl_k22 hS, pl_k23 hS, pl_k24 hS, pl_k25 hS, pl_k26 hS, pl_k27 hS, pl_k28 hS, pl_k29 hS, pl_k30 hS, pl_k31 hS, pl_k32 hS, pl_r1_0 hS, pl_r1_1 hS, pl_r1_4 hS, pl_r1_6 hS, pl_r1_8 hS, pl_r1_10 hS, pl_r1_12 hS, pl_r1_13 hS, pl_r1_14 hS, pl_r1_18 hS, pl_r12_2 hS, pl_r12_3 hS, pl_r12_4 hS, pl_r12_8 hS, pl_r12_9 hS, pl_r12_10 hS, pl_r12_11 hS, pl_r12_12 hS, pl_r21_3 hS, pl_r21_5 hS, pl_r21_6 hS, pl_r21_7 hS, pl_r26_0 hS, pl_r26_2 hS, pl_r26_3 hS, pl_r26_4 hS, pl_r26_5 hS, pl_l1, pl_l2, pl_l3, pl_l4, pl_l5, pl_l6, pl_l7, pl_l8, pl_l9, pl_l10, pl_l11, pl_l12, pl_l13, pl_l14, pl_l15, pl_l16, pl_l17, pl_l18, pl_l19, pl_l20, pl_l21, pl_l22, pl_l23, pl_l24, pl_l25, pl_l26, pl_l27, pl_l28, pl_l29, pl_l30, pl_l31, pl_l32, pl_l33, pl_l34, pl_l35, pl_l36, pl_l37, pl_l38, pl_l39, pl_l40, pl_l41, pl_l42, pl_l43, pl_l44, pl_l45, pl_l46, pl_l47, pl_l48, pl_l49, pl_l50, pl_l51, pl_l52, pl_l53, pl_l54, pl_l55, pl_l56, pl_l57, pl_l58, pl_l59, pl_l60, pl_l61, pl_l62, pl_l63, pl_l64, pl_l99, pl_l100, pl_l119, pl_l120, pl_l255, pl_l256, pl_l999, pl_l1000, pl_l1023, pl_l1024, pl_l1111, pl_l5555, pl_l10240, pl_eq0, pl_le0, pl_lt0, pl_neg, pl_leN, pl_ltN, nI_leI, nI_ltI, nI_eq, nI_add, pk_mul, pl_sub, pk_div, pk_rem, nI_clamp, pl_in, pl_ofN, pl_shl1, pl_or, pl_and, pl_le1, pl_sz1, pl_within, pl_inM, pl_isRow, pl_isRowM, pl_isText, pl_isTextM, pl_I_sI, pl_I_sR, pl_I_sJ, pl_I_alo, pl_I_aln, pl_R_sI, pl_R_sR, pl_R_sJ, pl_R_alo, pl_R_aln, pl_J_sI, pl_J_sR, pl_J_sJ, pl_K_sI, pl_K_sR, pl_K_sJ, pl_K_alo, pl_K_aln, pl_n_sI, pl_n_sR, pl_n_sJ, pl_n_al, pl_n_cp, pl_n_cl, pl_s_sI, pl_s_sR, pl_s_sJ, pl_s_al, pl_s_cp, pl_s_cl, hr5, hr6, show n ≤ 48 by omega, show n ≤ 20000 by omega]
      · have hS := hd.1
        have hM1 := hd.2.2.1
        simp (disch := omega) [fX11_row, ↓pl_let, pl_b1, pl_b2, ↓reduceIte, pl_k33 hS, pl_k34 hS, pl_k35 hS, pl_k36 hS, pl_k37 hS, pl_k38 hS, pl_k39 hS, pl_k40 hS, pl_k41 hS, pl_k42 hS, pl_k43 hS, pl_k44 hS, pl_k45 hS, pl_k46 hS, pl_k47 hS, pl_k48 hS, pl_k49 hS, pl_k50 hS, pl_k51 hS, pl_k52 hS, pl_k53 hS, pl_k54 hS, pl_k55 hS, pl_k56 hS, pl_k57 hS, pl_k58 hS, pl_k59 hS, pl_k60 hS, pl_r33_1 hS, pl_r33_4 hS, pl_r33_5 hS, pl_r33_6 hS, pl_r33_7 hS, pl_r33_8 hS, pl_r33_12 hS, pl_r33_13 hS, pl_r33_14 hS, pl_r33_20 hS, pl_r33_21 hS, pl_r33_22 hS, pl_r33_25 hS, pl_r33_26 hS, pl_r33_27 hS, pl_r33_29 hS, pl_r33_31 hS, pl_r33_35 hS, pl_r33_36 hS, pl_r33_38 hS, pl_r33_39 hS, pl_r33_40 hS, pl_r33_42 hS, pl_r33_43 hS, pl_r33_44 hS, pl_r33_45 hS, pl_r33_47 hS, pl_l1, pl_l2, pl_l3, pl_l4, pl_l5, pl_l6, pl_l7, pl_l8, pl_l9, pl_l10, pl_l11, pl_l12, pl_l13, pl_l14, pl_l15, pl_l16, pl_l17, pl_l18, pl_l19, pl_l20, pl_l21, pl_l22, pl_l23, pl_l24, pl_l25, pl_l26, pl_l27, pl_l28, pl_l29, pl_l30, pl_l31, pl_l32, pl_l33, pl_l34, pl_l35, pl_l36, pl_l37, pl_l38, pl_l39, pl_l40, pl_l41, pl_l42, pl_l43, pl_l44, pl_l45, pl_l46, pl_l47, pl_l48, pl_l49, pl_l50, pl_l51, pl_l52, pl_l53, pl_l54, pl_l55, pl_l56, pl_l57, pl_l58, pl_l59, pl_l60, pl_l61, pl_l62, pl_l63, pl_l64, pl_l99, pl_l100, pl_l119, pl_l120, pl_l255, pl_l256, pl_l999, pl_l1000, pl_l1023, pl_l1024, pl_l1111, pl_l5555, pl_l10240, pl_eq0, pl_le0, pl_lt0, pl_neg, pl_leN, pl_ltN, nI_leI, nI_ltI, nI_eq, nI_add, pk_mul, pl_sub, pk_div, pk_rem, nI_clamp, pl_in, pl_ofN, pl_shl1, pl_or, pl_and, pl_le1, pl_sz1, pl_within, pl_inM, pl_isRow, pl_isRowM, pl_isText, pl_isTextM, hr5, hr6, show n ≤ 48 by omega]
        rw [pl_row34 (hS.sI 35 r (nI n)) r hr6]
        rfl
      · show ml_n m + 1 ≤ _
        omega
      · show ml_s m + n ≤ _
        omega
      · refine hd.rM hr6 (by omega) (pl_cM_mo _ _ _) (fun q hq => ?_) (fun q hq hqr j hj => ?_) (fun j hj => ?_) ⟨fun a ha => ?_, fun k _ => rfl, rfl⟩
        · unfold pl_cM
          rw [pl_I_wI, if_neg (by decide), pl_I_sI, pl_sz1]
          by_cases hqr : q = r
          · rw [if_pos ⟨rfl, hqr⟩, if_pos hqr]
          · rw [if_neg (by omega), if_neg hqr]
        · unfold pl_cM
          rw [pl_I_wI, if_pos rfl, pl_z, if_neg (by omega)]
        · unfold pl_cM
          rw [pl_I_wI, if_pos rfl, pl_z, if_pos (by omega)]
        · have : a ≠ 35 ∧ a ≠ 36 := by revert ha; revert a; decide
          unfold pl_cM
          rw [pl_I_wI, if_neg this.2]
          funext j
          rw [pl_I_sI, if_neg (by omega)]

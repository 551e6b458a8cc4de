/-! THINGS: thing. -/
theorem pl_thing77 {A : pl_A} {m : ml_M} (h : pl_Rel A m) {k a b X Y : Nat} (hc : pl_N A 0 3 0 < 20) (hk : 1 ≤ k ∧ k ≤ 5) (ha : a ≤ 99) (hb : b ≤ 99) (hX : X ≤ 9999) (hY : Y ≤ 9) (v : Int32) (hv : v = if k = 3 then nI Y else -9) :
    fX10_thing_77 1 v (nI X) (nI b) (nI a) (nI k) (ml_n m + 1) (ml_n m + 1) (ml_al m 8 0 8) = some (nI (pl_N A 0 3 0), pl_gC m (pl_N A 0 3 0) k a b X Y (pl_own (pl_sR A 4 (pl_N A 0 3 0) (pl_7 k a b X Y) 3 (pl_N A 0 3 0 + 1)) (pl_N A 0 3 0))) := by
  have hS := h.1
  have hW := h.2.1
  have hC := h.2.2.2
  have hw := hW.1
  unfold pl_Wc at hw
  have hn := hS.2.2
  obtain ⟨i1, i2, i3, i4, i5, i6⟩ := pl_gI_f hn k a b X Y
  have hinit : fX8_init (ml_n m + 1) (nI k) (nI a) (nI b) (nI X) v (ml_al m 8 0 8) = some (pl_gI m k a b X Y) := by
    rw [hv]
    unfold fX8_init pl_gI
    simp only [↓pl_let, pl_b1, pl_b2, ↓reduceIte, pl_K_aln]
    rw [if_pos (by omega)]
  have hSI : pl_Sh (pl_gI m k a b X Y) := i1.sh hS (fun q _ hq => by simp at hq)
  obtain ⟨d, z1, z2, z3, z6⟩ := pl_sR_d A 4 (pl_N A 0 3 0) (pl_7 k a b X Y) 3 (pl_N A 0 3 0 + 1) (by decide)
  have hCh : pl_Ch (pl_sR A 4 (pl_N A 0 3 0) (pl_7 k a b X Y) 3 (pl_N A 0 3 0 + 1)) (pl_gI m k a b X Y) := hC.2.2.2.1.fr i1 (by rw [i3]) (fun k _ a ha => by simp at ha) (fun k _ a ha => by simp at ha) (d.1 1 (by decide) (by decide)) (d.1 2 (by decide) (by decide)) (d.1 3 (by decide) (by decide)) (d.2.1 0 (by decide)) (d.2.1 1 (by decide)) (d.2.1 2 (by decide))
  have hcel : pl_cel (pl_sR A 4 (pl_N A 0 3 0) (pl_7 k a b X Y) 3 (pl_N A 0 3 0 + 1)) (pl_gI m k a b X Y) (ml_n m + 1) (pl_N A 0 3 0) := by
    refine ⟨i4, ?_, ?_, ?_, ?_, ?_⟩
    · rw [i5 0 (by decide), z3]; simp [pl_7]
    · rw [i5 1 (by decide), z3]; simp [pl_7]
    · rw [i5 2 (by decide), z3]; simp [pl_7]
    · rw [i5 3 (by decide), z3]; simp [pl_7]
    · rw [i5 4 (by decide), z3]; simp [pl_7]
  have hown := pl_ownC hSI hCh hcel (by rw [d.2.1 0 (by decide)]; omega) ((pl_Wd d hW).1 (by decide)) (by rw [z3]; simp [pl_7]; omega)
  have hK1 : ml_K (pl_gI m k a b X Y) 1 = (10, 0) := pl_k1 hSI
  have hK8 : ml_K (pl_gI m k a b X Y) 8 = (29, 20) := pl_k8 hSI
  have hK12 : ml_K (pl_gI m k a b X Y) 12 = (7, 0) := pl_k12 hSI
  have hR4 : ml_R (pl_gI m k a b X Y) 1 4 = 8 := pl_r1_4 hSI
  have hR12 : ml_R (pl_gI m k a b X Y) 1 12 = 12 := pl_r1_12 hSI
  have hI5 : ml_I (pl_gI m k a b X Y) 1 5 = nI (pl_N A 0 3 0) := by rw [(i1.2.2 1 (by omega) (by simp)).1]; exact hC.1.2.1
  have h1 : ¬ (1 = ml_n m + 1) := by omega
  unfold fX10_thing_77 pl_gC
  generalize pl_own (pl_sR A 4 (pl_N A 0 3 0) (pl_7 k a b X Y) 3 (pl_N A 0 3 0 + 1)) (pl_N A 0 3 0) = o at *
  simp (disch := omega) [↓pl_let, pl_b1, pl_b2, ↓reduceIte, hinit, hown, i4, pl_I_sI, pl_I_sR, pl_I_sJ, pl_I_al, pl_I_cp, pl_I_cl, pl_R_sI, pl_R_sR, pl_R_sJ, pl_R_al, pl_R_cp, pl_R_cl, pl_J_sI, pl_J_sR, pl_J_sJ, pl_J_al, pl_J_cp, pl_J_cl, pl_K_sI, pl_K_sR, pl_K_sJ, pl_K_al, pl_K_cp, pl_K_cl, pl_n_sI, pl_n_sR, pl_n_sJ, pl_n_al, pl_n_cp, pl_n_cl, pl_s_sI, pl_s_sR, pl_s_sJ, pl_s_al, pl_s_cp, pl_s_cl, hK1, hK8, hK12, hR4, hR12, hI5, h1, pl_l1, pl_l2, pl_l3, pl_l4, pl_l5, pl_l6, pl_l7, pl_l8, pl_l9, pl_l10, pl_l11, pl_l12, pl_l13, pl_l14, pl_l15, pl_l16, pl_l17, pl_l18, pl_l19, pl_l20, pl_l21, pl_l22, pl_l23, pl_l24, pl_l25, pl_l26, pl_l27, pl_l28, pl_l29, pl_l30, pl_l31, pl_l32, pl_l33, pl_l34, pl_l35, pl_l36, pl_l37, pl_l38, pl_l39, pl_l40, pl_l41, pl_l42, pl_l43, pl_l44, pl_l45, pl_l46, pl_l47, pl_l48, pl_l49, pl_l50, pl_l51, pl_l52, pl_l53, pl_l54, pl_l55, pl_l56, pl_l57, pl_l58, pl_l59, pl_l60, pl_l61, pl_l62, pl_l63, pl_l64, pl_l99, pl_l100, pl_l119, pl_l120, pl_l255, pl_l256, pl_l999, pl_l1000, pl_l1023, pl_l1024, pl_l1111, pl_l5555, pl_l10240, pl_eq0, pl_le0, pl_lt0, pl_neg, pl_leN, pl_ltN, nI_leI, nI_ltI, nI_eq, nI_add, pk_mul, pl_sub, pk_div, pk_rem, nI_clamp, pl_in, pl_ofN, pl_shl1, pl_or, pl_and, pl_le1, pl_sz1, pl_within, pl_inM, pl_isRow, pl_isRowM, pl_isText, pl_isTextM, pl_leZ, pl_0eq, pl_0lt, pl_shl2, pl_shr2, pl_tcE, pl_tcN, pl_ne1, pl_rem3, hc, show ¬ ml_n m = 0 by omega]
theorem pl_op_thing (kd a b x y : Int32) : pl_Ok (fX10_thing 1 kd a b x y) (fX11_thing 33 kd a b x y) := by
  intro A m h
  have hS := h.1
  have hW := h.2.1
  have hw := hW.1
  unfold pl_Wc at hw
  have hC := h.2.2.2
  have hM := h.2.2.1
  have hn60 := hS.2.2
  rcases pl_years a b with yy | ⟨a, b, rfl, rfl, hab, hb, yy⟩
  · refine pl_Ok.same h (-1) ?_ ?_
    · simp only [fX10_thing, (yy m).1, pl_b1, if_true]
    · simp only [fX11_thing, (yy m).2, pl_b1, if_true]
  rcases pl_told hW kd x y with ht | ⟨k, X, Y, rfl, hk, hX, hY, h3, hn3, h24, hx, ht⟩
  · obtain ⟨t1, t2⟩ := ht m m hS hC hS hM
    refine pl_Ok.same h (-1) ?_ ?_
    · rcases t1 with t1 | ⟨rfl, v, hv, t1, t3⟩
      · simp only [fX10_thing, ↓pl_let, pl_b1, pl_b2, ↓reduceIte, yy, t1, if_true]
        rw [if_neg (by decide)]
      · simp only [fX10_thing, ↓pl_let, pl_b1, pl_b2, ↓reduceIte, yy, t1, hv, pl_l3, t3, pl_k1 hS, if_true, if_false]
        rw [if_neg (by decide)]
    · simp only [fX11_thing, ↓pl_let, pl_b1, pl_b2, ↓reduceIte, yy, t2, pl_k33 hS, if_true]
      rw [if_neg (by decide)]
  have hneg : ¬ nI X = -1 := fun z => by
    have z2 : nI X = - nI 1 := z
    rw [pl_neg (by omega) (by omega)] at z2
    exact z2
  have hcl : fX10_thing 1 (nI k) (nI a) (nI b) x y m = fX10_thing_44 1 (nI k) (nI a) (nI b) y (nI X) m := by
    obtain ⟨t1, t3, -⟩ := ht m m hS hC hS hM
    by_cases hk3 : k = 3
    · subst hk3
      simp only [fX10_thing, ↓pl_let, pl_b1, pl_b2, ↓reduceIte, yy, t1, hneg, pl_l3, t3 rfl, pl_k1 hS, if_true, if_false]
      rw [if_neg (by decide), if_neg (by decide)]
    · have : ¬ nI k = nI 3 := fun z => hk3 ((nI_eq (by omega) (by omega)).mp z)
      simp only [fX10_thing, ↓pl_let, pl_b1, pl_b2, ↓reduceIte, yy, t1, hneg, pl_l3, this, if_false]
      rw [if_neg (by decide)]
  by_cases hc : pl_N A 0 3 0 < 20
  · refine pl_Ok.mk (v := nI (pl_N A 0 3 0)) (pl_gC_md h (k := k) (a := a) (b := b) (X := X) (Y := Y) hc hn3 _ rfl) ?_ ?_ ?_ (pl_gW hW hc hk (by omega) hb hX hY) fun M hS hM => ⟨pl_gM M (pl_N A 0 3 0) k a b X Y, ?_, ?_, pl_gM_m hM⟩
    · rw [hcl]
      have e := pl_thing77 h hc hk (show a ≤ 99 by omega) hb hX hY (if k = 3 then nI Y else -9) rfl
      simp (disch := omega) only [fX10_thing_44, ↓pl_let, pl_b1, pl_b2, ↓reduceIte, pl_k1 hS, pl_k2 hS, pl_k3 hS, pl_k8 hS, pl_k9 hS, pl_k10 hS, pl_k11 hS, pl_k12 hS, pl_k13 hS, pl_k14 hS, pl_k15 hS, pl_k16 hS, pl_k17 hS, pl_k18 hS, pl_k19 hS, pl_k20 hS, pl_k21 hS, pl_k22 hS, pl_k23 hS, pl_k24 hS, pl_k25 hS, pl_k26 hS, pl_k27 hS, pl_k28 hS, pl_k29 hS, pl_k30 hS, pl_k31 hS, pl_k32 hS, pl_r1_0 hS, pl_r1_1 hS, pl_r1_4 hS, pl_r1_6 hS, pl_r1_8 hS, pl_r1_10 hS, pl_r1_12 hS, pl_r1_13 hS, pl_r1_14 hS, pl_r1_18 hS, pl_r12_2 hS, pl_r12_3 hS, pl_r12_4 hS, pl_r12_8 hS, pl_r12_9 hS, pl_r12_10 hS, pl_r12_11 hS, pl_r12_12 hS, pl_r21_3 hS, pl_r21_5 hS, pl_r21_6 hS, pl_r21_7 hS, pl_r26_0 hS, pl_r26_2 hS, pl_r26_3 hS, pl_r26_4 hS, pl_r26_5 hS, hC.1.1, hC.1.2.1, hC.1.2.2.1, hC.1.2.2.2.1, hC.1.2.2.2.2.1, pl_l1, pl_l2, pl_l3, pl_l4, pl_l5, pl_l6, pl_l7, pl_l8, pl_l9, pl_l10, pl_l11, pl_l12, pl_l13, pl_l14, pl_l15, pl_l16, pl_l17, pl_l18, pl_l19, pl_l20, pl_l21, pl_l22, pl_l23, pl_l24, pl_l25, pl_l26, pl_l27, pl_l28, pl_l29, pl_l30, pl_l31, pl_l32, pl_l33, pl_l34, pl_l35, pl_l36, pl_l37, pl_l38, pl_l39, pl_l40, pl_l41, pl_l42, pl_l43, pl_l44, pl_l45, pl_l46, pl_l47, pl_l48, pl_l49, pl_l50, pl_l51, pl_l52, pl_l53, pl_l54, pl_l55, pl_l56, pl_l57, pl_l58, pl_l59, pl_l60, pl_l61, pl_l62, pl_l63, pl_l64, pl_l99, pl_l100, pl_l119, pl_l120, pl_l255, pl_l256, pl_l999, pl_l1000, pl_l1023, pl_l1024, pl_l1111, pl_l5555, pl_l10240, nI_ltI, hc, nI_eq]
      by_cases hk3 : k = 3
      · rw [if_pos hk3] at e
        rw [if_pos hk3, h3 hk3]
        exact e
      · rw [if_neg hk3] at e
        rw [if_neg hk3]
        exact e
    · unfold pl_gC; simp only [pl_n_sI, pl_n_sR, (pl_gI_f hn60 k a b X Y).2.1]; omega
    · unfold pl_gC pl_gI; simp only [pl_s_sI, pl_s_sR, pl_s_al]; omega
    · have t2 := (ht m M h.1 hC hS hM).2.2
      have hb1 : 7 * pl_N A 0 3 0 < 140 := by omega
      have hb2 : 7 * pl_N A 0 3 0 + 1 < 140 := by omega
      have hb3 : 7 * pl_N A 0 3 0 + 2 < 140 := by omega
      have hb4 : 7 * pl_N A 0 3 0 + 3 < 140 := by omega
      have hb5 : 7 * pl_N A 0 3 0 + 4 < 140 := by omega
      have hb6 : 7 * pl_N A 0 3 0 + 5 < 140 := by omega
      have hb7 : 7 * pl_N A 0 3 0 + 6 < 140 := by omega
      have e155 : ∀ (Z : ml_M) (w : Int32), pl_Sh Z → ml_I Z 33 24 = nI (pl_N A 0 3 0) → fX11_thing_155 33 w (nI (7 * pl_N A 0 3 0 + 6)) 46 Z = some (nI (pl_N A 0 3 0), ml_sI (ml_sI Z 46 (7 * pl_N A 0 3 0 + 6) w) 33 24 (nI (pl_N A 0 3 0 + 1))) := fun Z w hS hZ => by
        simp (disch := omega) [fX11_thing_155, ↓pl_let, pl_b1, pl_b2, ↓reduceIte, pl_k33 hS, pl_k34 hS, pl_k35 hS, pl_k36 hS, pl_k37 hS, pl_k38 hS, pl_k39 hS, pl_k40 hS, pl_k41 hS, pl_k42 hS, pl_k43 hS, pl_k44 hS, pl_k45 hS, pl_k46 hS, pl_k47 hS, pl_k48 hS, pl_k49 hS, pl_k50 hS, pl_k51 hS, pl_k52 hS, pl_k53 hS, pl_k54 hS, pl_k55 hS, pl_k56 hS, pl_k57 hS, pl_k58 hS, pl_k59 hS, pl_k60 hS, pl_r33_1 hS, pl_r33_4 hS, pl_r33_5 hS, pl_r33_6 hS, pl_r33_7 hS, pl_r33_8 hS, pl_r33_12 hS, pl_r33_13 hS, pl_r33_14 hS, pl_r33_20 hS, pl_r33_21 hS, pl_r33_22 hS, pl_r33_25 hS, pl_r33_26 hS, pl_r33_27 hS, pl_r33_29 hS, pl_r33_31 hS, pl_r33_35 hS, pl_r33_36 hS, pl_r33_38 hS, pl_r33_39 hS, pl_r33_40 hS, pl_r33_42 hS, pl_r33_43 hS, pl_r33_44 hS, pl_r33_45 hS, pl_r33_47 hS, pl_I_sI, pl_I_sR, pl_I_sJ, pl_I_al, pl_I_cp, pl_I_cl, pl_R_sI, pl_R_sR, pl_R_sJ, pl_R_al, pl_R_cp, pl_R_cl, pl_J_sI, pl_J_sR, pl_J_sJ, pl_J_al, pl_J_cp, pl_J_cl, pl_K_sI, pl_K_sR, pl_K_sJ, pl_K_al, pl_K_cp, pl_K_cl, pl_n_sI, pl_n_sR, pl_n_sJ, pl_n_al, pl_n_cp, pl_n_cl, pl_s_sI, pl_s_sR, pl_s_sJ, pl_s_al, pl_s_cp, pl_s_cl, pl_l1, pl_l2, pl_l3, pl_l4, pl_l5, pl_l6, pl_l7, pl_l8, pl_l9, pl_l10, pl_l11, pl_l12, pl_l13, pl_l14, pl_l15, pl_l16, pl_l17, pl_l18, pl_l19, pl_l20, pl_l21, pl_l22, pl_l23, pl_l24, pl_l25, pl_l26, pl_l27, pl_l28, pl_l29, pl_l30, pl_l31, pl_l32, pl_l33, pl_l34, pl_l35, pl_l36, pl_l37, pl_l38, pl_l39, pl_l40, pl_l41, pl_l42, pl_l43, pl_l44, pl_l45, pl_l46, pl_l47, pl_l48, pl_l49, pl_l50, pl_l51, pl_l52, pl_l53, pl_l54, pl_l55, pl_l56, pl_l57, pl_l58, pl_l59, pl_l60, pl_l61, pl_l62, pl_l63, pl_l64, pl_l99, pl_l100, pl_l119, pl_l120, pl_l255, pl_l256, pl_l999, pl_l1000, pl_l1023, pl_l1024, pl_l1111, pl_l5555, pl_l10240, pl_eq0, pl_le0, pl_lt0, pl_neg, pl_leN, pl_ltN, nI_leI, nI_ltI, nI_eq, nI_add, pk_mul, pl_sub, pk_div, pk_rem, nI_clamp, pl_in, pl_ofN, pl_shl1, pl_or, pl_and, pl_le1, pl_sz1, pl_within, pl_inM, pl_isRow, pl_isRowM, pl_isText, pl_isTextM, pl_leZ, pl_0eq, pl_0lt, pl_shl2, pl_shr2, pl_tcE, pl_tcN, pl_ne1, pl_rem3, hZ, hb7]
      have e134 : ∀ (Z : ml_M) (w : Int32), pl_Sh Z → ml_I Z 33 24 = nI (pl_N A 0 3 0) → fX11_thing_134 33 (nI k) y (nI (7 * pl_N A 0 3 0)) w (nI (7 * pl_N A 0 3 0 + 5)) 46 Z = some (nI (pl_N A 0 3 0), ml_sI (ml_sI (ml_sI Z 46 (7 * pl_N A 0 3 0 + 5) w) 46 (7 * pl_N A 0 3 0 + 6) (nI Y)) 33 24 (nI (pl_N A 0 3 0 + 1))) := fun Z w hS hZ => by
        have hS5 := hS.sI 46 (7 * pl_N A 0 3 0 + 5) w
        have hZ5 : ml_I (ml_sI Z 46 (7 * pl_N A 0 3 0 + 5) w) 33 24 = nI (pl_N A 0 3 0) := by rw [pl_I_sI, if_neg (by omega)]; exact hZ
        by_cases hk3 : k = 3
        · simp (disch := omega) only [fX11_thing_134, ↓pl_let, pl_b1, pl_b2, ↓reduceIte, pl_l1, pl_l2, pl_l3, pl_l4, pl_l5, pl_l6, pl_l7, pl_l8, pl_l9, pl_l10, pl_l11, pl_l12, pl_l13, pl_l14, pl_l15, pl_l16, pl_l17, pl_l18, pl_l19, pl_l20, pl_l21, pl_l22, pl_l23, pl_l24, pl_l25, pl_l26, pl_l27, pl_l28, pl_l29, pl_l30, pl_l31, pl_l32, pl_l33, pl_l34, pl_l35, pl_l36, pl_l37, pl_l38, pl_l39, pl_l40, pl_l41, pl_l42, pl_l43, pl_l44, pl_l45, pl_l46, pl_l47, pl_l48, pl_l49, pl_l50, pl_l51, pl_l52, pl_l53, pl_l54, pl_l55, pl_l56, pl_l57, pl_l58, pl_l59, pl_l60, pl_l61, pl_l62, pl_l63, pl_l64, pl_l99, pl_l100, pl_l119, pl_l120, pl_l255, pl_l256, pl_l999, pl_l1000, pl_l1023, pl_l1024, pl_l1111, pl_l5555, pl_l10240, pl_k33 hS, pl_k34 hS, pl_k35 hS, pl_k36 hS, pl_k37 hS, pl_k38 hS, pl_k39 hS, pl_k40 hS, pl_k41 hS, pl_k42 hS, pl_k43 hS, pl_k44 hS, pl_k45 hS, pl_k46 hS, pl_k47 hS, pl_k48 hS, pl_k49 hS, pl_k50 hS, pl_k51 hS, pl_k52 hS, pl_k53 hS, pl_k54 hS, pl_k55 hS, pl_k56 hS, pl_k57 hS, pl_k58 hS, pl_k59 hS, pl_k60 hS, pl_r33_1 hS, pl_r33_4 hS, pl_r33_5 hS, pl_r33_6 hS, pl_r33_7 hS, pl_r33_8 hS, pl_r33_12 hS, pl_r33_13 hS, pl_r33_14 hS, pl_r33_20 hS, pl_r33_21 hS, pl_r33_22 hS, pl_r33_25 hS, pl_r33_26 hS, pl_r33_27 hS, pl_r33_29 hS, pl_r33_31 hS, pl_r33_35 hS, pl_r33_36 hS, pl_r33_38 hS, pl_r33_39 hS, pl_r33_40 hS, pl_r33_42 hS, pl_r33_43 hS, pl_r33_44 hS, pl_r33_45 hS, pl_r33_47 hS, pl_I_sI, pl_I_sR, pl_I_sJ, pl_I_al, pl_I_cp, pl_I_cl, pl_R_sI, pl_R_sR, pl_R_sJ, pl_R_al, pl_R_cp, pl_R_cl, pl_J_sI, pl_J_sR, pl_J_sJ, pl_J_al, pl_J_cp, pl_J_cl, pl_K_sI, pl_K_sR, pl_K_sJ, pl_K_al, pl_K_cp, pl_K_cl, pl_n_sI, pl_n_sR, pl_n_sJ, pl_n_al, pl_n_cp, pl_n_cl, pl_s_sI, pl_s_sR, pl_s_sJ, pl_s_al, pl_s_cp, pl_s_cl, pl_in, nI_clamp, hb6, and_self, if_true, nI_eq, hk3, nI_add]
          rw [e155 _ _ hS5 hZ5, h3 hk3]
        · simp (disch := omega) only [fX11_thing_134, ↓pl_let, pl_b1, pl_b2, ↓reduceIte, pl_l1, pl_l2, pl_l3, pl_l4, pl_l5, pl_l6, pl_l7, pl_l8, pl_l9, pl_l10, pl_l11, pl_l12, pl_l13, pl_l14, pl_l15, pl_l16, pl_l17, pl_l18, pl_l19, pl_l20, pl_l21, pl_l22, pl_l23, pl_l24, pl_l25, pl_l26, pl_l27, pl_l28, pl_l29, pl_l30, pl_l31, pl_l32, pl_l33, pl_l34, pl_l35, pl_l36, pl_l37, pl_l38, pl_l39, pl_l40, pl_l41, pl_l42, pl_l43, pl_l44, pl_l45, pl_l46, pl_l47, pl_l48, pl_l49, pl_l50, pl_l51, pl_l52, pl_l53, pl_l54, pl_l55, pl_l56, pl_l57, pl_l58, pl_l59, pl_l60, pl_l61, pl_l62, pl_l63, pl_l64, pl_l99, pl_l100, pl_l119, pl_l120, pl_l255, pl_l256, pl_l999, pl_l1000, pl_l1023, pl_l1024, pl_l1111, pl_l5555, pl_l10240, pl_k33 hS, pl_k34 hS, pl_k35 hS, pl_k36 hS, pl_k37 hS, pl_k38 hS, pl_k39 hS, pl_k40 hS, pl_k41 hS, pl_k42 hS, pl_k43 hS, pl_k44 hS, pl_k45 hS, pl_k46 hS, pl_k47 hS, pl_k48 hS, pl_k49 hS, pl_k50 hS, pl_k51 hS, pl_k52 hS, pl_k53 hS, pl_k54 hS, pl_k55 hS, pl_k56 hS, pl_k57 hS, pl_k58 hS, pl_k59 hS, pl_k60 hS, pl_r33_1 hS, pl_r33_4 hS, pl_r33_5 hS, pl_r33_6 hS, pl_r33_7 hS, pl_r33_8 hS, pl_r33_12 hS, pl_r33_13 hS, pl_r33_14 hS, pl_r33_20 hS, pl_r33_21 hS, pl_r33_22 hS, pl_r33_25 hS, pl_r33_26 hS, pl_r33_27 hS, pl_r33_29 hS, pl_r33_31 hS, pl_r33_35 hS, pl_r33_36 hS, pl_r33_38 hS, pl_r33_39 hS, pl_r33_40 hS, pl_r33_42 hS, pl_r33_43 hS, pl_r33_44 hS, pl_r33_45 hS, pl_r33_47 hS, pl_I_sI, pl_I_sR, pl_I_sJ, pl_I_al, pl_I_cp, pl_I_cl, pl_R_sI, pl_R_sR, pl_R_sJ, pl_R_al, pl_R_cp, pl_R_cl, pl_J_sI, pl_J_sR, pl_J_sJ, pl_J_al, pl_J_cp, pl_J_cl, pl_K_sI, pl_K_sR, pl_K_sJ, pl_K_al, pl_K_cp, pl_K_cl, pl_n_sI, pl_n_sR, pl_n_sJ, pl_n_al, pl_n_cp, pl_n_cl, pl_s_sI, pl_s_sR, pl_s_sJ, pl_s_al, pl_s_cp, pl_s_cl, pl_in, nI_clamp, hb6, and_self, if_true, nI_eq, hk3, if_false, nI_add]
          rw [e155 _ _ hS5 hZ5, hn3 hk3, nI_0]
      simp (disch := omega) only [fX11_thing, ↓pl_let, pl_b1, pl_b2, ↓reduceIte, yy, t2, pl_k33 hS, pl_k34 hS, pl_k35 hS, pl_k36 hS, pl_k37 hS, pl_k38 hS, pl_k39 hS, pl_k40 hS, pl_k41 hS, pl_k42 hS, pl_k43 hS, pl_k44 hS, pl_k45 hS, pl_k46 hS, pl_k47 hS, pl_k48 hS, pl_k49 hS, pl_k50 hS, pl_k51 hS, pl_k52 hS, pl_k53 hS, pl_k54 hS, pl_k55 hS, pl_k56 hS, pl_k57 hS, pl_k58 hS, pl_k59 hS, pl_k60 hS, pl_r33_1 hS, pl_r33_4 hS, pl_r33_5 hS, pl_r33_6 hS, pl_r33_7 hS, pl_r33_8 hS, pl_r33_12 hS, pl_r33_13 hS, pl_r33_14 hS, pl_r33_20 hS, pl_r33_21 hS, pl_r33_22 hS, pl_r33_25 hS, pl_r33_26 hS, pl_r33_27 hS, pl_r33_29 hS, pl_r33_31 hS, pl_r33_35 hS, pl_r33_36 hS, pl_r33_38 hS, pl_r33_39 hS, pl_r33_40 hS, pl_r33_42 hS, pl_r33_43 hS, pl_r33_44 hS, pl_r33_45 hS, pl_r33_47 hS, hM.1.1, hM.1.2.1, hM.1.2.2.1, hM.1.2.2.2.1, hM.1.2.2.2.2.1, hM.1.2.2.2.2.2.1, hM.1.2.2.2.2.2.2.1, hM.1.2.2.2.2.2.2.2.1, pl_l1, pl_l2, pl_l3, pl_l4, pl_l5, pl_l6, pl_l7, pl_l8, pl_l9, pl_l10, pl_l11, pl_l12, pl_l13, pl_l14, pl_l15, pl_l16, pl_l17, pl_l18, pl_l19, pl_l20, pl_l21, pl_l22, pl_l23, pl_l24, pl_l25, pl_l26, pl_l27, pl_l28, pl_l29, pl_l30, pl_l31, pl_l32, pl_l33, pl_l34, pl_l35, pl_l36, pl_l37, pl_l38, pl_l39, pl_l40, pl_l41, pl_l42, pl_l43, pl_l44, pl_l45, pl_l46, pl_l47, pl_l48, pl_l49, pl_l50, pl_l51, pl_l52, pl_l53, pl_l54, pl_l55, pl_l56, pl_l57, pl_l58, pl_l59, pl_l60, pl_l61, pl_l62, pl_l63, pl_l64, pl_l99, pl_l100, pl_l119, pl_l120, pl_l255, pl_l256, pl_l999, pl_l1000, pl_l1023, pl_l1024, pl_l1111, pl_l5555, pl_l10240, nI_eq, show ¬ pl_N A 0 3 0 = 20 by omega, pl_eq0, Nat.reduceEqDiff, if_false, if_true, pk_mul, nI_add, pl_in, nI_clamp, hb1, hb2, hb3, hb4, hb5, hb6, and_self, pl_I_sI, pl_I_sR, pl_I_sJ, pl_I_al, pl_I_cp, pl_I_cl, pl_R_sI, pl_R_sR, pl_R_sJ, pl_R_al, pl_R_cp, pl_R_cl, pl_J_sI, pl_J_sR, pl_J_sJ, pl_J_al, pl_J_cp, pl_J_cl, pl_K_sI, pl_K_sR, pl_K_sJ, pl_K_al, pl_K_cp, pl_K_cl, pl_n_sI, pl_n_sR, pl_n_sJ, pl_n_al, pl_n_cp, pl_n_cl, pl_s_sI, pl_s_sR, pl_s_sJ, pl_s_al, pl_s_cp, pl_s_cl]
      by_cases hk2 : k = 2
      · rw [if_pos hk2, h24 (Or.inl hk2)]
        exact e134 _ _ (((((hS.sI _ _ _).sI _ _ _).sI _ _ _).sI _ _ _).sI _ _ _) (by simp [pl_I_sI, pl_I_sR, pl_I_sJ, pl_I_al, pl_I_cp, pl_I_cl, pl_R_sI, pl_R_sR, pl_R_sJ, pl_R_al, pl_R_cp, pl_R_cl, pl_J_sI, pl_J_sR, pl_J_sJ, pl_J_al, pl_J_cp, pl_J_cl, pl_K_sI, pl_K_sR, pl_K_sJ, pl_K_al, pl_K_cp, pl_K_cl, pl_n_sI, pl_n_sR, pl_n_sJ, pl_n_al, pl_n_cp, pl_n_cl, pl_s_sI, pl_s_sR, pl_s_sJ, pl_s_al, pl_s_cp, pl_s_cl, hM.1.1, hM.1.2.1, hM.1.2.2.1, hM.1.2.2.2.1, hM.1.2.2.2.2.1, hM.1.2.2.2.2.2.1, hM.1.2.2.2.2.2.2.1, hM.1.2.2.2.2.2.2.2.1])
      · rw [if_neg hk2]
        by_cases hk4 : k = 4
        · rw [if_pos hk4, h24 (Or.inr hk4)]
          exact e134 _ _ (((((hS.sI _ _ _).sI _ _ _).sI _ _ _).sI _ _ _).sI _ _ _) (by simp [pl_I_sI, pl_I_sR, pl_I_sJ, pl_I_al, pl_I_cp, pl_I_cl, pl_R_sI, pl_R_sR, pl_R_sJ, pl_R_al, pl_R_cp, pl_R_cl, pl_J_sI, pl_J_sR, pl_J_sJ, pl_J_al, pl_J_cp, pl_J_cl, pl_K_sI, pl_K_sR, pl_K_sJ, pl_K_al, pl_K_cp, pl_K_cl, pl_n_sI, pl_n_sR, pl_n_sJ, pl_n_al, pl_n_cp, pl_n_cl, pl_s_sI, pl_s_sR, pl_s_sJ, pl_s_al, pl_s_cp, pl_s_cl, hM.1.1, hM.1.2.1, hM.1.2.2.1, hM.1.2.2.2.1, hM.1.2.2.2.2.1, hM.1.2.2.2.2.2.1, hM.1.2.2.2.2.2.2.1, hM.1.2.2.2.2.2.2.2.1])
        · rw [if_neg hk4, hx (by omega)]
          exact e134 _ _ (((((hS.sI _ _ _).sI _ _ _).sI _ _ _).sI _ _ _).sI _ _ _) (by simp [pl_I_sI, pl_I_sR, pl_I_sJ, pl_I_al, pl_I_cp, pl_I_cl, pl_R_sI, pl_R_sR, pl_R_sJ, pl_R_al, pl_R_cp, pl_R_cl, pl_J_sI, pl_J_sR, pl_J_sJ, pl_J_al, pl_J_cp, pl_J_cl, pl_K_sI, pl_K_sR, pl_K_sJ, pl_K_al, pl_K_cp, pl_K_cl, pl_n_sI, pl_n_sR, pl_n_sJ, pl_n_al, pl_n_cp, pl_n_cl, pl_s_sI, pl_s_sR, pl_s_sJ, pl_s_al, pl_s_cp, pl_s_cl, hM.1.1, hM.1.2.1, hM.1.2.2.1, hM.1.2.2.2.1, hM.1.2.2.2.2.1, hM.1.2.2.2.2.2.1, hM.1.2.2.2.2.2.2.1, hM.1.2.2.2.2.2.2.2.1])
    · unfold pl_gM
      exact ((((((((pl_mo.refl M).sI (by decide)).sI (by decide)).sI (by decide)).sI (by decide)).sI (by decide)).sI (by decide)).sI (by decide)).sI (by decide)
  · refine pl_Ok.same h (-2) ?_ ?_
    · rw [hcl]
      simp (disch := omega) only [fX10_thing_44, ↓pl_let, pl_b1, pl_b2, ↓reduceIte, pl_k1 hS, pl_k2 hS, pl_k3 hS, pl_k8 hS, pl_k9 hS, pl_k10 hS, pl_k11 hS, pl_k12 hS, pl_k13 hS, pl_k14 hS, pl_k15 hS, pl_k16 hS, pl_k17 hS, pl_k18 hS, pl_k19 hS, pl_k20 hS, pl_k21 hS, pl_k22 hS, pl_k23 hS, pl_k24 hS, pl_k25 hS, pl_k26 hS, pl_k27 hS, pl_k28 hS, pl_k29 hS, pl_k30 hS, pl_k31 hS, pl_k32 hS, pl_r1_0 hS, pl_r1_1 hS, pl_r1_4 hS, pl_r1_6 hS, pl_r1_8 hS, pl_r1_10 hS, pl_r1_12 hS, pl_r1_13 hS, pl_r1_14 hS, pl_r1_18 hS, pl_r12_2 hS, pl_r12_3 hS, pl_r12_4 hS, pl_r12_8 hS, pl_r12_9 hS, pl_r12_10 hS, pl_r12_11 hS, pl_r12_12 hS, pl_r21_3 hS, pl_r21_5 hS, pl_r21_6 hS, pl_r21_7 hS, pl_r26_0 hS, pl_r26_2 hS, pl_r26_3 hS, pl_r26_4 hS, pl_r26_5 hS, hC.1.1, hC.1.2.1, hC.1.2.2.1, hC.1.2.2.2.1, hC.1.2.2.2.2.1, pl_l1, pl_l2, pl_l3, pl_l4, pl_l5, pl_l6, pl_l7, pl_l8, pl_l9, pl_l10, pl_l11, pl_l12, pl_l13, pl_l14, pl_l15, pl_l16, pl_l17, pl_l18, pl_l19, pl_l20, pl_l21, pl_l22, pl_l23, pl_l24, pl_l25, pl_l26, pl_l27, pl_l28, pl_l29, pl_l30, pl_l31, pl_l32, pl_l33, pl_l34, pl_l35, pl_l36, pl_l37, pl_l38, pl_l39, pl_l40, pl_l41, pl_l42, pl_l43, pl_l44, pl_l45, pl_l46, pl_l47, pl_l48, pl_l49, pl_l50, pl_l51, pl_l52, pl_l53, pl_l54, pl_l55, pl_l56, pl_l57, pl_l58, pl_l59, pl_l60, pl_l61, pl_l62, pl_l63, pl_l64, pl_l99, pl_l100, pl_l119, pl_l120, pl_l255, pl_l256, pl_l999, pl_l1000, pl_l1023, pl_l1024, pl_l1111, pl_l5555, pl_l10240, nI_ltI, hc]
    · have t2 := (ht m m hS hC hS hM).2.2
      simp (disch := omega) only [fX11_thing, ↓pl_let, pl_b1, pl_b2, ↓reduceIte, yy, t2, pl_k33 hS, pl_k34 hS, pl_k35 hS, pl_k36 hS, pl_k37 hS, pl_k38 hS, pl_k39 hS, pl_k40 hS, pl_k41 hS, pl_k42 hS, pl_k43 hS, pl_k44 hS, pl_k45 hS, pl_k46 hS, pl_k47 hS, pl_k48 hS, pl_k49 hS, pl_k50 hS, pl_k51 hS, pl_k52 hS, pl_k53 hS, pl_k54 hS, pl_k55 hS, pl_k56 hS, pl_k57 hS, pl_k58 hS, pl_k59 hS, pl_k60 hS, pl_r33_1 hS, pl_r33_4 hS, pl_r33_5 hS, pl_r33_6 hS, pl_r33_7 hS, pl_r33_8 hS, pl_r33_12 hS, pl_r33_13 hS, pl_r33_14 hS, pl_r33_20 hS, pl_r33_21 hS, pl_r33_22 hS, pl_r33_25 hS, pl_r33_26 hS, pl_r33_27 hS, pl_r33_29 hS, pl_r33_31 hS, pl_r33_35 hS, pl_r33_36 hS, pl_r33_38 hS, pl_r33_39 hS, pl_r33_40 hS, pl_r33_42 hS, pl_r33_43 hS, pl_r33_44 hS, pl_r33_45 hS, pl_r33_47 hS, hM.1.1, hM.1.2.1, hM.1.2.2.1, hM.1.2.2.2.1, hM.1.2.2.2.2.1, hM.1.2.2.2.2.2.1, hM.1.2.2.2.2.2.2.1, hM.1.2.2.2.2.2.2.2.1, pl_l1, pl_l2, pl_l3, pl_l4, pl_l5, pl_l6, pl_l7, pl_l8, pl_l9, pl_l10, pl_l11, pl_l12, pl_l13, pl_l14, pl_l15, pl_l16, pl_l17, pl_l18, pl_l19, pl_l20, pl_l21, pl_l22, pl_l23, pl_l24, pl_l25, pl_l26, pl_l27, pl_l28, pl_l29, pl_l30, pl_l31, pl_l32, pl_l33, pl_l34, pl_l35, pl_l36, pl_l37, pl_l38, pl_l39, pl_l40, pl_l41, pl_l42, pl_l43, pl_l44, pl_l45, pl_l46, pl_l47, pl_l48, pl_l49, pl_l50, pl_l51, pl_l52, pl_l53, pl_l54, pl_l55, pl_l56, pl_l57, pl_l58, pl_l59, pl_l60, pl_l61, pl_l62, pl_l63, pl_l64, pl_l99, pl_l100, pl_l119, pl_l120, pl_l255, pl_l256, pl_l999, pl_l1000, pl_l1023, pl_l1024, pl_l1111, pl_l5555, pl_l10240, nI_eq, show pl_N A 0 3 0 = 20 by omega, pl_eq0, Nat.reduceEqDiff, if_true, if_false]

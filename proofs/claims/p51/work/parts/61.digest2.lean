/-! DIGEST: the class's side, rows and the whole. -/
theorem pl_mf_cons (f g : Nat → Int32) (v : Int32) (h0 : f 0 = v) (h1 : ∀ j, f (1 + j) = g j) (n : Nat) (h : Int64) : pl_mf f (1 + n) h = pl_mf g n (pl_mx h v) := by
  induction n with
  | zero => show pl_mx h (f 0) = _; rw [h0]; rfl
  | succ n ih =>
    rw [show 1 + (n + 1) = (1 + n) + 1 by omega, pl_mf1, ih, pl_mf1, h1]
theorem pl_mixRows {A : pl_A} {m : ml_M} (hS : pl_Sh m) (hW : pl_W A) (hC : pl_C A m) (h : Int64) : fX10_mixRows 1 h m = some (pl_dr A h) := by
  have hw8 := hW.2.2.2.2.2.2.2.2.1
  have hw9 := hW.2.2.2.2.2.2.2.2.2.1
  have hm1 : (-1 : Int32) = pl_sz 0 := rfl
  have e2 : ∀ h, fX10_mixRows_94 ml_fu 1 h 0 m = some (pl_m2 (pl_d8 A) (fun r => 1 + (pl_N A 9 r 0 - 1)) 4 h) := fun h => by
    refine pl_for (F := fun fu t g => fX10_mixRows_94 fu 1 g (nI t) m) (R := some (pl_m2 (pl_d8 A) (fun r => 1 + (pl_N A 9 r 0 - 1)) 4 h)) 4 (fun t => pl_m2 (pl_d8 A) (fun r => 1 + (pl_N A 9 r 0 - 1)) t h) (fun fu t ht => ?_) (fun fu => ?_) ml_fu (by rw [pl_fu]; omega)
    · have hb := hw9 t ht
      have hcs := pl_mf_cons (pl_d8 A t) (pl_V A 1 t) (pl_sz (pl_N A 9 t 0)) (by unfold pl_d8; rw [if_pos rfl]) (fun j => by unfold pl_d8; rw [if_neg (by omega)]; congr 1; omega)
      rw [pl_m21, hcs]
      rcases hC.2.2.1.get ht with ⟨h0, hR⟩ | ⟨n, h0, -, -, hR3, hK, hv⟩
      · simp (disch := omega) only [fX10_mixRows_94, fX10_mixRows_122, fX10_mixRows_173, ↓pl_let, pl_b1, pl_b2, ↓reduceIte, pl_k1 hS, pl_k2 hS, pl_k3 hS, pl_k8 hS, pl_k9 hS, pl_k10 hS, pl_k11 hS, pl_k12 hS, pl_k13 hS, pl_k14 hS, pl_k15 hS, pl_k16 hS, pl_k17 hS, pl_k18 hS, pl_k19 hS, pl_k20 hS, pl_k21 hS, pl_k22 hS, pl_k23 hS, pl_k24 hS, pl_k25 hS, pl_k26 hS, pl_k27 hS, pl_k28 hS, pl_k29 hS, pl_k30 hS, pl_k31 hS, pl_k32 hS, pl_r1_0 hS, pl_r1_1 hS, pl_r1_4 hS, pl_r1_6 hS, pl_r1_8 hS, pl_r1_10 hS, pl_r1_12 hS, pl_r1_13 hS, pl_r1_14 hS, pl_r1_18 hS, pl_r12_2 hS, pl_r12_3 hS, pl_r12_4 hS, pl_r12_8 hS, pl_r12_9 hS, pl_r12_10 hS, pl_r12_11 hS, pl_r12_12 hS, pl_r21_3 hS, pl_r21_5 hS, pl_r21_6 hS, pl_r21_7 hS, pl_r26_0 hS, pl_r26_2 hS, pl_r26_3 hS, pl_r26_4 hS, pl_r26_5 hS, nI_leI, pl_l4, show ¬ 4 ≤ t by omega, if_false, if_true, pl_in, nI_clamp, ht, and_self, hR, hm1, pl_mix, h0, Nat.zero_sub]
        rw [show (1 : Int32) = nI 1 from rfl, nI_add]
        rfl
      · have ei : ∀ (K : Nat → Int64 → Int32 → ml_M → Option Int64) (h : Int64), fX10_mixRows_146 K ml_fu 1 h (nI t) (ml_R m 3 t) (nI n) 0 m = K 1 (pl_mf (pl_V A 1 t) n h) (nI (t + 1)) m := fun K h => by
          refine pl_for (F := fun fu j g => fX10_mixRows_146 K fu 1 g (nI t) (ml_R m 3 t) (nI n) (nI j) m) (R := K 1 (pl_mf (pl_V A 1 t) n h) (nI (t + 1)) m) n (fun j => pl_mf (pl_V A 1 t) j h) (fun fu j hj => ?_) (fun fu => ?_) ml_fu (by rw [pl_fu]; omega)
          · simp (disch := omega) only [fX10_mixRows_146, ↓pl_let, pl_b1, pl_b2, ↓reduceIte, pl_l1, pl_l2, pl_l3, pl_l4, pl_l5, pl_l6, pl_l7, pl_l8, pl_l9, pl_l10, pl_l11, pl_l12, pl_l13, pl_l14, pl_l15, pl_l16, pl_l17, pl_l18, pl_l19, pl_l20, pl_l21, pl_l22, pl_l23, pl_l24, pl_l25, pl_l26, pl_l27, pl_l28, pl_l29, pl_l30, pl_l31, pl_l32, pl_l33, pl_l34, pl_l35, pl_l36, pl_l37, pl_l38, pl_l39, pl_l40, pl_l41, pl_l42, pl_l43, pl_l44, pl_l45, pl_l46, pl_l47, pl_l48, pl_l49, pl_l50, pl_l51, pl_l52, pl_l53, pl_l54, pl_l55, pl_l56, pl_l57, pl_l58, pl_l59, pl_l60, pl_l61, pl_l62, pl_l63, pl_l64, pl_l99, pl_l100, pl_l119, pl_l120, pl_l255, pl_l256, pl_l999, pl_l1000, pl_l1023, pl_l1024, pl_l1111, pl_l5555, pl_l10240, nI_leI, show ¬ n ≤ j by omega, if_false, if_true, pl_in, nI_clamp, hK, hj, and_self, hv j hj, pl_mix, nI_add]
            rfl
          · simp (disch := omega) only [fX10_mixRows_146, fX10_mixRows_173, pl_l1, pl_l2, pl_l3, pl_l4, pl_l5, pl_l6, pl_l7, pl_l8, pl_l9, pl_l10, pl_l11, pl_l12, pl_l13, pl_l14, pl_l15, pl_l16, pl_l17, pl_l18, pl_l19, pl_l20, pl_l21, pl_l22, pl_l23, pl_l24, pl_l25, pl_l26, pl_l27, pl_l28, pl_l29, pl_l30, pl_l31, pl_l32, pl_l33, pl_l34, pl_l35, pl_l36, pl_l37, pl_l38, pl_l39, pl_l40, pl_l41, pl_l42, pl_l43, pl_l44, pl_l45, pl_l46, pl_l47, pl_l48, pl_l49, pl_l50, pl_l51, pl_l52, pl_l53, pl_l54, pl_l55, pl_l56, pl_l57, pl_l58, pl_l59, pl_l60, pl_l61, pl_l62, pl_l63, pl_l64, pl_l99, pl_l100, pl_l119, pl_l120, pl_l255, pl_l256, pl_l999, pl_l1000, pl_l1023, pl_l1024, pl_l1111, pl_l5555, pl_l10240, nI_leI, Nat.le_refl, if_true, nI_add]
        simp (disch := omega) only [fX10_mixRows_94, fX10_mixRows_122, ↓pl_let, pl_b1, pl_b2, ↓reduceIte, pl_k1 hS, pl_k2 hS, pl_k3 hS, pl_k8 hS, pl_k9 hS, pl_k10 hS, pl_k11 hS, pl_k12 hS, pl_k13 hS, pl_k14 hS, pl_k15 hS, pl_k16 hS, pl_k17 hS, pl_k18 hS, pl_k19 hS, pl_k20 hS, pl_k21 hS, pl_k22 hS, pl_k23 hS, pl_k24 hS, pl_k25 hS, pl_k26 hS, pl_k27 hS, pl_k28 hS, pl_k29 hS, pl_k30 hS, pl_k31 hS, pl_k32 hS, pl_r1_0 hS, pl_r1_1 hS, pl_r1_4 hS, pl_r1_6 hS, pl_r1_8 hS, pl_r1_10 hS, pl_r1_12 hS, pl_r1_13 hS, pl_r1_14 hS, pl_r1_18 hS, pl_r12_2 hS, pl_r12_3 hS, pl_r12_4 hS, pl_r12_8 hS, pl_r12_9 hS, pl_r12_10 hS, pl_r12_11 hS, pl_r12_12 hS, pl_r21_3 hS, pl_r21_5 hS, pl_r21_6 hS, pl_r21_7 hS, pl_r26_0 hS, pl_r26_2 hS, pl_r26_3 hS, pl_r26_4 hS, pl_r26_5 hS, nI_leI, pl_l4, show ¬ 4 ≤ t by omega, if_false, if_true, pl_in, nI_clamp, ht, and_self, hR3, hK, pl_ofN, pl_mix, h0, pl_sz1, Nat.add_sub_cancel, ei]
    · simp (disch := omega) only [fX10_mixRows_94, pl_l4, nI_leI, Nat.le_refl, if_true]
  unfold fX10_mixRows pl_dr
  rw [← e2]
  refine pl_for (F := fun fu t g => fX10_mixRows_5 fu 1 g (nI t) m) (R := fX10_mixRows_94 ml_fu 1 (pl_m2 (pl_d7 A) (fun r => 1 + (pl_N A 8 r 0 - 1)) 6 h) 0 m) 6 (fun t => pl_m2 (pl_d7 A) (fun r => 1 + (pl_N A 8 r 0 - 1)) t h) (fun fu t ht => ?_) (fun fu => ?_) ml_fu (by rw [pl_fu]; omega)
  · have hb := hw8 t ht
    have hcs := pl_mf_cons (pl_d7 A t) (pl_V A 0 t) (pl_sz (pl_N A 8 t 0)) (by unfold pl_d7; rw [if_pos rfl]) (fun j => by unfold pl_d7; rw [if_neg (by omega)]; congr 1; omega)
    rw [pl_m21, hcs]
    rcases hC.2.1.get ht with ⟨h0, hR⟩ | ⟨n, h0, -, -, hR3, hK, hv⟩
    · simp (disch := omega) only [fX10_mixRows_5, fX10_mixRows_34, fX10_mixRows_85, ↓pl_let, pl_b1, pl_b2, ↓reduceIte, pl_k1 hS, pl_k2 hS, pl_k3 hS, pl_k8 hS, pl_k9 hS, pl_k10 hS, pl_k11 hS, pl_k12 hS, pl_k13 hS, pl_k14 hS, pl_k15 hS, pl_k16 hS, pl_k17 hS, pl_k18 hS, pl_k19 hS, pl_k20 hS, pl_k21 hS, pl_k22 hS, pl_k23 hS, pl_k24 hS, pl_k25 hS, pl_k26 hS, pl_k27 hS, pl_k28 hS, pl_k29 hS, pl_k30 hS, pl_k31 hS, pl_k32 hS, pl_r1_0 hS, pl_r1_1 hS, pl_r1_4 hS, pl_r1_6 hS, pl_r1_8 hS, pl_r1_10 hS, pl_r1_12 hS, pl_r1_13 hS, pl_r1_14 hS, pl_r1_18 hS, pl_r12_2 hS, pl_r12_3 hS, pl_r12_4 hS, pl_r12_8 hS, pl_r12_9 hS, pl_r12_10 hS, pl_r12_11 hS, pl_r12_12 hS, pl_r21_3 hS, pl_r21_5 hS, pl_r21_6 hS, pl_r21_7 hS, pl_r26_0 hS, pl_r26_2 hS, pl_r26_3 hS, pl_r26_4 hS, pl_r26_5 hS, nI_leI, pl_l6, show ¬ 6 ≤ t by omega, if_false, if_true, pl_in, nI_clamp, ht, and_self, hR, hm1, pl_mix, h0, Nat.zero_sub]
      rw [show (1 : Int32) = nI 1 from rfl, nI_add]
      rfl
    · have ei : ∀ (K : Nat → Int64 → Int32 → ml_M → Option Int64) (h : Int64), fX10_mixRows_58 K ml_fu 1 h (nI t) (ml_R m 2 t) (nI n) 0 m = K 1 (pl_mf (pl_V A 0 t) n h) (nI (t + 1)) m := fun K h => by
        refine pl_for (F := fun fu j g => fX10_mixRows_58 K fu 1 g (nI t) (ml_R m 2 t) (nI n) (nI j) m) (R := K 1 (pl_mf (pl_V A 0 t) n h) (nI (t + 1)) m) n (fun j => pl_mf (pl_V A 0 t) j h) (fun fu j hj => ?_) (fun fu => ?_) ml_fu (by rw [pl_fu]; omega)
        · simp (disch := omega) only [fX10_mixRows_58, ↓pl_let, pl_b1, pl_b2, ↓reduceIte, pl_l1, pl_l2, pl_l3, pl_l4, pl_l5, pl_l6, pl_l7, pl_l8, pl_l9, pl_l10, pl_l11, pl_l12, pl_l13, pl_l14, pl_l15, pl_l16, pl_l17, pl_l18, pl_l19, pl_l20, pl_l21, pl_l22, pl_l23, pl_l24, pl_l25, pl_l26, pl_l27, pl_l28, pl_l29, pl_l30, pl_l31, pl_l32, pl_l33, pl_l34, pl_l35, pl_l36, pl_l37, pl_l38, pl_l39, pl_l40, pl_l41, pl_l42, pl_l43, pl_l44, pl_l45, pl_l46, pl_l47, pl_l48, pl_l49, pl_l50, pl_l51, pl_l52, pl_l53, pl_l54, pl_l55, pl_l56, pl_l57, pl_l58, pl_l59, pl_l60, pl_l61, pl_l62, pl_l63, pl_l64, pl_l99, pl_l100, pl_l119, pl_l120, pl_l255, pl_l256, pl_l999, pl_l1000, pl_l1023, pl_l1024, pl_l1111, pl_l5555, pl_l10240, nI_leI, show ¬ n ≤ j by omega, if_false, if_true, pl_in, nI_clamp, hK, hj, and_self, hv j hj, pl_mix, nI_add]
          rfl
        · simp (disch := omega) only [fX10_mixRows_58, fX10_mixRows_85, pl_l1, pl_l2, pl_l3, pl_l4, pl_l5, pl_l6, pl_l7, pl_l8, pl_l9, pl_l10, pl_l11, pl_l12, pl_l13, pl_l14, pl_l15, pl_l16, pl_l17, pl_l18, pl_l19, pl_l20, pl_l21, pl_l22, pl_l23, pl_l24, pl_l25, pl_l26, pl_l27, pl_l28, pl_l29, pl_l30, pl_l31, pl_l32, pl_l33, pl_l34, pl_l35, pl_l36, pl_l37, pl_l38, pl_l39, pl_l40, pl_l41, pl_l42, pl_l43, pl_l44, pl_l45, pl_l46, pl_l47, pl_l48, pl_l49, pl_l50, pl_l51, pl_l52, pl_l53, pl_l54, pl_l55, pl_l56, pl_l57, pl_l58, pl_l59, pl_l60, pl_l61, pl_l62, pl_l63, pl_l64, pl_l99, pl_l100, pl_l119, pl_l120, pl_l255, pl_l256, pl_l999, pl_l1000, pl_l1023, pl_l1024, pl_l1111, pl_l5555, pl_l10240, nI_leI, Nat.le_refl, if_true, nI_add]
      simp (disch := omega) only [fX10_mixRows_5, fX10_mixRows_34, ↓pl_let, pl_b1, pl_b2, ↓reduceIte, pl_k1 hS, pl_k2 hS, pl_k3 hS, pl_k8 hS, pl_k9 hS, pl_k10 hS, pl_k11 hS, pl_k12 hS, pl_k13 hS, pl_k14 hS, pl_k15 hS, pl_k16 hS, pl_k17 hS, pl_k18 hS, pl_k19 hS, pl_k20 hS, pl_k21 hS, pl_k22 hS, pl_k23 hS, pl_k24 hS, pl_k25 hS, pl_k26 hS, pl_k27 hS, pl_k28 hS, pl_k29 hS, pl_k30 hS, pl_k31 hS, pl_k32 hS, pl_r1_0 hS, pl_r1_1 hS, pl_r1_4 hS, pl_r1_6 hS, pl_r1_8 hS, pl_r1_10 hS, pl_r1_12 hS, pl_r1_13 hS, pl_r1_14 hS, pl_r1_18 hS, pl_r12_2 hS, pl_r12_3 hS, pl_r12_4 hS, pl_r12_8 hS, pl_r12_9 hS, pl_r12_10 hS, pl_r12_11 hS, pl_r12_12 hS, pl_r21_3 hS, pl_r21_5 hS, pl_r21_6 hS, pl_r21_7 hS, pl_r26_0 hS, pl_r26_2 hS, pl_r26_3 hS, pl_r26_4 hS, pl_r26_5 hS, nI_leI, pl_l6, show ¬ 6 ≤ t by omega, if_false, if_true, pl_in, nI_clamp, ht, and_self, hR3, hK, pl_ofN, pl_mix, h0, pl_sz1, Nat.add_sub_cancel, ei]
  · simp (disch := omega) only [fX10_mixRows_5, fX10_mixRows_91, pl_l6, nI_leI, Nat.le_refl, if_true]
theorem pl_digC {A : pl_A} {m : ml_M} (hS : pl_Sh m) (hW : pl_W A) (hC : pl_C A m) : fX10_digest 1 m = some (pl_dg A) := by
  unfold fX10_digest
  refine pl_for (F := fun fu k g => fX10_digest_6 fu 1 g (nI k) m) (R := some (pl_dg A)) 9 (fun k => pl_mf (fun k => nI (pl_ct A k)) k 17) (fun fu k hk => ?_) (fun fu => ?_) ml_fu (by rw [pl_fu]; omega)
  · simp (disch := omega) only [fX10_digest_6, ↓pl_let, pl_b1, pl_b2, ↓reduceIte, pl_l1, pl_l2, pl_l3, pl_l4, pl_l5, pl_l6, pl_l7, pl_l8, pl_l9, pl_l10, pl_l11, pl_l12, pl_l13, pl_l14, pl_l15, pl_l16, pl_l17, pl_l18, pl_l19, pl_l20, pl_l21, pl_l22, pl_l23, pl_l24, pl_l25, pl_l26, pl_l27, pl_l28, pl_l29, pl_l30, pl_l31, pl_l32, pl_l33, pl_l34, pl_l35, pl_l36, pl_l37, pl_l38, pl_l39, pl_l40, pl_l41, pl_l42, pl_l43, pl_l44, pl_l45, pl_l46, pl_l47, pl_l48, pl_l49, pl_l50, pl_l51, pl_l52, pl_l53, pl_l54, pl_l55, pl_l56, pl_l57, pl_l58, pl_l59, pl_l60, pl_l61, pl_l62, pl_l63, pl_l64, pl_l99, pl_l100, pl_l119, pl_l120, pl_l255, pl_l256, pl_l999, pl_l1000, pl_l1023, pl_l1024, pl_l1111, pl_l5555, pl_l10240, nI_ltI, show ¬ 8 < k by omega, if_false, if_true, pl_k1 hS, pl_countC hS hW hC (show k ≤ 8 by omega), pl_mix, nI_add]
    rfl
  · simp (disch := omega) only [fX10_digest_6, fX10_digest_28, ↓pl_let, pl_b1, pl_b2, ↓reduceIte, pl_l1, pl_l2, pl_l3, pl_l4, pl_l5, pl_l6, pl_l7, pl_l8, pl_l9, pl_l10, pl_l11, pl_l12, pl_l13, pl_l14, pl_l15, pl_l16, pl_l17, pl_l18, pl_l19, pl_l20, pl_l21, pl_l22, pl_l23, pl_l24, pl_l25, pl_l26, pl_l27, pl_l28, pl_l29, pl_l30, pl_l31, pl_l32, pl_l33, pl_l34, pl_l35, pl_l36, pl_l37, pl_l38, pl_l39, pl_l40, pl_l41, pl_l42, pl_l43, pl_l44, pl_l45, pl_l46, pl_l47, pl_l48, pl_l49, pl_l50, pl_l51, pl_l52, pl_l53, pl_l54, pl_l55, pl_l56, pl_l57, pl_l58, pl_l59, pl_l60, pl_l61, pl_l62, pl_l63, pl_l64, pl_l99, pl_l100, pl_l119, pl_l120, pl_l255, pl_l256, pl_l999, pl_l1000, pl_l1023, pl_l1024, pl_l1111, pl_l5555, pl_l10240, nI_ltI, show 8 < 9 by decide, if_true, pl_k1 hS, hC.1.1, hC.1.2.1, hC.1.2.2.1, hC.1.2.2.2.1, hC.1.2.2.2.2.1, pl_mix, pl_mixHouse hS hW hC, pl_mixThings hS hW hC, pl_mixPapers hS hW hC, pl_mixRows hS hW hC]
    rfl
/-- the reference with a digest begun -/
def pl_hM (M : ml_M) (h : Int64) : ml_M := ml_sJ M 33 48 h
theorem pl_hM_S {M : ml_M} (hS : pl_Sh M) (h : Int64) : pl_Sh (pl_hM M h) := hS
theorem pl_hM_M {A : pl_A} {M : ml_M} (hM : pl_M A M) (h : Int64) : pl_M A (pl_hM M h) := by
  have hk : pl_kp M (pl_hM M h) := ⟨fun _ _ => rfl, fun _ _ => rfl, by unfold pl_hM; rw [pl_J_sJ, if_neg (by omega)]⟩
  exact hk.M hM
theorem pl_hM_I (M : ml_M) (h : Int64) (a : Nat) : ml_I (pl_hM M h) a = ml_I M a := rfl
theorem pl_mixM {M : ml_M} (hS : pl_Sh M) (h v : Int64) : fX11_mix 33 v (pl_hM M h) = some (pl_hM M ((31 : Int64) * h + v)) := by
  unfold fX11_mix pl_hM
  have hs2 : ∀ v w : Int64, ml_sJ (ml_sJ M 33 48 v) 33 48 w = ml_sJ M 33 48 w := fun v w => by
    have : ml_u2 (ml_u2 (ml_J M) 33 48 v) 33 48 w = ml_u2 (ml_J M) 33 48 w := by
      funext a b
      unfold ml_u2
      by_cases h : a = 33 ∧ b = 48
      · rw [if_pos h, if_pos h]
      · rw [if_neg h, if_neg h, if_neg h]
    show (_, _, _, _, _, _) = (_, _, _, _, _, _)
    rw [show ml_u2 (ml_J (ml_sJ M 33 48 v)) 33 48 w = ml_u2 (ml_J M) 33 48 w from this]
    rfl
  simp only [↓pl_let, pl_b1, pl_b2, ↓reduceIte, pl_K_sJ, pl_k33 hS, if_true, pl_J_sJ, and_self, hs2]
theorem pl_mixMi {M : ml_M} (hS : pl_Sh M) (h : Int64) (v : Int32) : fX11_mix 33 v.toInt64 (pl_hM M h) = some (pl_hM M (pl_mx h v)) := pl_mixM hS h _
/-- a flat row of ints mixed is the same as row by row -/
theorem pl_mf_add (f : Nat → Int32) (a b : Nat) (h : Int64) : pl_mf f (a + b) h = pl_mf (fun j => f (a + j)) b (pl_mf f a h) := by
  induction b with
  | zero => rfl
  | succ b ih => rw [show a + (b + 1) = (a + b) + 1 by omega, pl_mf1, ih, pl_mf1]
theorem pl_mf_eq {f g : Nat → Int32} {n : Nat} (h : ∀ j, j < n → f j = g j) (x : Int64) : pl_mf f n x = pl_mf g n x := by
  induction n with
  | zero => rfl
  | succ n ih => rw [pl_mf1, pl_mf1, ih (fun j hj => h j (by omega)), h n (by omega)]
theorem pl_flat (f : Nat → Int32) (g : Nat → Nat → Int32) (w n : Nat) (hfg : ∀ l j, l < n → j < w → f (w * l + j) = g l j) (h : Int64) : pl_mf f (w * n) h = pl_m2 g (fun _ => w) n h := by
  induction n with
  | zero => rw [Nat.mul_zero]; rfl
  | succ n ih =>
    rw [Nat.mul_succ, pl_mf_add, ih (fun l j hl hj => hfg l j (by omega) hj), pl_m21]
    exact pl_mf_eq (fun j hj => hfg n j (by omega) hj) _

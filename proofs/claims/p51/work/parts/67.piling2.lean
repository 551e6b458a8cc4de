/-! PILING: the reference's side. -/
def pl_mt (A : pl_A) (g0 : Nat → Int32) (s : Nat) : Nat → Int32 := fun x => if s ≤ x ∧ x < 2 ^ pl_N A 0 1 0 then nI (pl_po A x) else g0 x
def pl_mi (A : pl_A) (g0 : Nat → Int32) (s t : Nat) : Nat → Int32 := fun x => if x = s then nI ((if s = 2 ^ pl_N A 0 1 0 - 1 then 1 else 0) + pl_ps A s t) else pl_mt A g0 (s + 1) x
theorem pl_min {A : pl_A} {g0 : Nat → Int32} {s : Nat} (hs : s < 2 ^ pl_N A 0 1 0) : pl_mi A g0 s (pl_N A 0 1 0) = pl_mt A g0 s := by
  funext x
  unfold pl_mi pl_mt
  by_cases h : x = s
  · rw [if_pos h, if_pos (show s ≤ x ∧ x < 2 ^ pl_N A 0 1 0 by omega), h]
    by_cases hf : s = 2 ^ pl_N A 0 1 0 - 1
    · rw [if_pos hf, hf, pl_po_full]
      have : pl_ps A (2 ^ pl_N A 0 1 0 - 1) (pl_N A 0 1 0) = 0 := by
        refine Classical.byContradiction fun z => ?_
        obtain ⟨t, ht, hne⟩ := pl_sum_pos.mp z
        by_cases hc : pl_cf A (2 ^ pl_N A 0 1 0 - 1) t = true
        · have := pl_cf_tb hc
          rw [pl_full_tb, decide_eq_true ht] at this
          cases this
        · rw [if_neg hc] at hne; exact hne rfl
      rw [this]
    · rw [if_neg hf, pl_po_eq A hs hf, Nat.zero_add]; rfl
  · rw [if_neg h]
    by_cases h2 : s + 1 ≤ x ∧ x < 2 ^ pl_N A 0 1 0
    · rw [if_pos h2, if_pos (show s ≤ x ∧ x < 2 ^ pl_N A 0 1 0 by omega)]
    · rw [if_neg h2, if_neg (show ¬ (s ≤ x ∧ x < 2 ^ pl_N A 0 1 0) by omega)]
theorem pl_waysM {A : pl_A} {M : ml_M} (hS : pl_Sh M) (hW : pl_W A) (hM : pl_M A M) (r : Nat) : fX11_piling_20 ml_fu 33 (nI r) (nI (2 ^ pl_N A 0 1 0 - 1)) (nI (2 ^ pl_N A 0 1 0 - 1)) M = fX11_piling_98 33 (nI r) (pl_wI M 47 (pl_mt A (ml_I M 47) 0)) := by
  have hw := hW.1
  unfold pl_Wc at hw
  obtain ⟨p1, p2⟩ := pl_pown (show pl_N A 0 1 0 ≤ 8 by omega)
  obtain ⟨N, hN⟩ : ∃ N, N = 2 ^ pl_N A 0 1 0 := ⟨_, rfl⟩
  have hMg : ∀ g, pl_M A (pl_wI M 47 g) := fun g => ((pl_kp.refl M).wI (by decide)).M hM
  have hSg : ∀ g, pl_Sh (pl_wI M 47 g) := fun g => hS.wI 47 g
  have hIg : ∀ g, ml_I (pl_wI M 47 g) 47 = g := fun g => by rw [pl_I_wI, if_pos rfl]
  have h10 : ∀ g, ml_I (pl_wI M 47 g) 33 10 = nI (pl_N A 0 1 0) := fun g => (hMg g).1.2.1
  rw [← hN] at p1 p2 ⊢
  have ei : ∀ (K : Nat → Int32 → Int32 → Int32 → ml_M → Option (Int32 × ml_M)) (s : Nat), s < N → fX11_piling_43 K ml_fu 33 (nI r) (nI (N - 1)) (nI s) 0 (pl_wI M 47 (pl_mi A (ml_I M 47) s 0)) = K 33 (nI r) (nI (N - 1)) (pl_sz s) (pl_wI M 47 (pl_mt A (ml_I M 47) s)) := fun K s hs => by
    refine pl_for (F := fun fu t g => fX11_piling_43 K fu 33 (nI r) (nI (N - 1)) (nI s) (nI t) (pl_wI M 47 g)) (R := K 33 (nI r) (nI (N - 1)) (pl_sz s) (pl_wI M 47 (pl_mt A (ml_I M 47) s))) (pl_N A 0 1 0) (pl_mi A (ml_I M 47) s) (fun fu t ht => ?_) (fun fu => ?_) ml_fu (by rw [pl_fu]; omega)
    · have hS' := hSg (pl_mi A (ml_I M 47) s t)
      have hcf := pl_canCome hS' hW (hMg (pl_mi A (ml_I M 47) s t)) ht (show s < 2 ^ pl_N A 0 1 0 by omega)
      have hlt : s ||| 2 ^ t < N := by rw [hN]; exact pl_ins_lt (by omega) ht
      have hps : pl_ps A s (t + 1) = pl_ps A s t + (if pl_cf A s t = true then pl_po A (s ||| 2 ^ t) else 0) := rfl
      have e31 : (31 : Int32) = nI 31 := rfl
      have e1 : (1 : Int32) = nI 1 := rfl
      have hv1 : pl_mi A (ml_I M 47) s t s = nI ((if s = 2 ^ pl_N A 0 1 0 - 1 then 1 else 0) + pl_ps A s t) := by unfold pl_mi; rw [if_pos rfl]
      have k33 := pl_k33 hS'
      have k47 := pl_k47 hS'
      have r26 := pl_r33_26 hS'
      by_cases hc : pl_cf A s t = true
      · have hgt := pl_ins_gt (pl_cf_tb hc)
        rw [if_pos hc] at hps hcf
        have hst : (fun j => if j = s then nI ((if s = 2 ^ pl_N A 0 1 0 - 1 then 1 else 0) + pl_ps A s t + pl_po A (s ||| 2 ^ t)) else pl_mi A (ml_I M 47) s t j) = pl_mi A (ml_I M 47) s (t + 1) := by
          funext j
          unfold pl_mi
          by_cases hj : j = s
          · rw [if_pos hj, if_pos hj, hps, Nat.add_assoc]
          · rw [if_neg hj, if_neg hj, if_neg hj]
        have hv2 : pl_mi A (ml_I M 47) s t (s ||| 2 ^ t) = nI (pl_po A (s ||| 2 ^ t)) := by unfold pl_mi pl_mt; rw [if_neg (by omega), if_pos (by omega)]
        simp (disch := omega) only [fX11_piling_43, fX11_piling_84, ↓pl_let, pl_b1, pl_b2, ↓reduceIte, k33, k47, r26, h10, nI_leI, show ¬ pl_N A 0 1 0 ≤ t by omega, if_false, if_true, hcf, e1, e31, pl_eq0, Nat.reduceEqDiff, pl_and, pl_shl2, pl_or, pl_in, nI_clamp, show s < 256 by omega, show s ||| 2 ^ t < 256 by omega, and_self, hIg, hv1, hv2, pl_wI_sI, nI_add]
        rw [hst]
      · rw [if_neg hc] at hps hcf
        have hst : (fun j => if j = s then nI ((if s = 2 ^ pl_N A 0 1 0 - 1 then 1 else 0) + pl_ps A s t) else pl_mi A (ml_I M 47) s t j) = pl_mi A (ml_I M 47) s (t + 1) := by
          funext j
          unfold pl_mi
          by_cases hj : j = s
          · rw [if_pos hj, if_pos hj, hps, Nat.add_zero]
          · rw [if_neg hj, if_neg hj, if_neg hj]
        simp (disch := omega) only [fX11_piling_43, fX11_piling_84, ↓pl_let, pl_b1, pl_b2, ↓reduceIte, k33, k47, r26, h10, nI_leI, show ¬ pl_N A 0 1 0 ≤ t by omega, if_false, if_true, hcf, pl_in, nI_clamp, show s < 256 by omega, and_self, hIg, hv1, pl_wI_sI, Int32.add_zero]
        rw [hst, e1, nI_add]
    · have hm1 : nI s + (-1) = pl_sz s := by
        unfold pl_sz
        cases s with
        | zero => rfl
        | succ s => rw [pk_m1, if_neg (by omega), Nat.add_sub_cancel]
      have hS' := hSg (pl_mi A (ml_I M 47) s (pl_N A 0 1 0))
      have k33 := pl_k33 hS'
      simp (disch := omega) only [fX11_piling_43, fX11_piling_92, ↓pl_let, pl_b1, pl_b2, ↓reduceIte, k33, h10, nI_leI, Nat.le_refl, if_true, hm1]
      rw [pl_min (by omega)]
  have ho := pl_for (F := fun fu j (_ : Unit) => fX11_piling_20 fu 33 (nI r) (nI (N - 1)) (pl_sz (N - j)) (pl_wI M 47 (pl_mt A (ml_I M 47) (N - j)))) (R := fX11_piling_98 33 (nI r) (pl_wI M 47 (pl_mt A (ml_I M 47) 0))) N (fun _ => ()) (fun fu j hj => ?_) (fun fu => ?_) ml_fu (by rw [pl_fu]; omega)
  · have e0 : pl_mt A (ml_I M 47) (N - 0) = ml_I M 47 := by
      funext x; unfold pl_mt; rw [if_neg (by omega)]
    have e1 : pl_sz (N - 0) = nI (N - 1) := by unfold pl_sz; rw [if_neg (by omega), Nat.sub_zero]
    rw [e0, e1, pl_wI_0] at ho
    exact ho
  · obtain ⟨s, hs⟩ : ∃ s, N - j = s + 1 := ⟨N - j - 1, by omega⟩
    have hs2 : N - (j + 1) = s := by omega
    rw [hs, hs2, pl_sz1, ← ei (fX11_piling_20 fu) s (by omega)]
    have hS' := hSg (pl_mt A (ml_I M 47) (s + 1))
    have k33 := pl_k33 hS'
    have k47 := pl_k47 hS'
    have r26 := pl_r33_26 hS'
    have hst : (fun j => if j = s then nI (if s = N - 1 then 1 else 0) else pl_mt A (ml_I M 47) (s + 1) j) = pl_mi A (ml_I M 47) s 0 := by
      funext x; unfold pl_mi
      by_cases hx : x = s
      · rw [if_pos hx, if_pos hx, ← hN]; rfl
      · rw [if_neg hx, if_neg hx]
    rw [← hst]
    by_cases hf : s = N - 1
    · simp (disch := omega) only [fX11_piling_20, fX11_piling_39, ↓pl_let, pl_b1, pl_b2, ↓reduceIte, pl_lt0, if_false, k33, k47, r26, if_true, nI_eq, eq_true hf, pl_in, nI_clamp, show s < 256 by omega, and_self, pl_wI_sI]
      rfl
    · simp (disch := omega) only [fX11_piling_20, fX11_piling_39, ↓pl_let, pl_b1, pl_b2, ↓reduceIte, pl_lt0, if_false, k33, k47, r26, if_true, nI_eq, hf, pl_in, nI_clamp, show s < 256 by omega, and_self, pl_wI_sI]
      rfl
  · rw [Nat.sub_self]
    have hneg : pl_sz 0 < 0 := by decide
    simp only [fX11_piling_20, hneg, if_true]
/-- the reference's row of the first order, so far -/
def pl_rk (A : pl_A) (g0 : Nat → Int32) (r k : Nat) : Nat → Int32 := fun x => if 48 * r ≤ x ∧ x < 48 * r + k then nI (pl_ft A (pl_gS A (x - 48 * r))) else g0 x
theorem pl_rk1 (A : pl_A) (g0 : Nat → Int32) (r k : Nat) : (fun x => if x = 48 * r + k then nI (pl_ft A (pl_gS A k)) else pl_rk A g0 r k x) = pl_rk A g0 r (k + 1) := by
  funext x; unfold pl_rk
  by_cases h : x = 48 * r + k
  · rw [if_pos h, if_pos (show 48 * r ≤ x ∧ x < 48 * r + (k + 1) by omega), show x - 48 * r = k by omega]
  · rw [if_neg h]
    by_cases h2 : 48 * r ≤ x ∧ x < 48 * r + k
    · rw [if_pos h2, if_pos (show 48 * r ≤ x ∧ x < 48 * r + (k + 1) by omega)]
    · rw [if_neg h2, if_neg (show ¬ (48 * r ≤ x ∧ x < 48 * r + (k + 1)) by omega)]
theorem pl_cf_rA (A : pl_A) (r n : Nat) (f : Nat → Int32) : pl_cf (pl_rA A r n f) = pl_cf A := by
  funext S t
  unfold pl_cf
  have e3 : pl_N (pl_rA A r n f) 3 = pl_N A 3 := by funext i k; unfold pl_rA; simp [pl_N_sN, pl_N_sV, pl_N_sVr, pl_N_sL, pl_V_sN, pl_V_sV, pl_V_sVr, pl_V_sL, pl_L_sN, pl_L_sV, pl_L_sVr, pl_L_sL]
  have e0 : pl_N (pl_rA A r n f) 0 2 0 = pl_N A 0 2 0 := by unfold pl_rA; simp [pl_N_sN, pl_N_sV, pl_N_sVr, pl_N_sL, pl_V_sN, pl_V_sV, pl_V_sVr, pl_V_sL, pl_L_sN, pl_L_sV, pl_L_sVr, pl_L_sL]
  rw [e3, e0]
theorem pl_pileM {A : pl_A} {M : ml_M} (hS : pl_Sh M) (hW : pl_W A) (hM : pl_M A M) {r : Nat} (hr6 : r < 6) :
    (pl_po A 0 = 0 → ∃ m2, fX11_piling 33 (nI r) M = some (-9, m2) ∧ pl_mo M m2 ∧ pl_M A m2) ∧
    (pl_po A 0 ≠ 0 → ∃ m2, fX11_piling 33 (nI r) M = some (nI (pl_po A 0), m2) ∧ pl_mo M m2 ∧ pl_M (pl_rA A r (pl_N A 0 1 0 + 1) (pl_gk A (pl_N A 0 1 0))) m2) := by
  have hw := hW.1
  unfold pl_Wc at hw
  obtain ⟨p1, p2⟩ := pl_pown (show pl_N A 0 1 0 ≤ 8 by omega)
  have hr5 : 0 ≤ nI r ∧ nI r ≤ nI 5 := ⟨nI_pos' (by omega), nI_le (by omega) (by decide)⟩
  have hb : fX11_piling 33 (nI r) M = fX11_piling_98 33 (nI r) (pl_wI M 47 (pl_mt A (ml_I M 47) 0)) := by
    rw [← pl_waysM hS hW hM r]
    unfold fX11_piling
    rw [pl_isRowM, if_pos hr5, pl_b1, if_neg (by decide)]
    simp (disch := omega) only [↓pl_let, pl_b1, pl_b2, ↓reduceIte, pl_k33 hS, hM.1.1, hM.1.2.1, hM.1.2.2.1, hM.1.2.2.2.1, hM.1.2.2.2.2.1, hM.1.2.2.2.2.2.1, hM.1.2.2.2.2.2.2.1, hM.1.2.2.2.2.2.2.2.1, if_true, pl_shl1]
    rw [show (1 : Int32) = nI 1 from rfl, pl_sub p1]
  have hv0 : pl_mt A (ml_I M 47) 0 0 = nI (pl_po A 0) := by unfold pl_mt; rw [if_pos (by omega)]
  obtain ⟨Z0, hZ0⟩ : ∃ Z0, Z0 = pl_wI M 47 (pl_mt A (ml_I M 47) 0) := ⟨_, rfl⟩
  have hM0 : pl_M A Z0 := by rw [hZ0]; exact ((pl_kp.refl M).wI (by decide)).M hM
  have hS0 : pl_Sh Z0 := by rw [hZ0]; exact hS.wI _ _
  have hI47 : ml_I Z0 47 = pl_mt A (ml_I M 47) 0 := by rw [hZ0, pl_I_wI, if_pos rfl]
  have hmo0 : pl_mo M Z0 := by rw [hZ0]; exact (pl_mo.refl M).wI (by decide)
  have hpo := pl_po_lt (A := A) (by omega) 0
  have hc0 : (0 : Int32).toNatClampNeg = 0 := rfl
  have hin0 : ∀ {Z : ml_M}, pl_Sh Z → ml_in Z 47 20 0 := fun hZ => by
    rw [← nI_0, pl_in (by decide), pl_k47 hZ]; exact ⟨rfl, by decide⟩
  rw [← hZ0] at hb
  refine ⟨fun h0 => ⟨Z0, ?_, hmo0, hM0⟩, fun h0 => ?_⟩
  · rw [hb]
    unfold fX11_piling_98
    rw [pl_k33 hS0, if_pos rfl, pl_let, pl_r33_26 hS0, if_pos (hin0 hS0), hI47, hc0, hv0, h0, nI_0, if_pos rfl]
  · obtain ⟨Z, hZ⟩ : ∃ Z, Z = pl_cM Z0 r (nI (pl_N A 0 1 0)) := ⟨_, rfl⟩
    have hmoZ : pl_mo M Z := by rw [hZ]; exact hmo0.trans (pl_cM_mo _ _ _)
    have hSZ : pl_Sh Z := hmoZ.sh hS
    have h98 : fX11_piling_98 33 (nI r) Z0 = fX11_piling_124 ml_fu 33 (nI r) 0 0 Z := by
      unfold fX11_piling_98
      rw [pl_k33 hS0, if_pos rfl, pl_let, pl_r33_26 hS0, if_pos (hin0 hS0), hI47, hc0, hv0, if_neg (by rw [pl_eq0 (by omega)]; exact h0), hM0.1.2.1, pl_clear hS0 r hr6, pl_b1, hZ]
    have hall := pl_go h0
    have hMk : ∀ k, k ≤ pl_N A 0 1 0 → pl_M (pl_rA A r (pl_N A 0 1 0 + 1) (pl_gk A k)) (pl_wI Z 36 (pl_rk A (ml_I Z 36) r k)) := fun k hk => by
      refine pl_rM hM0 hW (fun q hq => ?_) (fun q hq hqr j hj => ?_) (fun j hj => ?_) ⟨fun a ha => ?_, fun x hx => ?_, ?_⟩
      · rw [pl_I_wI, if_neg (by decide), hZ]
        unfold pl_cM
        rw [pl_I_wI, if_neg (by decide), pl_I_sI, pl_sz1]
        by_cases hqr : q = r
        · rw [if_pos ⟨rfl, hqr⟩, if_pos hqr]
        · rw [if_neg (fun z => hqr z.2), if_neg hqr]
      · rw [pl_I_wI, if_pos rfl, pl_rk, if_neg (by omega), hZ]
        unfold pl_cM
        rw [pl_I_wI, if_pos rfl, pl_z, if_neg (by omega)]
      · rw [pl_I_wI, if_pos rfl]
        unfold pl_rk pl_gk
        by_cases hjk : j < k
        · rw [if_pos (show 48 * r ≤ 48 * r + j ∧ 48 * r + j < 48 * r + k by omega), if_pos hjk, Nat.add_sub_cancel_left]
        · rw [if_neg (show ¬ (48 * r ≤ 48 * r + j ∧ 48 * r + j < 48 * r + k) by omega), if_neg hjk, hZ]
          unfold pl_cM
          rw [pl_I_wI, if_pos rfl, pl_z, if_pos (by omega)]
      · have h3 : a ≠ 35 ∧ a ≠ 36 := by revert ha; revert a; decide
        rw [pl_I_wI, if_neg h3.2, hZ]
        unfold pl_cM
        rw [pl_I_wI, if_neg h3.2]
        funext j
        rw [pl_I_sI, if_neg (fun z => h3.1 z.1)]
      · rw [pl_I_wI, if_neg (by decide), hZ]
        unfold pl_cM
        rw [pl_I_wI, if_neg (by decide), pl_I_sI, if_neg (by omega)]
      · rw [pl_J_wI, hZ]
        unfold pl_cM
        rw [pl_J_wI, pl_J_sI]
    have hWB : ∀ k, pl_W (pl_rA A r (pl_N A 0 1 0 + 1) (pl_gk A k)) := fun k => pl_rW hW (by omega)
    have hBnt : ∀ k, pl_N (pl_rA A r (pl_N A 0 1 0 + 1) (pl_gk A k)) 0 1 0 = pl_N A 0 1 0 := fun k => by unfold pl_rA; simp [pl_N_sN, pl_N_sV, pl_N_sVr, pl_N_sL, pl_V_sN, pl_V_sV, pl_V_sVr, pl_V_sL, pl_L_sN, pl_L_sV, pl_L_sVr, pl_L_sL]
    have hSg : ∀ g, pl_Sh (pl_wI Z 36 g) := fun g => hSZ.wI _ _
    have h47 : ∀ g, ml_I (pl_wI Z 36 g) 47 = pl_mt A (ml_I M 47) 0 := fun g => by
      rw [pl_I_wI, if_neg (by decide), hZ]
      unfold pl_cM
      rw [pl_I_wI, if_neg (by decide)]
      funext j
      rw [pl_I_sI, if_neg (by omega), hI47]
    refine ⟨pl_wI Z 36 (pl_rk A (ml_I Z 36) r (pl_N A 0 1 0)), ?_, hmoZ.wI (by decide), hMk _ (Nat.le_refl _)⟩
    rw [hb, h98]
    have hh := pl_for (F := fun fu k (_ : Unit) => fX11_piling_124 fu 33 (nI r) (nI (pl_gS A k)) (nI k) (pl_wI Z 36 (pl_rk A (ml_I Z 36) r k))) (R := some (nI (pl_po A 0), pl_wI Z 36 (pl_rk A (ml_I Z 36) r (pl_N A 0 1 0)))) (pl_N A 0 1 0) (fun _ => ()) (fun fu k hk => ?_) (fun fu => ?_) ml_fu (by rw [pl_fu]; omega)
    · have e0 : pl_rk A (ml_I Z 36) r 0 = ml_I Z 36 := by funext x; unfold pl_rk; rw [if_neg (by omega)]
      rw [e0, pl_wI_0] at hh
      exact hh
    · obtain ⟨g1, g2⟩ := pl_gS_ok (A := A) k (by omega) fun j hj => hall j (by omega)
      have hft := hall k hk
      have hS' := hSg (pl_rk A (ml_I Z 36) r k)
      have k33 := pl_k33 hS'
      have k36 := pl_k36 hS'
      have k47 := pl_k47 hS'
      have r26 := pl_r33_26 hS'
      have r5 := pl_r33_5 hS'
      have h10 : ml_I (pl_wI Z 36 (pl_rk A (ml_I Z 36) r k)) 33 10 = nI (pl_N A 0 1 0) := by
        rw [(hMk k (by omega)).1.2.1, hBnt]
      have hcc : ∀ t, t < pl_N A 0 1 0 → fX11_canCome 33 (nI t) (nI (pl_gS A k)) (pl_wI Z 36 (pl_rk A (ml_I Z 36) r k)) = some (if pl_cf A (pl_gS A k) t then 1 else 0) := fun t ht => by
        have := pl_canCome hS' (hWB k) (hMk k (by omega)) (S := pl_gS A k) (t := t) (by rw [hBnt]; exact ht) (by rw [hBnt]; exact g1)
        rw [pl_cf_rA] at this
        exact this
      have e1 : (1 : Int32) = nI 1 := rfl
      have e31 : (31 : Int32) = nI 31 := rfl
      have ein : fX11_piling_136 (fX11_piling_124 fu) ml_fu 33 (nI r) (nI (pl_gS A k)) (nI k) 0 (pl_wI Z 36 (pl_rk A (ml_I Z 36) r k)) = fX11_piling_124 fu 33 (nI r) (nI (pl_gS A (k + 1))) (nI (k + 1)) (pl_wI Z 36 (pl_rk A (ml_I Z 36) r (k + 1))) := by
        refine pl_for (F := fun f2 t (_ : Unit) => fX11_piling_136 (fX11_piling_124 fu) f2 33 (nI r) (nI (pl_gS A k)) (nI k) (nI t) (pl_wI Z 36 (pl_rk A (ml_I Z 36) r k))) (R := fX11_piling_124 fu 33 (nI r) (nI (pl_gS A (k + 1))) (nI (k + 1)) (pl_wI Z 36 (pl_rk A (ml_I Z 36) r (k + 1)))) (pl_ft A (pl_gS A k)) (fun _ => ()) (fun f2 t ht => ?_) (fun f2 => ?_) ml_fu (by rw [pl_fu]; omega)
        · have hcf : pl_cf A (pl_gS A k) t = false := (pl_lst_p (pl_cf A (pl_gS A k)) (pl_N A 0 1 0)).2 t ht
          simp (disch := omega) only [fX11_piling_136, fX11_piling_160, ↓pl_let, pl_b1, pl_b2, ↓reduceIte, k33, if_true, hcc t (by omega), hcf, Bool.false_eq_true, if_false, e1, nI_add]
        · have hcf := pl_ft_ok hft
          have hlt := pl_ins_lt g1 hft
          have hpn := pl_po_all h0 hlt
          have hpl := pl_po_lt (A := A) (by omega) (pl_gS A k ||| 2 ^ pl_ft A (pl_gS A k))
          have hv : pl_mt A (ml_I M 47) 0 (pl_gS A k ||| 2 ^ pl_ft A (pl_gS A k)) = nI (pl_po A (pl_gS A k ||| 2 ^ pl_ft A (pl_gS A k))) := by unfold pl_mt; rw [if_pos (by omega)]
          have hrk := pl_rk1 A (ml_I Z 36) r k
          rw [pl_gS1, ← hrk]
          simp (disch := omega) only [fX11_piling_136, fX11_piling_166, ↓pl_let, pl_b1, pl_b2, ↓reduceIte, k33, k36, k47, r5, r26, if_true, hcc _ hft, hcf, e1, e31, pl_eq0, Nat.reduceEqDiff, if_false, pl_and, pl_shl2, pl_or, pl_in, nI_clamp, show pl_gS A k ||| 2 ^ pl_ft A (pl_gS A k) < 256 by omega, and_self, h47, hv, hpn, pl_l48, pk_mul, nI_add, show 48 * r + k < 288 by omega, pl_wI_sI]
      simp (disch := omega) only [fX11_piling_124, ↓pl_let, pl_b1, pl_b2, ↓reduceIte, k33, if_true, h10, nI_leI, show ¬ pl_N A 0 1 0 ≤ k by omega, if_false]
      exact ein
    · have hS' := hSg (pl_rk A (ml_I Z 36) r (pl_N A 0 1 0))
      have h10 : ml_I (pl_wI Z 36 (pl_rk A (ml_I Z 36) r (pl_N A 0 1 0))) 33 10 = nI (pl_N A 0 1 0) := by
        rw [(hMk _ (Nat.le_refl _)).1.2.1, hBnt]
      simp (disch := omega) only [fX11_piling_124, fX11_piling_193, ↓pl_let, pl_b1, pl_b2, ↓reduceIte, pl_k33 hS', pl_r33_26 hS', if_true, h10, nI_leI, Nat.le_refl]
      rw [if_pos (hin0 hS'), h47, hc0, hv0]
theorem pl_op_piling (r : Int32) : pl_Ok (fX10_piling 1 r) (fX11_piling 33 r) := by
  intro A m h
  have hS := h.1
  have hW := h.2.1
  rcases pl_rng0 (x := r) 5 (by decide) with hr | ⟨r, hr, rfl⟩
  · refine pl_Ok.same h (-1) ?_ ?_ <;> simp [fX10_piling, fX11_piling, ↓pl_let, pl_b1, pl_b2, ↓reduceIte, pl_isRow, pl_isRowM, hr]
  · obtain ⟨c0, c1⟩ := pl_pileC h (r := r) (by omega)
    by_cases h0 : pl_po A 0 = 0
    · obtain ⟨m1, e1, e2, e3, hd⟩ := c0 h0
      exact pl_Ok.mk hd e1 e2 e3 hW fun M hSM hM => (pl_pileM hSM hW hM (by omega)).1 h0
    · obtain ⟨m1, e1, e2, e3, hd⟩ := c1 h0
      have hw := hW.1.2.1
      exact pl_Ok.mk hd e1 e2 e3 (pl_rW hW (by omega)) fun M hSM hM => (pl_pileM hSM hW hM (by omega)).2 h0

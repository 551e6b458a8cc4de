/-! TICKETS: the pairs travellers, journey. -/
theorem pl_pown20 {n : Nat} (h : n ≤ 20) : 1 ≤ 2 ^ n ∧ 2 ^ n ≤ 1048576 := ⟨Nat.one_le_two_pow, Nat.le_trans (Nat.pow_le_pow_right (by decide) h) (by decide)⟩
theorem pl_laidM {A : pl_A} {M : ml_M} (hS : pl_Sh M) (hW : pl_W A) (hM : pl_M A M) {S : Nat} (h10 : pl_tn A S ≤ 10) {N : Nat} (hN : N = 2 ^ pl_tn A S) : ∃ Z, fX11_layJourneys 33 (pl_lyM A M S (pl_N A 0 3 0)) = some Z ∧ pl_Sh Z ∧ pl_mo M Z ∧ pl_kp M Z ∧ ml_I Z 33 41 = nI (pl_tn A S) ∧ ∀ s, s < N → ml_I Z 58 s = if pl_io (pl_tn A S) (pl_ta A S) (pl_tb2 A S) (pl_tx A S) s (pl_tn A S) = true then 1 else 0 := by
  have ht := pl_tkM_ok hW hM h10
  have hS1 : pl_Sh (pl_lyM A M S (pl_N A 0 3 0)) := (hS.wI 33 _).wI 56 _
  refine ⟨_, pl_journeysM hS1 ht hN, (hS1.wI 57 _).wI 58 _, ((pl_lyM_mo A M S (pl_N A 0 3 0)).wI (by decide)).wI (by decide), ((pl_lyM_kp A M S (pl_N A 0 3 0)).wI (by decide)).wI (by decide), ?_, fun s hs => ?_⟩
  · unfold pl_jy
    rw [pl_I_wI, if_neg (by decide), pl_I_wI, if_neg (by decide)]; exact ht.1
  · unfold pl_jy
    rw [pl_I_wI, if_pos rfl, pl_tw_i (by omega)]; rfl
theorem pl_op_travellers : pl_Ok (fX10_travellers 1) (fX11_travellers 33) := by
  intro A m h
  obtain ⟨hS, hW, hM, hC⟩ := h
  have h : pl_Rel A m := ⟨hS, hW, hM, hC⟩
  have hw := hW.1
  unfold pl_Wc at hw
  obtain ⟨n3, hn3⟩ : ∃ n3, n3 = pl_N A 0 3 0 := ⟨_, rfl⟩
  obtain ⟨q1, q2⟩ := pl_pown20 (show n3 ≤ 20 by omega)
  obtain ⟨S, hSd⟩ : ∃ S, S = 2 ^ n3 - 1 := ⟨_, rfl⟩
  obtain ⟨m1, g1, g2, g3, g4, g5⟩ := pl_gathered h (S := S) (by omega)
  have hset : (1 : Int32) <<< (nI n3 &&& 31) - 1 = nI S := by
    rw [pl_shl1 (by omega), hSd]; exact pl_sub q1
  have h5 : ml_I m 1 5 = nI n3 := by rw [hn3]; exact hC.1.2.1
  have e10 : (10 : Int32) = nI 10 := rfl
  have htn : pl_tn A S ≤ 20 := by
    have := pl_cnt_le (pl_tq A S) (pl_N A 0 3 0)
    unfold pl_tn; omega
  rw [← hn3] at g1
  have hq : ∀ i, i < pl_N A 0 3 0 → ∀ Z, fX11_has (-1) (nI i) Z = some (if S.testBit i then 1 else 0) := fun i hi Z => by
    have h0 : ∀ i : Fin 20, ((-1 : Int32) >>> (nI i.val &&& 31)) &&& 1 = 1 := by decide +kernel
    have h1 := h0 ⟨i, by omega⟩
    rw [hSd, pl_full_tb, decide_eq_true (by omega)]
    unfold fX11_has
    rw [if_pos h1]; rfl
  by_cases h10 : pl_tn A S ≤ 10
  · obtain ⟨m2, f1, f2, f3, f4⟩ := pl_fewPC g2 (g5 h10) rfl
    have hC1 : fX10_travellers 1 m = some (nI (pl_pp (pl_tl (pl_tn A S) (pl_ta A S) (pl_tb2 A S) (pl_on (pl_tx A S)) (2 ^ pl_tn A S)) (2 ^ pl_tn A S) (2 ^ pl_tn A S - 1)), m2) := by
      have hS1 := g2.1
      simp (disch := omega) only [fX10_travellers, ↓pl_let, pl_b1, pl_b2, ↓reduceIte, pl_k1 hS, pl_r1_14 hS, pl_r1_4 hS, pl_k26 hS, if_true, h5, hset, g1, e10, nI_leI, h10, pl_k1 hS1, pl_r1_14 hS1, pl_k26 hS1, f1]
    refine pl_Ok.mk f2 hC1 (by omega) (by omega) hW fun M hSM hMM => ?_
    obtain ⟨Z, z1, z2, z3, z4, z5, z6⟩ := pl_laidM hSM hW hMM h10 rfl
    have hfm := pl_fewM z2 h10 rfl z5 (L := pl_tl (pl_tn A S) (pl_ta A S) (pl_tb2 A S) (pl_on (pl_tx A S)) (2 ^ pl_tn A S)) (fun s hs1 hs2 => by
      rw [z6 s hs2, pl_io_L (by omega), pl_tl_st _ _ _ _ (show s < s + 1 by omega) (show s + 1 ≤ 2 ^ pl_tn A S by omega)]
      simp only [decide_eq_true_eq])
    obtain ⟨g, hg⟩ := hfm
    refine ⟨pl_wI Z 59 g, ?_, z3.wI (by decide), (z4.wI (by decide)).M hMM⟩
    have hl := pl_layM hSM hW hMM hq
    have hS1 : pl_Sh (pl_lyM A M S (pl_N A 0 3 0)) := (hSM.wI 33 _).wI 56 _
    simp (disch := omega) only [fX11_travellers, ↓pl_let, pl_b1, pl_b2, ↓reduceIte, pl_k33 hSM, if_true, hl, e10, nI_leI, h10, pl_k33 hS1, z1, hg]
  · have hC1 : fX10_travellers 1 m = some (-6, m1) := by
      simp (disch := omega) only [fX10_travellers, ↓pl_let, pl_b1, pl_b2, ↓reduceIte, pl_k1 hS, pl_r1_14 hS, pl_r1_4 hS, pl_k26 hS, if_true, h5, hset, g1, e10, nI_leI, h10, if_false]
    refine pl_Ok.mk g2 hC1 (by omega) (by omega) hW fun M hSM hMM => ?_
    refine ⟨_, ?_, pl_lyM_mo A M S (pl_N A 0 3 0), (pl_lyM_kp A M S (pl_N A 0 3 0)).M hMM⟩
    have hl := pl_layM hSM hW hMM hq
    simp (disch := omega) only [fX11_travellers, ↓pl_let, pl_b1, pl_b2, ↓reduceIte, pl_k33 hSM, if_true, hl, e10, nI_leI, h10, if_false]
theorem pl_op_journey (x0 : Int32) : pl_Ok (fX10_journey 1 x0) (fX11_journey 33 x0) := by
  intro A m h
  obtain ⟨hS, hW, hM, hC⟩ := h
  have h : pl_Rel A m := ⟨hS, hW, hM, hC⟩
  have hw := hW.1
  unfold pl_Wc at hw
  obtain ⟨n3, hn3⟩ : ∃ n3, n3 = pl_N A 0 3 0 := ⟨_, rfl⟩
  obtain ⟨q1, q2⟩ := pl_pown20 (show n3 ≤ 20 by omega)
  have hset : (1 : Int32) <<< (nI n3 &&& 31) - 1 = nI (2 ^ n3 - 1) := by
    rw [pl_shl1 (by omega)]; exact pl_sub q1
  have h5 : ml_I m 1 5 = nI n3 := by rw [hn3]; exact hC.1.2.1
  have h24 : ∀ M, pl_M A M → ml_I M 33 24 = nI n3 := fun M hMM => by rw [hn3]; exact hMM.1.2.2.2.1
  have e10 : (10 : Int32) = nI 10 := rfl
  rcases pl_rng0 (x := x0) (2 ^ n3 - 1) (by omega) with hno | ⟨S, hS1, rfl⟩
  · refine pl_Ok.same h (-1) ?_ ?_
    · simp only [fX10_journey, ↓pl_let, pl_b1, pl_b2, ↓reduceIte, pl_k1 hS, if_true, h5, hset, pl_within, hno, if_false]
    · simp only [fX11_journey, ↓pl_let, pl_b1, pl_b2, ↓reduceIte, pl_k33 hS, if_true, h24 m hM, hset, pl_inM, hno, if_false]
  · have hyes : 0 ≤ nI S ∧ nI S ≤ nI (2 ^ n3 - 1) := ⟨nI_pos' (by omega), nI_le hS1 (by omega)⟩
    obtain ⟨m1, g1, g2, g3, g4, g5⟩ := pl_gathered h (S := S) (by omega)
    have htn : pl_tn A S ≤ 20 := by
      have := pl_cnt_le (pl_tq A S) (pl_N A 0 3 0)
      unfold pl_tn; omega
    rw [← hn3] at g1
    have hq : ∀ i, i < pl_N A 0 3 0 → ∀ Z, fX11_has (nI S) (nI i) Z = some (if S.testBit i then 1 else 0) := fun i hi Z => (pl_has (by omega) (by omega) Z).2
    by_cases h10 : pl_tn A S ≤ 10
    · obtain ⟨m2, f1, f2, f3, f4⟩ := pl_isOneC g2 (g5 h10) rfl
      obtain ⟨N, hN⟩ : ∃ N, N = 2 ^ pl_tn A S := ⟨_, rfl⟩
      have p1 : 1 ≤ N := by rw [hN]; exact Nat.one_le_two_pow
      have p2 : 2 ^ pl_tn A S ≤ 1024 := Nat.le_trans (Nat.pow_le_pow_right (by decide) h10) (by decide)
      rw [← hN] at f1
      have hio : (pl_tn A S = 0 ∨ pl_tl (pl_tn A S) (pl_ta A S) (pl_tb2 A S) (pl_on (pl_tx A S)) N (N - 1) ≠ 0) = (pl_io (pl_tn A S) (pl_ta A S) (pl_tb2 A S) (pl_tx A S) (N - 1) (pl_tn A S) = true) := by
        by_cases h0 : pl_tn A S = 0
        · have hN1 : N - 1 = 0 := by rw [hN, h0]
          rw [eq_true (show pl_tn A S = 0 ∨ _ from Or.inl h0), hN1]
          unfold pl_io
          rw [decide_eq_true rfl, Bool.true_or]
          simp
        · have hN2 : 0 < N - 1 := by
            have : 2 ^ 1 ≤ 2 ^ pl_tn A S := Nat.pow_le_pow_right (by decide) (by omega)
            omega
          rw [pl_io_L hN2, show N - 1 + 1 = N by omega, decide_eq_true_eq]
          apply propext
          exact ⟨fun z => z.elim (fun w => absurd w h0) id, Or.inr⟩
      obtain ⟨v, hv⟩ : ∃ v : Int32, v = if pl_io (pl_tn A S) (pl_ta A S) (pl_tb2 A S) (pl_tx A S) (N - 1) (pl_tn A S) = true then 1 else 0 := ⟨_, rfl⟩
      have f1' : fX3_isOne 26 m1 = some (v, m2) := by rw [f1, hv]; simp only [hio]
      have hv01 : v = 0 ∨ v = 1 := by rw [hv]; split <;> simp
      have hC1 : fX10_journey 1 (nI S) m = some (v, m2) := by
        have hS1 := g2.1
        rcases hv01 with hv0 | hv0 <;>
        · rw [hv0] at f1' ⊢
          simp (disch := omega) only [fX10_journey, ↓pl_let, pl_b1, pl_b2, ↓reduceIte, pl_k1 hS, pl_r1_14 hS, pl_r1_4 hS, pl_k26 hS, if_true, h5, hset, pl_within, hyes, and_self, pl_10, if_false, g1, e10, nI_leI, h10, pl_k1 hS1, pl_r1_14 hS1, pl_k26 hS1, f1']
      refine pl_Ok.mk f2 hC1 (by omega) (by omega) hW fun M hSM hMM => ?_
      obtain ⟨Z, z1, z2, z3, z4, z5, z6⟩ := pl_laidM hSM hW hMM h10 hN
      refine ⟨Z, ?_, z3, z4.M hMM⟩
      have hl := pl_layM hSM hW hMM hq
      have hS1 : pl_Sh (pl_lyM A M S (pl_N A 0 3 0)) := (hSM.wI 33 _).wI 56 _
      have h58 := z6 (N - 1) (by omega)
      rw [← hv] at h58
      have hfull : (1 : Int32) <<< (nI (pl_tn A S) &&& 31) - 1 = nI (N - 1) := by
        rw [pl_shl1 (by omega), ← hN]; exact pl_sub p1
      rcases hv01 with hv0 | hv0 <;>
      · rw [hv0] at h58 ⊢
        simp (disch := omega) only [fX11_journey, ↓pl_let, pl_b1, pl_b2, ↓reduceIte, pl_k33 hSM, if_true, h24 M hMM, hset, pl_inM, hyes, and_self, pl_10, if_false, hl, e10, nI_leI, h10, pl_k33 hS1, z1, pl_k33 z2, pl_r33_44 z2, z5, hfull, pl_in, nI_clamp, pl_k58 z2, show N - 1 < 1024 by omega, h58]
    · have hC1 : fX10_journey 1 (nI S) m = some (-6, m1) := by
        simp (disch := omega) only [fX10_journey, ↓pl_let, pl_b1, pl_b2, ↓reduceIte, pl_k1 hS, pl_r1_14 hS, pl_r1_4 hS, pl_k26 hS, if_true, h5, hset, pl_within, hyes, and_self, pl_10, if_false, g1, e10, nI_leI, h10]
      refine pl_Ok.mk g2 hC1 (by omega) (by omega) hW fun M hSM hMM => ?_
      refine ⟨_, ?_, pl_lyM_mo A M S (pl_N A 0 3 0), (pl_lyM_kp A M S (pl_N A 0 3 0)).M hMM⟩
      have hl := pl_layM hSM hW hMM hq
      simp (disch := omega) only [fX11_journey, ↓pl_let, pl_b1, pl_b2, ↓reduceIte, pl_k33 hSM, if_true, h24 M hMM, hset, pl_inM, hyes, and_self, pl_10, if_false, hl, e10, nI_leI, h10]

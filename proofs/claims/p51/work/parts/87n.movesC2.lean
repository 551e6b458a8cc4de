/-! MOVES: the class's pairs. -/
def pl_mw (A : pl_A) (w : List Nat) (i : Nat) : Bool := decide (pl_N A 4 i 3 ≠ 100) && !pl_may A (w.getD (pl_N A 4 i 3) 0) i
def pl_mvt (A : pl_A) (w : List Nat) (i : Nat) : Nat := pl_lst (fun t => pl_may A (w.getD t 0) i) (pl_N A 0 1 0)
def pl_mvf (A : pl_A) (w : List Nat) (off : Nat) (g : Nat → Int32) : Nat → Nat → Int32
  | 0 => g
  | i + 1 => if pl_mw A w i = true then pl_up (pl_up (pl_mvf A w off g i) (off + 2 * pl_cnt (pl_mw A w) i) (nI i)) (off + 2 * pl_cnt (pl_mw A w) i + 1) (nI (pl_mvt A w i)) else pl_mvf A w off g i
theorem pl_mvf1 (A : pl_A) (w : List Nat) (off : Nat) (g : Nat → Int32) (i : Nat) : pl_mvf A w off g (i + 1) = if pl_mw A w i = true then pl_up (pl_up (pl_mvf A w off g i) (off + 2 * pl_cnt (pl_mw A w) i) (nI i)) (off + 2 * pl_cnt (pl_mw A w) i + 1) (nI (pl_mvt A w i)) else pl_mvf A w off g i := rfl
theorem pl_mvf_in (A : pl_A) (w : List Nat) (off : Nat) (g g' : Nat → Int32) : ∀ i j, j < 2 * pl_cnt (pl_mw A w) i → pl_mvf A w off g i (off + j) = pl_mvf A w 0 g' i j := by
  intro i
  induction i with
  | zero => intro j hj; exact absurd hj (Nat.not_lt_zero j)
  | succ i ih =>
    intro j hj
    rw [pl_cnt1] at hj
    rw [pl_mvf1, pl_mvf1]
    by_cases hm : pl_mw A w i = true
    · rw [if_pos hm] at hj ⊢
      rw [if_pos hm, Nat.zero_add]
      by_cases h1 : j = 2 * pl_cnt (pl_mw A w) i + 1
      · rw [h1, show off + (2 * pl_cnt (pl_mw A w) i + 1) = off + 2 * pl_cnt (pl_mw A w) i + 1 by omega, pl_up_k, pl_up_k]
      · rw [pl_up_n _ _ (show ¬ off + j = off + 2 * pl_cnt (pl_mw A w) i + 1 by omega), pl_up_n _ _ h1]
        by_cases h2 : j = 2 * pl_cnt (pl_mw A w) i
        · rw [h2, pl_up_k, pl_up_k]
        · rw [pl_up_n _ _ (show ¬ off + j = off + 2 * pl_cnt (pl_mw A w) i by omega), pl_up_n _ _ h2]
          exact ih j (by omega)
    · rw [if_neg hm] at hj ⊢
      rw [if_neg hm]
      exact ih j hj
theorem pl_mvf_out (A : pl_A) (w : List Nat) (off : Nat) (g : Nat → Int32) {y : Nat} : ∀ i, (y < off ∨ off + 2 * pl_cnt (pl_mw A w) i ≤ y) → pl_mvf A w off g i y = g y := by
  intro i
  induction i with
  | zero => intro _; rfl
  | succ i ih =>
    intro hy
    rw [pl_cnt1] at hy
    rw [pl_mvf1]
    by_cases hm : pl_mw A w i = true
    · rw [if_pos hm] at hy ⊢
      rw [pl_up_n _ _ (by omega), pl_up_n _ _ (by omega)]
      exact ih (by omega)
    · rw [if_neg hm] at hy ⊢
      exact ih hy
theorem pl_mvt_lt {A : pl_A} {w : List Nat} (hlen : w.length = pl_N A 0 1 0) (hg : pl_good A w = true) {i : Nat} (hi : i < pl_N A 0 3 0) : pl_mvt A w i < pl_N A 0 1 0 := by
  have hcov : pl_cov A (pl_us w) = true := by
    unfold pl_good at hg
    rw [Bool.and_eq_true] at hg
    exact hg.2
  unfold pl_cov at hcov
  rw [pl_all_iff] at hcov
  have h1 := of_decide_eq_true (hcov i hi)
  have hany : pl_any (fun t => pl_may A (w.getD t 0) i) (pl_N A 0 1 0) = true := by
    cases hc : pl_any (fun t => pl_may A (w.getD t 0) i) (pl_N A 0 1 0) with
    | true => rfl
    | false =>
      exfalso
      apply h1
      apply Nat.eq_of_testBit_eq
      intro l
      rw [Nat.testBit_and, pl_us_tb, Nat.zero_testBit]
      by_cases hm : l ∈ w
      · rw [decide_eq_true hm, Bool.and_true]
        unfold pl_own
        rw [pl_set_tb]
        obtain ⟨t, ht, he⟩ := List.getElem_of_mem hm
        cases hmy : pl_may A l i with
        | false => rw [Bool.and_false]
        | true =>
          exfalso
          have : pl_any (fun t => pl_may A (w.getD t 0) i) (pl_N A 0 1 0) = true := by
            rw [pl_any_iff]
            exact ⟨t, by omega, by show pl_may A (w.getD t 0) i = true; rw [pl_getD_e ht, he]; exact hmy⟩
          rw [hc] at this
          exact absurd this (by decide)
      · rw [decide_eq_false hm, Bool.and_false]
  rw [pl_lst_any] at hany
  exact of_decide_eq_true hany
theorem pl_mw_cnt (A : pl_A) (w : List Nat) : pl_cnt (pl_mw A w) (pl_N A 0 3 0) = pl_moved A w := rfl
theorem pl_alR {A : pl_A} {m : ml_M} (h : pl_Rel A m) (L : Nat) (g : Nat → Int32) : pl_Rel A (pl_wI (ml_al m 20 L L) (ml_n m + 1) g) := by
  have hn := h.1.2.2
  refine h.md.gb (((pl_ex.refl [] m).al).wI (Or.inr (by omega))) (((pl_co.refl m).al hn).wI (by omega)) ?_
  funext j
  rw [pl_J_wI, pl_J_al, if_neg (by omega)]
theorem pl_fstC {A : pl_A} {m : ml_M} (hW : pl_W A) {a q : Nat} (hK : ml_K m a = (20, pl_N A 0 1 0)) {w : List Nat} (hw : pl_isS A (ml_I m a) w) {i : Nat} (hi : i < pl_N A 0 3 0) (hq1 : ml_K m q = (8, 0)) (hq5 : ml_I m q 5 = nI (pl_own A i)) : fX10_firstTrunkFor 1 q a m = some (nI (pl_mvt A w i)) := by
  have hww := hW.1
  unfold pl_Wc at hww
  have hlt := pl_mvt_lt hw.1 hw.2.2 hi
  have how := pl_own_lt hW i
  have hK1 : (ml_K m a).1 = 20 := by rw [hK]
  have hK2 : Int32.ofNat (ml_K m a).2 = nI (pl_N A 0 1 0) := by rw [hK, pl_ofN]
  have hq0 : (ml_K m q).1 = 8 := by rw [hq1]
  have hbit : ∀ t, t < pl_N A 0 1 0 → ∀ (M : ml_M) (f : Int32 → Option Int32), ml_b1 (fX10_has (nI (pl_own A i)) (nI (w.getD t 0)) M) f = f (if pl_may A (w.getD t 0) i = true then 1 else 0) := fun t ht M f => by
    have g := pl_get_lt hw.2.1.2.1 (t := t) (by rw [hw.1]; exact ht)
    have hb : (pl_own A i).testBit (w.getD t 0) = pl_may A (w.getD t 0) i := by
      unfold pl_own
      rw [pl_set_tb, decide_eq_true g, Bool.true_and]
    rw [(pl_has (s := pl_own A i) (t := w.getD t 0) (by omega) (by omega) M).1, hb]; rfl
  have hsr := pl_srch (F := fun fu t => fX10_firstTrunkFor_2 fu q a (nI t) m) (R0 := some (-9)) (R1 := fun t => some (nI t)) (pl_N A 0 1 0) (fun t => pl_may A (w.getD t 0) i) (fun fu t ht hp => ?_) (fun fu t ht hp => ?_) (fun fu => ?_) ml_fu (by rw [pl_fu]; omega)
  · have hlt' : pl_lst (fun t => pl_may A (w.getD t 0) i) (pl_N A 0 1 0) < pl_N A 0 1 0 := hlt
    rw [if_pos hlt'] at hsr
    exact hsr
  · show fX10_firstTrunkFor_2 (fu + 1) q a (nI t) m = fX10_firstTrunkFor_2 fu q a (nI (t + 1)) m
    have hv := hw.2.1.2.2 t (by rw [hw.1]; exact ht)
    have hp : pl_may A (w.getD t 0) i = false := hp
    have hz := hbit t ht
    rw [hp, if_neg (by decide)] at hz
    simp (disch := omega) only [fX10_firstTrunkFor_2, hK1, if_true, hK2, pl_ofN, nI_leI, show ¬ pl_N A 0 1 0 ≤ t by omega, if_false, hq0, pl_in, nI_clamp, hK, ht, and_self, hq5, hv, ↓hz, ↓pl_let, pl_b1, pl_b2, ↓reduceIte, nI_1]
  · show fX10_firstTrunkFor_2 (fu + 1) q a (nI t) m = some (nI t)
    have hv := hw.2.1.2.2 t (by rw [hw.1]; exact ht)
    have hp : pl_may A (w.getD t 0) i = true := hp
    have hz := hbit t ht
    rw [hp, if_pos rfl] at hz
    simp (disch := omega) only [fX10_firstTrunkFor_2, hK1, if_true, hK2, pl_ofN, nI_leI, show ¬ pl_N A 0 1 0 ≤ t by omega, if_false, hq0, pl_in, nI_clamp, hK, ht, and_self, hq5, hv, ↓hz, ↓pl_let, pl_b1, pl_b2, ↓reduceIte, pl_10]
  · show fX10_firstTrunkFor_2 (fu + 1) q a (nI (pl_N A 0 1 0)) m = some (-9)
    simp (disch := omega) only [fX10_firstTrunkFor_2, hK1, if_true, hK2, pl_ofN, nI_leI, Nat.le_refl]
theorem pl_movesC {A : pl_A} {m : ml_M} (h : pl_Rel A m) {a : Nat} (ha : 60 < a ∧ a ≤ ml_n m) (hK : ml_K m a = (20, pl_N A 0 1 0)) {w : List Nat} (hw : pl_isS A (ml_I m a) w) (l2 : Int32) : fX10_moves_88 ml_fu 1 l2 a (ml_n m + 1) 0 0 (ml_al m 20 (2 * pl_N A 0 3 0) (2 * pl_N A 0 3 0)) = fX10_moves_169 1 l2 (ml_n m + 1) (nI (2 * pl_moved A w)) (pl_wI (ml_al m 20 (2 * pl_N A 0 3 0) (2 * pl_N A 0 3 0)) (ml_n m + 1) (pl_mvf A w 0 (fun _ => 0) (pl_N A 0 3 0))) := by
  have hS := h.1
  have hW := h.2.1
  have hww := hW.1
  unfold pl_Wc at hww
  have hn60 := hS.2.2
  obtain ⟨L, hL⟩ : ∃ L, L = 2 * pl_N A 0 3 0 := ⟨_, rfl⟩
  obtain ⟨b, hb⟩ : ∃ b, b = ml_n m + 1 := ⟨_, rfl⟩
  have hR : ∀ g, pl_Rel A (pl_wI (ml_al m 20 L L) b g) := fun g => by rw [hb]; exact pl_alR h L g
  have hab : a ≠ b := by omega
  have kx : ∀ g z, z ≤ ml_n m → ml_K (pl_wI (ml_al m 20 L L) b g) z = ml_K m z := fun g z hz => by rw [pl_K_wI, pl_K_alo hz]
  have rx : ∀ g z, z ≤ ml_n m → ml_R (pl_wI (ml_al m 20 L L) b g) z = ml_R m z := fun g z hz => by rw [pl_R_wI]; funext j; rw [pl_R_alo hz]
  have ix : ∀ g z, z ≤ ml_n m → ml_I (pl_wI (ml_al m 20 L L) b g) z = ml_I m z := fun g z hz => by
    rw [pl_I_wI, if_neg (by omega)]; funext j; rw [pl_I_alo hz]
  have kb : ∀ g, ml_K (pl_wI (ml_al m 20 L L) b g) b = (20, L) := fun g => by rw [pl_K_wI, hb, pl_K_aln]
  have hCb := h.2.2.2.1
  have z5 : ∀ g, ml_I (pl_wI (ml_al m 20 L L) b g) 1 5 = nI (pl_N A 0 3 0) := fun g => by rw [ix g 1 (by omega)]; exact hCb.2.1
  have hiw : ∀ g, pl_isS A (ml_I (pl_wI (ml_al m 20 L L) b g) a) w := fun g => by rw [ix g a ha.2]; exact hw
  have kA : ∀ g, ml_K (pl_wI (ml_al m 20 L L) b g) a = (20, pl_N A 0 1 0) := fun g => by rw [kx g a ha.2, hK]
  rw [← hL, ← hb]
  have hcle : ∀ i, pl_cnt (pl_mw A w) i ≤ i := fun i => pl_cnt_le _ i
  have hh := pl_for (F := fun fu i (_ : Unit) => fX10_moves_88 fu 1 l2 a b (nI (2 * pl_cnt (pl_mw A w) i)) (nI i) (pl_wI (ml_al m 20 L L) b (pl_mvf A w 0 (fun _ => 0) i))) (R := fX10_moves_169 1 l2 b (nI (2 * pl_moved A w)) (pl_wI (ml_al m 20 L L) b (pl_mvf A w 0 (fun _ => 0) (pl_N A 0 3 0)))) (pl_N A 0 3 0) (fun _ => ()) (fun fu i hi => ?_) (fun fu => ?_) ml_fu (by rw [pl_fu]; omega)
  · have e0 : pl_wI (ml_al m 20 L L) b (pl_mvf A w 0 (fun _ => 0) 0) = ml_al m 20 L L := by
      have : pl_mvf A w 0 (fun _ => 0) 0 = ml_I (ml_al m 20 L L) b := by
        funext j
        rw [hb, pl_I_aln]; rfl
      rw [this, pl_wI_0]
    rw [e0] at hh
    exact hh
  · show fX10_moves_88 (fu + 1) 1 l2 a b (nI (2 * pl_cnt (pl_mw A w) i)) (nI i) (pl_wI (ml_al m 20 L L) b (pl_mvf A w 0 (fun _ => 0) i)) = fX10_moves_88 fu 1 l2 a b (nI (2 * pl_cnt (pl_mw A w) (i + 1))) (nI (i + 1)) (pl_wI (ml_al m 20 L L) b (pl_mvf A w 0 (fun _ => 0) (i + 1)))
    obtain ⟨⟨q1, q2, q3⟩, -, -, -, -, -, q5, q6, -⟩ := h.2.2.2.2.2.2.2.1.1 i hi
    obtain ⟨q, hq⟩ : ∃ q, q = ml_R m 8 i := ⟨_, rfl⟩
    rw [← hq] at q1 q2 q3 q5 q6
    have hS' := fun g => (hR g).1
    have hr8 : ∀ g, ml_R (pl_wI (ml_al m 20 L L) b g) 8 i = q := fun g => by rw [rx g 8 (by omega), hq]
    have kq : ∀ g, ml_K (pl_wI (ml_al m 20 L L) b g) q = (8, 0) := fun g => by rw [kx g q q2, q3]
    have iq5 : ∀ g, ml_I (pl_wI (ml_al m 20 L L) b g) q 5 = nI (pl_own A i) := fun g => by rw [ix g q q2, q5]
    have iq6 : ∀ g, ml_I (pl_wI (ml_al m 20 L L) b g) q 6 = pl_tc (pl_N A 4 i 3) := fun g => by rw [ix g q q2, q6]
    obtain ⟨g, hg⟩ : ∃ g, g = pl_mvf A w 0 (fun _ => 0) i := ⟨_, rfl⟩
    have htk := pl_isTrk (hS' g) hW (hR g).2.2.2 (pl_tc (pl_N A 4 i 3))
    have hwi := (hW.2.2.2.2.1 i hi).2.2.2.1
    have hci := hcle i
    rw [pl_cnt1, pl_mvf1, ← hg]
    by_cases hf : pl_N A 4 i 3 = 100
    · have hm0 : ¬ pl_mw A w i = true := by unfold pl_mw; rw [hf]; simp
      have htc : pl_tc (pl_N A 4 i 3) = -9 := by unfold pl_tc; rw [if_pos hf]
      have hno : ¬ (0 ≤ (-9 : Int32) ∧ (-9 : Int32) < nI (pl_N A 0 1 0)) := fun z => absurd z.1 (by decide)
      rw [htc] at htk
      have iq6' : ∀ g, ml_I (pl_wI (ml_al m 20 L L) b g) q 6 = -9 := fun g => by rw [iq6, htc]
      rw [if_neg hm0, if_neg hm0]
      simp (disch := omega) only [fX10_moves_88, fX10_moves_163, ↓pl_let, pl_b1, pl_b2, ↓reduceIte, pl_k1 (hS' _), if_true, z5, nI_leI, show ¬ pl_N A 0 3 0 ≤ i by omega, if_false, pl_r1_4 (hS' _), pl_in, nI_clamp, pl_k8 (hS' _), show i < 20 by omega, and_self, hr8, kq, iq6', htk, hno, nI_1]
    · have htn : pl_N A 4 i 3 < pl_N A 0 1 0 := by omega
      have htc : pl_tc (pl_N A 4 i 3) = nI (pl_N A 4 i 3) := by unfold pl_tc; rw [if_neg hf]
      rw [htc] at htk
      have iq6' : ∀ g, ml_I (pl_wI (ml_al m 20 L L) b g) q 6 = nI (pl_N A 4 i 3) := fun g => by rw [iq6, htc]
      have hyes : 0 ≤ nI (pl_N A 4 i 3) ∧ nI (pl_N A 4 i 3) < nI (pl_N A 0 1 0) := ⟨nI_pos' (by omega), nI_lt htn (by omega)⟩
      have gl := pl_get_lt hw.2.1.2.1 (t := pl_N A 4 i 3) (by rw [hw.1]; exact htn)
      have hbit : ∀ (M : ml_M) (f : Int32 → Option (Int32 × ml_M)), ml_b1 (fX10_has (nI (pl_own A i)) (nI (w.getD (pl_N A 4 i 3) 0)) M) f = f (if pl_may A (w.getD (pl_N A 4 i 3) 0) i = true then 1 else 0) := fun M f => by
        have how := pl_own_lt hW i
        have hbb : (pl_own A i).testBit (w.getD (pl_N A 4 i 3) 0) = pl_may A (w.getD (pl_N A 4 i 3) 0) i := by
          unfold pl_own
          rw [pl_set_tb, decide_eq_true gl, Bool.true_and]
        rw [(pl_has (s := pl_own A i) (t := w.getD (pl_N A 4 i 3) 0) (by omega) (by omega) M).1, hbb]; rfl
      have hv : ∀ g, ml_I (pl_wI (ml_al m 20 L L) b g) a (pl_N A 4 i 3) = nI (w.getD (pl_N A 4 i 3) 0) := fun g => (hiw g).2.1.2.2 _ (by rw [hw.1]; exact htn)
      by_cases hmay : pl_may A (w.getD (pl_N A 4 i 3) 0) i = true
      · have hm0 : ¬ pl_mw A w i = true := by unfold pl_mw; rw [hmay]; simp
        rw [if_pos hmay] at hbit
        rw [if_neg hm0, if_neg hm0]
        simp (disch := omega) only [fX10_moves_88, fX10_moves_163, ↓pl_let, pl_b1, pl_b2, ↓reduceIte, pl_k1 (hS' _), if_true, z5, nI_leI, show ¬ pl_N A 0 3 0 ≤ i by omega, if_false, pl_r1_4 (hS' _), pl_in, nI_clamp, pl_k8 (hS' _), show i < 20 by omega, and_self, hr8, kq, iq6', htk, hyes, pl_10, kA, htn, iq5, hv, ↓hbit, nI_1]
      · have hm1 : pl_mw A w i = true := by
          unfold pl_mw
          rw [Bool.and_eq_true]
          exact ⟨decide_eq_true hf, by simpa using hmay⟩
        rw [if_neg hmay] at hbit
        rw [if_pos hm1, if_pos hm1]
        have hfst := fun g => pl_fstC hW (kA g) (hiw g) hi (kq g) (iq5 g)
        have hlt := pl_mvt_lt hw.1 hw.2.2 hi
        have e2c : nI (2 * pl_cnt (pl_mw A w) i) + (1 : Int32) = nI (2 * pl_cnt (pl_mw A w) i + 1) := nI_1 _
        have e2d : nI (2 * pl_cnt (pl_mw A w) i) + (2 : Int32) = nI (2 * (pl_cnt (pl_mw A w) i + 1)) := by
          have : (2 : Int32) = nI 2 := rfl
          rw [this, nI_add, show 2 * pl_cnt (pl_mw A w) i + 2 = 2 * (pl_cnt (pl_mw A w) i + 1) by omega]
        rw [Nat.zero_add]
        simp (disch := omega) only [fX10_moves_88, fX10_moves_163, ↓pl_let, pl_b1, pl_b2, ↓reduceIte, pl_k1 (hS' _), if_true, z5, nI_leI, show ¬ pl_N A 0 3 0 ≤ i by omega, if_false, pl_r1_4 (hS' _), pl_in, nI_clamp, pl_k8 (hS' _), show i < 20 by omega, and_self, hr8, kq, iq6', htk, hyes, pl_10, kA, htn, iq5, hv, ↓hbit, kb, show 2 * pl_cnt (pl_mw A w) i < L by omega, pl_wI_sI, pl_up_0, hfst, e2c, e2d, show 2 * pl_cnt (pl_mw A w) i + 1 < L by omega, nI_1]
  · simp (disch := omega) only [fX10_moves_88, ↓pl_let, pl_b1, pl_b2, ↓reduceIte, pl_k1 (hR _).1, if_true, z5, nI_leI, Nat.le_refl, pl_mw_cnt]

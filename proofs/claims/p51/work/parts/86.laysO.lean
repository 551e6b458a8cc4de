/-! LAYS: a row copied; the pairs sheets, laid. -/
theorem pl_copyOf {m : ml_M} {a L n : Nat} (hK : ml_K m a = (20, L)) (ha : a ≤ ml_n m) (hnL : n ≤ L) (hL : L ≤ 20000) (h60 : 60 ≤ ml_n m) : ∃ m1, fJ7_copyOf_59c91 a (nI n) m = some (ml_n m + 1, m1) ∧ ml_n m1 = ml_n m + 1 ∧ ml_s m1 = ml_s m + n ∧ ml_K m1 (ml_n m + 1) = (20, n) ∧ (∀ j, j < n → ml_I m1 (ml_n m + 1) j = ml_I m a j) ∧ pl_ex [] m m1 ∧ pl_co m m1 ∧ ml_J m1 1 = ml_J m 1 := by
  have hK1 : (ml_K m a).1 = 20 := by rw [hK]
  have hK2 : (ml_K m a).2 = L := by rw [hK]
  by_cases hn : n = L
  · refine ⟨ml_cl2 m a, ?_, rfl, by rw [pl_s_cl, hK2, hn], by rw [pl_K_cl, if_pos rfl, hK, hn], fun j _ => by rw [pl_I_cl, if_pos rfl], (pl_ex.refl [] m).cl, (pl_co.refl m).cl h60, by funext j; rw [pl_J_cl, if_neg (by omega)]⟩
    unfold fJ7_copyOf_59c91
    rw [if_pos hK1, hK2, pl_ofN, hn, if_pos rfl, pl_let, pl_let]
  · have hlen := pl_len (n := n) (by omega)
    have hlt : n < L := by omega
    have hKa : ml_K (ml_al m 20 n n) a = (20, L) := by rw [pl_K_alo ha, hK]
    have hmin : (if nI n < nI L then nI n else nI L) = nI n := if_pos (nI_lt hlt (by omega))
    have hcpo : ml_cpo (ml_al m 20 n n) a (ml_n m + 1) 0 0 (nI n) := by
      unfold ml_cpo
      rw [hKa, pl_K_aln, nI_clamp (by omega)]
      have c0 : (0 : Int32).toNatClampNeg = 0 := rfl
      have l0 : ¬ (0 : Int32) < 0 := by decide
      have l1 : ¬ nI n < 0 := nI_pos (by omega)
      simp only [c0]
      first
      | exact ⟨rfl, rfl, l0, l0, l1, by omega, by omega⟩
      | (refine ⟨?_, ?_⟩ <;> simp [l0, l1] <;> omega)
      | (simp [l0, l1]; omega)
    have c0 : (0 : Int32).toNatClampNeg = 0 := rfl
    refine ⟨ml_cp (ml_al m 20 n n) a 0 (ml_n m + 1) 0 n, ?_, rfl, by rw [pl_s_cp, pl_s_al], by rw [pl_K_cp, pl_K_aln], fun j hj => ?_, ?_, ?_, ?_⟩
    · unfold fJ7_copyOf_59c91
      rw [if_pos hK1, hK2, pl_ofN, if_neg (by rw [nI_eq (by omega) (by omega)]; exact hn), if_pos hlen, pl_let, pl_let, nI_clamp (by omega)]
      simp only [hKa, pl_ofN, hmin, if_true]
      rw [if_pos hcpo, pl_let, c0, nI_clamp (by omega)]
    · rw [pl_I_cp, if_pos (by omega), pl_I_alo ha, show 0 + (j - 0) = j by omega]
    · refine ⟨by rw [pl_n_cp, pl_n_al]; omega, fun b hb => by rw [pl_K_cp, pl_K_alo hb], fun b hb _ => ⟨?_, ?_⟩⟩
      · funext j; rw [pl_I_cp, if_neg (by omega), pl_I_alo hb]
      · funext j; rw [pl_R_cp, pl_R_alo hb]
    · exact ((pl_co.refl m).al h60).cp (by omega)
    · funext j
      have : ml_J (ml_cp (ml_al m 20 n n) a 0 (ml_n m + 1) 0 n) 1 j = ml_J (ml_al m 20 n n) 1 j := rfl
      rw [this, pl_J_al, if_neg (by omega)]
/-- a row of the class anew, in a cell made in the call -/
theorem pl_rowC {A : pl_A} {m m1 : ml_M} (hr : pl_Rel A m) {r n c : Nat} {f : Nat → Int32} (hr6 : r < 6) (hx : pl_ex [] m m1) (hco : pl_co m m1) (hJ : ml_J m1 1 = ml_J m 1) (hc : ml_n m < c ∧ c ≤ ml_n m1) (hK : ml_K m1 c = (20, n)) (hf : ∀ j, j < n → ml_I m1 c j = f j) : pl_Md A (pl_rA A r (n + 1) f) (ml_sR m1 2 r c) := by
  have hn := hr.1.2.2
  have hnew : ml_R (ml_sR m1 2 r c) 2 r = c := by rw [pl_R_sR, if_pos ⟨rfl, rfl⟩]
  have hex2 : pl_ex [2, 0] m m1 := ⟨hx.1, hx.2.1, fun a ha _ => hx.2.2 a ha (by simp)⟩
  refine hr.rC (b := 0) hr6 (Or.inl rfl) (hex2.sR (by simp)) hco.sR ?_ (fun q _ hq => ?_) (Or.inr ⟨by omega, ?_, fun j hj => ?_⟩) (Or.inr (Or.inr ?_))
  · rw [pl_J_sR, hJ]
  · rw [pl_R_sR, if_neg (by omega), (hx.2.2 2 (by omega) (by simp)).2]
  · rw [hnew]
    exact ⟨by omega, by rw [pl_n_sR]; exact hc.2, by rw [pl_K_sR, hK]; rfl⟩
  · rw [hnew, pl_I_sR, hf j (by omega)]
  · rw [hnew]; exact hc.1
/-- the least of some values -/
def pl_ml (v : Nat → Nat) : Nat → Nat
  | 0 => 100
  | k + 1 => if v k < pl_ml v k then v k else pl_ml v k
theorem pl_ml1 (v : Nat → Nat) (k : Nat) : pl_ml v (k + 1) = if v k < pl_ml v k then v k else pl_ml v k := rfl
theorem pl_ml_le (v : Nat → Nat) (k : Nat) : pl_ml v k ≤ 100 := by
  induction k with
  | zero => exact Nat.le_refl _
  | succ k ih => rw [pl_ml1]; split <;> omega
theorem pl_ml_am {q : Nat → Bool} {v v' w : Nat → Nat} : ∀ k, (∀ j, j < k + 1 → q j = false ∧ v j ≤ 9 ∧ v' j = v j + 1) → (pl_am q v' w (k + 1)).1 = pl_ml v (k + 1) + 1 := by
  intro k
  induction k with
  | zero =>
    intro h
    obtain ⟨h1, h2, h3⟩ := h 0 (by omega)
    have e0 : (pl_am q v' w 0).1 = 100 := rfl
    have e1 : pl_ml v 0 = 100 := rfl
    rw [pl_am1, if_neg (by simp [h1]), e0, if_pos (by omega), pl_ml1, e1, if_pos (by omega)]
    exact h3
  | succ k ih =>
    intro h
    obtain ⟨h1, h2, h3⟩ := h (k + 1) (by omega)
    have ih := ih fun j hj => h j (by omega)
    rw [pl_am1, if_neg (by simp [h1]), pl_ml1, ih, h3]
    by_cases c1 : v (k + 1) < pl_ml v (k + 1)
    · rw [if_pos c1, if_pos (by omega)]
    · rw [if_neg c1, if_neg (by omega)]
      split
      · rfl
      · exact ih
def pl_v1 (A : pl_A) (i : Nat) : Nat := (pl_gw A (2 ^ i) i).1
def pl_w1 (A : pl_A) (i : Nat) : Nat := (pl_gw A (2 ^ i) i).2
theorem pl_first {A : pl_A} (hn10 : pl_N A 0 5 0 ≤ 10) {n : Nat} (hn : pl_N A 0 5 0 = n + 1) : (∀ j, j < n + 1 → pl_v1 A j ≤ n ∧ pl_gs A n 0 (fun _ => false) j = pl_v1 A j + 1 ∧ pl_gt2 A n 0 j = pl_w1 A j) ∧ (pl_G A (n + 1) 0 fun _ => false).1 = pl_ml (pl_v1 A) (n + 1) + 1 ∧ (pl_G A (n + 1) 0 fun _ => false).2 = pl_sum (fun i => if pl_v1 A i = pl_ml (pl_v1 A) (n + 1) then pl_w1 A i else 0) (n + 1) := by
  have h1 : ∀ j, j < n + 1 → pl_v1 A j ≤ n ∧ pl_gs A n 0 (fun _ => false) j = pl_v1 A j + 1 ∧ pl_gt2 A n 0 j = pl_w1 A j := fun j hj => by
    have hgw := pl_gw_ins (A := A) (d := n) (set := 0) (j := j) (Nat.zero_testBit j) (by omega) (by rw [pl_bc0]; omega)
    rw [Nat.zero_or] at hgw
    have hb := pl_G_b A n (2 ^ j) (pl_jn A j) (by omega) (Nat.pow_lt_pow_right (by decide) (by omega)) (by
      have := pl_bc_ins (S := 0) (t := j) (n := pl_N A 0 5 0) (Nat.zero_testBit j) (by omega)
      rw [Nat.zero_or, pl_bc0] at this
      omega)
    unfold pl_v1 pl_w1 pl_gs pl_gt2
    rw [Nat.zero_or, hgw]
    exact ⟨hb.1, rfl, rfl⟩
  refine ⟨h1, ?_, ?_⟩
  · rw [pl_G_am, hn]
    exact pl_ml_am n fun j hj => ⟨Nat.zero_testBit j, by have := (h1 j hj).1; omega, (h1 j hj).2.1⟩
  · have hm : (pl_am (fun j => (0 : Nat).testBit j) (pl_gs A n 0 fun _ => false) (pl_gt2 A n 0) (n + 1)).1 = pl_ml (pl_v1 A) (n + 1) + 1 := pl_ml_am n fun j hj => ⟨Nat.zero_testBit j, by have := (h1 j hj).1; omega, (h1 j hj).2.1⟩
    rw [pl_G_am, hn, (pl_am_sum _ _ _ (n + 1) (fun j hj _ => by have := h1 j hj; omega)).1, hm]
    refine pl_sum_eq fun j hj => ?_
    obtain ⟨_, h2, h3⟩ := h1 j hj
    rw [h2, h3]
    by_cases c : pl_v1 A j = pl_ml (pl_v1 A) (n + 1)
    · rw [if_pos c, if_pos ⟨Nat.zero_testBit j, by omega⟩]
    · rw [if_neg c, if_neg (fun z => by have := z.2; omega)]
/-- the tables are laid before the reference -/
def pl_gk2 (A : pl_A) (m : ml_M) : Prop := ∀ set last, 0 < set → set < 2 ^ pl_N A 0 5 0 → last < pl_N A 0 5 0 → set.testBit last = true → ml_I m 54 (10 * set + last) = nI (pl_gw A set last).1 ∧ ml_I m 55 (10 * set + last) = nI (pl_gw A set last).2
theorem pl_gk2_ok {A : pl_A} {m : ml_M} (hn10 : pl_N A 0 5 0 ≤ 10) (g54 g55 : Nat → Int32) : pl_gk2 A (pl_wI (pl_wI m 54 (pl_q1 A g54 0 0)) 55 (pl_q2 A g55 0 0)) := by
  intro set last h0 hs hl ht
  have hin := pl_fe_in (n := pl_N A 0 5 0) (s := 0) (l := 0) (set := set) (last := last) hn10 hl hs (Or.inl h0)
  have hge : pl_ge A set last = pl_gw A set last := by unfold pl_ge; rw [if_pos ht]
  rw [pl_I_wI, if_neg (by decide), pl_I_wI, if_pos rfl, pl_I_wI, if_pos rfl]
  unfold pl_q1 pl_q2
  rw [if_pos hin, if_pos hin, show (10 * set + last) / 10 = set by omega, show (10 * set + last) % 10 = last by omega, hge]
  exact ⟨rfl, rfl⟩
theorem pl_leastM {A : pl_A} {m : ml_M} (hS : pl_Sh m) (hW : pl_W A) (hb : pl_bk A m) (hk : pl_gk2 A m) : fX11_leastGaps 33 m = some (nI (pl_ml (pl_v1 A) (pl_N A 0 5 0))) := by
  have hw := hW.1
  unfold pl_Wc at hw
  have p2 : 2 ^ pl_N A 0 5 0 ≤ 1024 := Nat.le_trans (Nat.pow_le_pow_right (by decide) hw.2.2.2.2.2.1) (by decide)
  have e1 : (1 : Int32) = nI 1 := rfl
  have e10 : (10 : Int32) = nI 10 := rfl
  have hx := pl_for (F := fun fu i (_ : Unit) => fX11_leastGaps_5 fu 33 (nI (pl_ml (pl_v1 A) i)) (nI i) m) (R := some (nI (pl_ml (pl_v1 A) (pl_N A 0 5 0)))) (pl_N A 0 5 0) (fun _ => ()) (fun fu i hi => ?_) (fun fu => ?_) ml_fu (by rw [pl_fu]; omega)
  · exact hx
  · show fX11_leastGaps_5 (fu + 1) 33 (nI (pl_ml (pl_v1 A) i)) (nI i) m = fX11_leastGaps_5 fu 33 (nI (pl_ml (pl_v1 A) (i + 1))) (nI (i + 1)) m
    have hlt : 2 ^ i < 2 ^ pl_N A 0 5 0 := Nat.pow_lt_pow_right (by decide) hi
    have hv := (hk (2 ^ i) i (Nat.two_pow_pos i) hlt hi (Nat.testBit_two_pow_self)).1
    have hidx : (10 : Int32) * ((1 : Int32) <<< (nI i &&& 31)) + nI i = nI (10 * 2 ^ i + i) := by rw [pl_shl1 (by omega), e10, pk_mul, nI_add]
    have hml := pl_ml_le (pl_v1 A) i
    have hvb : pl_v1 A i ≤ 100 := by
      obtain ⟨n, hn⟩ : ∃ n, pl_N A 0 5 0 = n + 1 := ⟨pl_N A 0 5 0 - 1, by omega⟩
      have := ((pl_first (A := A) (by omega) hn).1 i (by omega)).1
      omega
    have hv' : ml_I m 54 (10 * 2 ^ i + i) = nI (pl_v1 A i) := hv
    rw [pl_ml1]
    by_cases c : pl_v1 A i < pl_ml (pl_v1 A) i
    · rw [if_pos c]
      simp (disch := omega) only [fX11_leastGaps_5, fX11_leastGaps_37, ↓pl_let, pl_b1, pl_b2, ↓reduceIte, pl_k33 hS, if_true, hb.1, nI_leI, show ¬ pl_N A 0 5 0 ≤ i by omega, if_false, pl_r33_39 hS, hidx, pl_in, nI_clamp, pl_k54 hS, show 10 * 2 ^ i + i < 10240 by omega, and_self, hv', show ¬ pl_ml (pl_v1 A) i ≤ pl_v1 A i by omega, nI_1]
    · rw [if_neg c]
      simp (disch := omega) only [fX11_leastGaps_5, fX11_leastGaps_37, ↓pl_let, pl_b1, pl_b2, ↓reduceIte, pl_k33 hS, if_true, hb.1, nI_leI, show ¬ pl_N A 0 5 0 ≤ i by omega, if_false, pl_r33_39 hS, hidx, pl_in, nI_clamp, pl_k54 hS, show 10 * 2 ^ i + i < 10240 by omega, and_self, hv', show pl_ml (pl_v1 A) i ≤ pl_v1 A i by omega, nI_1]
  · simp (disch := omega) only [fX11_leastGaps_5, pl_k33 hS, if_true, hb.1, nI_leI, Nat.le_refl]
theorem pl_bkM {A : pl_A} {m : ml_M} (hM : pl_M A m) : pl_bk A m := ⟨hM.1.2.2.2.2.2.1, hM.2.2.2.2.2.2.1⟩
theorem pl_op_laid : pl_Ok (fX10_laid 1) (fX11_laid 33) := by
  intro A m h
  obtain ⟨m1, c1, c2, c3, c4, -, -, c6, -⟩ := pl_refrL h
  have hW := h.2.1
  have hw := hW.1
  unfold pl_Wc at hw
  have hC1 : fX10_laid 1 m = some (nI (pl_G A (pl_N A 0 5 0) 0 fun _ => false).2, m1) := by
    have hS := h.1
    have hS1 := c2.1
    simp only [fX10_laid, ↓pl_let, pl_b1, pl_b2, ↓reduceIte, pl_k1 hS, if_true, c1, pl_k1 hS1, pl_r1_13 hS1, pl_k21 hS1, c6]
  refine pl_Ok.mk c2.md hC1 (by omega) (by omega) hW fun M hSM hMM => ?_
  have h37 := hMM.1.2.2.2.2.2.1
  by_cases h0 : pl_N A 0 5 0 = 0
  · refine ⟨M, ?_, pl_mo.refl M, hMM⟩
    rw [h0]
    show fX11_laid 33 M = some (1, M)
    simp (disch := omega) only [fX11_laid, pl_k33 hSM, if_true, h37, pl_eq0, eq_true h0]
  · obtain ⟨n, hn⟩ : ∃ n, pl_N A 0 5 0 = n + 1 := ⟨pl_N A 0 5 0 - 1, by omega⟩
    obtain ⟨f1, f2, f3⟩ := pl_first (A := A) (by omega) hn
    have hgp := pl_gapsM hSM hW (pl_bkM hMM)
    obtain ⟨Z, hZ⟩ : ∃ Z, Z = pl_wI (pl_wI M 54 (pl_q1 A (ml_I M 54) 0 0)) 55 (pl_q2 A (ml_I M 55) 0 0) := ⟨_, rfl⟩
    have hSZ : pl_Sh Z := by rw [hZ]; exact (hSM.wI 54 _).wI 55 _
    have hMZ : pl_M A Z := by rw [hZ]; exact (((pl_kp.refl M).wI (by decide)).wI (by decide)).M hMM
    have hkZ : pl_gk2 A Z := by rw [hZ]; exact pl_gk2_ok (by omega) _ _
    rw [← hZ] at hgp
    refine ⟨Z, ?_, by rw [hZ]; exact ((pl_mo.refl M).wI (by decide)).wI (by decide), hMZ⟩
    have hle := pl_leastM hSZ hW (pl_bkM hMZ) hkZ
    have p2 : 2 ^ pl_N A 0 5 0 ≤ 1024 := Nat.le_trans (Nat.pow_le_pow_right (by decide) hw.2.2.2.2.2.1) (by decide)
    have h37Z := hMZ.1.2.2.2.2.2.1
    have hml := pl_ml_le (pl_v1 A) (pl_N A 0 5 0)
    have e10 : (10 : Int32) = nI 10 := rfl
    have hx := pl_for (F := fun fu i (_ : Unit) => fX11_laid_22 fu 33 (nI (pl_ml (pl_v1 A) (pl_N A 0 5 0))) (nI (pl_sum (fun i => if pl_v1 A i = pl_ml (pl_v1 A) (pl_N A 0 5 0) then pl_w1 A i else 0) i)) (nI i) Z) (R := some (nI (pl_sum (fun i => if pl_v1 A i = pl_ml (pl_v1 A) (pl_N A 0 5 0) then pl_w1 A i else 0) (pl_N A 0 5 0)), Z)) (pl_N A 0 5 0) (fun _ => ()) (fun fu i hi => ?_) (fun fu => ?_) ml_fu (by rw [pl_fu]; omega)
    · have e : (pl_G A (pl_N A 0 5 0) 0 fun _ => false).2 = pl_sum (fun i => if pl_v1 A i = pl_ml (pl_v1 A) (pl_N A 0 5 0) then pl_w1 A i else 0) (pl_N A 0 5 0) := by rw [hn]; exact f3
      rw [e]
      simp (disch := omega) only [fX11_laid, ↓pl_let, pl_b1, pl_b2, ↓reduceIte, pl_k33 hSM, if_true, h37, pl_eq0, h0, if_false, hgp, pl_k33 hSZ, hle]
      exact hx
    · show fX11_laid_22 (fu + 1) 33 (nI (pl_ml (pl_v1 A) (pl_N A 0 5 0))) (nI (pl_sum (fun i => if pl_v1 A i = pl_ml (pl_v1 A) (pl_N A 0 5 0) then pl_w1 A i else 0) i)) (nI i) Z = fX11_laid_22 fu 33 (nI (pl_ml (pl_v1 A) (pl_N A 0 5 0))) (nI (pl_sum (fun i => if pl_v1 A i = pl_ml (pl_v1 A) (pl_N A 0 5 0) then pl_w1 A i else 0) (i + 1))) (nI (i + 1)) Z
      have hlt : 2 ^ i < 2 ^ pl_N A 0 5 0 := Nat.pow_lt_pow_right (by decide) hi
      obtain ⟨hv, hw2⟩ := hkZ (2 ^ i) i (Nat.two_pow_pos i) hlt hi (Nat.testBit_two_pow_self)
      have hv' : ml_I Z 54 (10 * 2 ^ i + i) = nI (pl_v1 A i) := hv
      have hw' : ml_I Z 55 (10 * 2 ^ i + i) = nI (pl_w1 A i) := hw2
      have hvb := (f1 i (by omega)).1
      have hidx : (10 : Int32) * ((1 : Int32) <<< (nI i &&& 31)) + nI i = nI (10 * 2 ^ i + i) := by rw [pl_shl1 (by omega), e10, pk_mul, nI_add]
      rw [pl_sum1]
      by_cases c : pl_v1 A i = pl_ml (pl_v1 A) (pl_N A 0 5 0)
      · rw [if_pos c]
        simp (disch := omega) only [fX11_laid_22, fX11_laid_63, ↓pl_let, pl_b1, pl_b2, ↓reduceIte, pl_k33 hSZ, if_true, h37Z, nI_leI, show ¬ pl_N A 0 5 0 ≤ i by omega, if_false, pl_r33_39 hSZ, pl_r33_40 hSZ, hidx, pl_in, nI_clamp, pl_k54 hSZ, pl_k55 hSZ, show 10 * 2 ^ i + i < 10240 by omega, and_self, hv', nI_eq, eq_true c, hw', nI_add, nI_1]
      · rw [if_neg c]
        simp (disch := omega) only [fX11_laid_22, fX11_laid_63, ↓pl_let, pl_b1, pl_b2, ↓reduceIte, pl_k33 hSZ, if_true, h37Z, nI_leI, show ¬ pl_N A 0 5 0 ≤ i by omega, if_false, pl_r33_39 hSZ, hidx, pl_in, nI_clamp, pl_k54 hSZ, show 10 * 2 ^ i + i < 10240 by omega, and_self, hv', nI_eq, c, Int32.add_zero, Nat.add_zero, nI_1]
    · simp (disch := omega) only [fX11_laid_22, pl_k33 hSZ, if_true, h37Z, nI_leI, Nat.le_refl]

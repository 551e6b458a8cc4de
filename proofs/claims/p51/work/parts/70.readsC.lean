/-! READINGS: the class's side. -/
theorem pl_cnt_add (p : Nat → Bool) (n k : Nat) (h : ∀ i, n ≤ i → p i = false) : pl_cnt p (n + k) = pl_cnt p n := by
  induction k with
  | zero => rfl
  | succ k ih => rw [← Nat.add_assoc, pl_cnt1, ih, h (n + k) (by omega)]; rfl
theorem pl_pc_bc {S n : Nat} (hS : S < 2 ^ n) (hn : n ≤ 8) : pl_pc S = pl_bc S n := by
  unfold pl_pc pl_bc
  have := pl_cnt_add (fun i => S.testBit i) n (8 - n) fun i hi => Nat.testBit_lt_two_pow (Nat.lt_of_lt_of_le hS (Nat.pow_le_pow_right (by decide) hi))
  rw [show n + (8 - n) = 8 by omega] at this
  exact this
/-- what the class has counted, and its table, before set s -/
def pl_rs (nt L : Nat) (phi : Nat → Nat → Bool) : Nat → Nat × (Nat → Nat)
  | 0 => (0, fun x => if x = 0 then 1 else 0)
  | s + 1 => ((pl_rs nt L phi s).1 + (if pl_bc s nt = L then (pl_rs nt L phi s).2 s else 0), if pl_bc s nt < L then pl_pu phi (pl_bc s nt) s ((pl_rs nt L phi s).2 s) (pl_rs nt L phi s).2 nt else (pl_rs nt L phi s).2)
theorem pl_rs_inv (nt L : Nat) (phi : Nat → Nat → Bool) : ∀ s, s ≤ 2 ^ nt → (pl_rs nt L phi s).1 + pl_wz (pl_rs nt L phi s).2 (pl_rg nt L phi) s (2 ^ nt) = pl_rg nt L phi 0 := by
  intro s
  induction s with
  | zero =>
    intro _
    have h0 := Nat.two_pow_pos nt
    show 0 + pl_wz (fun x => if x = 0 then 1 else 0) (pl_rg nt L phi) 0 (2 ^ nt) = _
    rw [pl_wz_step _ _ _ _ h0, if_pos rfl]
    have e : pl_wz (fun x => if x = 0 then 1 else 0) (pl_rg nt L phi) (0 + 1) (2 ^ nt) = 0 := by
      unfold pl_wz
      refine Classical.byContradiction fun z => ?_
      obtain ⟨i, hi, hne⟩ := pl_sum_pos.mp z
      have hne : (if 0 + 1 ≤ i then (if i = 0 then 1 else 0) * pl_rg nt L phi i else 0) ≠ 0 := hne
      by_cases h1 : 0 + 1 ≤ i
      · rw [if_pos h1, if_neg (by omega), Nat.zero_mul] at hne; exact hne rfl
      · rw [if_neg h1] at hne; exact hne rfl
    rw [e]
    omega
  | succ s ih =>
    intro hs
    have ih := ih (by omega)
    rw [pl_rturn nt L phi _ (show s < 2 ^ nt by omega)] at ih
    rw [← ih]
    show _ + _ + _ = _ + (_ + _)
    rw [Nat.add_assoc]
    rfl
theorem pl_rs_end (nt L : Nat) (phi : Nat → Nat → Bool) : (pl_rs nt L phi (2 ^ nt)).1 = pl_rg nt L phi 0 := by
  have := pl_rs_inv nt L phi (2 ^ nt) (Nat.le_refl _)
  rw [pl_wz_end] at this
  exact this
/-- a table of N numbers -/
def pl_tbl (g0 : Nat → Int32) (N : Nat) (T : Nat → Nat) : Nat → Int32 := fun x => if x < N then nI (T x) else g0 x
theorem pl_tbl_ad (g0 : Nat → Int32) (N : Nat) (T : Nat → Nat) (x v : Nat) (hx : x < N) : (fun j => if j = x then nI (T x + v) else pl_tbl g0 N T j) = pl_tbl g0 N (pl_ad T x v) := by
  funext j
  unfold pl_tbl pl_ad
  by_cases h : j = x
  · rw [if_pos h, if_pos (show j < N by omega), if_pos h, h]
  · rw [if_neg h, if_neg h]
theorem pl_readsC {A : pl_A} {m : ml_M} (hS : pl_Sh m) (hW : pl_W A) (hCh : pl_Ch A m) {fa ta L : Nat} (phi : Nat → Nat → Bool) (hL : L ≤ 8) (hfa : pl_dy m fa (20, L)) (hta : pl_dy m ta (20, 2 ^ pl_N A 0 1 0)) (hne : fa ≠ ta) (hphi : ∀ k, k < L → ml_I m fa k = nI (pl_set (phi k) (pl_N A 0 1 0))) : ∃ g, fX10_readingsBy 1 fa ta m = some (nI (pl_rg (pl_N A 0 1 0) L phi 0), pl_wI m ta g) := by
  have hw := hW.1
  unfold pl_Wc at hw
  obtain ⟨nt, hnt⟩ : ∃ nt, nt = pl_N A 0 1 0 := ⟨_, rfl⟩
  obtain ⟨N, hN⟩ : ∃ N, N = 2 ^ nt := ⟨_, rfl⟩
  rw [← hnt] at hta hphi ⊢
  rw [← hN] at hta
  obtain ⟨p1, p2⟩ := pl_pown (show nt ≤ 8 by omega)
  rw [← hN] at p1 p2
  have z1 := hCh.1.2.2
  have z3 := hCh.2.2.2.2.1
  rw [← hnt] at z3
  have hSg : ∀ g, pl_Sh (pl_wI m ta g) := fun g => hS.wI ta g
  have hIg : ∀ g, ml_I (pl_wI m ta g) ta = g := fun g => by rw [pl_I_wI, if_pos rfl]
  have hIf : ∀ g, ml_I (pl_wI m ta g) fa = ml_I m fa := fun g => by rw [pl_I_wI, if_neg hne]
  have hhn : ¬ ml_R m 1 2 = ta := fun z => by rw [z, hta.2.2] at z1; cases z1
  have hIh : ∀ g, ml_I (pl_wI m ta g) (ml_R m 1 2) = ml_I m (ml_R m 1 2) := fun g => by rw [pl_I_wI, if_neg hhn]
  have e31 : (31 : Int32) = nI 31 := rfl
  have e1 : (1 : Int32) = nI 1 := rfl
  obtain ⟨g0, hg0⟩ : ∃ g0, g0 = ml_I m ta := ⟨_, rfl⟩
  refine ⟨pl_tbl g0 N (pl_rs nt L phi N).2, ?_⟩
  -- one set
  have ei : ∀ (K : Nat → Nat → Nat → Int32 → Int32 → ml_M → Option (Int32 × ml_M)) (a : Int32) (s k : Nat) (T : Nat → Nat), s < N → k < L → fX10_readingsBy_55 K ml_fu 1 fa ta a (nI s) (nI k) 0 (pl_wI m ta (pl_tbl g0 N T)) = K 1 fa ta a (nI (s + 1)) (pl_wI m ta (pl_tbl g0 N (pl_pu phi k s (T s) T nt))) := fun K a s k T hs hk => by
    refine pl_for (F := fun fu t g => fX10_readingsBy_55 K fu 1 fa ta a (nI s) (nI k) (nI t) (pl_wI m ta g)) (R := K 1 fa ta a (nI (s + 1)) (pl_wI m ta (pl_tbl g0 N (pl_pu phi k s (T s) T nt)))) nt (fun t => pl_tbl g0 N (pl_pu phi k s (T s) T t)) (fun fu t ht => ?_) (fun fu => ?_) ml_fu (by rw [pl_fu]; omega)
    · show fX10_readingsBy_55 K (fu + 1) 1 fa ta a (nI s) (nI k) (nI t) (pl_wI m ta (pl_tbl g0 N (pl_pu phi k s (T s) T t))) = fX10_readingsBy_55 K fu 1 fa ta a (nI s) (nI k) (nI (t + 1)) (pl_wI m ta (pl_tbl g0 N (pl_pu phi k s (T s) T (t + 1))))
      have hsl := pl_set_lt (phi k) nt
      have h1 := fun M => (pl_has (s := pl_set (phi k) nt) (t := t) (by omega) (by omega) M).1
      have h2 := fun M => (pl_has (s := s) (t := t) (by omega) (by omega) M).1
      have htb : (pl_set (phi k) nt).testBit t = phi k t := by rw [pl_set_tb, decide_eq_true ht, Bool.true_and]
      rw [htb] at h1
      have k1 := pl_k1 (hSg (pl_tbl g0 N (pl_pu phi k s (T s) T t)))
      have hc : (phi k t && !s.testBit t) = true ∨ phi k t = false ∨ (phi k t = true ∧ s.testBit t = true) := by
        cases phi k t <;> cases s.testBit t <;> simp
      rcases hc with hc | hc | hc
      · have hc' := hc
        rw [Bool.and_eq_true] at hc'
        have hst : s.testBit t = false := by simpa using hc'.2
        have hlt : s ||| 2 ^ t < N := by rw [hN]; exact pl_ins_lt (by omega) ht
        rw [pl_pu1, if_pos hc, ← pl_tbl_ad _ _ _ _ _ hlt]
        have hv1 : pl_tbl g0 N (pl_pu phi k s (T s) T t) s = nI (T s) := by unfold pl_tbl; rw [if_pos hs, pl_pu_s _ _ _ _ _ _ _ (Nat.le_refl s)]
        have hv2 : pl_tbl g0 N (pl_pu phi k s (T s) T t) (s ||| 2 ^ t) = nI (pl_pu phi k s (T s) T t (s ||| 2 ^ t)) := by unfold pl_tbl; rw [if_pos hlt]
        simp (disch := omega) only [fX10_readingsBy_55, fX10_readingsBy_105, ↓pl_let, pl_b1, pl_b2, ↓reduceIte, k1, pl_R_wI, pl_K_wI, z1, if_true, hIh, z3, nI_leI, show ¬ nt ≤ t by omega, if_false, hfa.2.2, hta.2.2, pl_in, nI_clamp, hk, and_self, hIf, hphi k hk, h1, h2, hc'.1, hst, Bool.false_eq_true, e1, e31, pl_eq0, Nat.reduceEqDiff, pl_and, pl_shl2, pl_or, hs, hlt, hIg, hv1, hv2, pl_wI_sI, nI_add]
      · rw [pl_pu1, if_neg (by simp [hc])]
        simp (disch := omega) only [fX10_readingsBy_55, fX10_readingsBy_105, ↓pl_let, pl_b1, pl_b2, ↓reduceIte, k1, pl_R_wI, pl_K_wI, z1, if_true, hIh, z3, nI_leI, show ¬ nt ≤ t by omega, if_false, hfa.2.2, pl_in, nI_clamp, hk, and_self, hIf, hphi k hk, h1, hc, Bool.false_eq_true, e1, nI_add]
      · rw [pl_pu1, if_neg (by simp [hc.1, hc.2])]
        simp (disch := omega) only [fX10_readingsBy_55, fX10_readingsBy_105, ↓pl_let, pl_b1, pl_b2, ↓reduceIte, k1, pl_R_wI, pl_K_wI, z1, if_true, hIh, z3, nI_leI, show ¬ nt ≤ t by omega, if_false, hfa.2.2, pl_in, nI_clamp, hk, and_self, hIf, hphi k hk, h1, h2, hc.1, hc.2, e1, pl_eq0, Nat.reduceEqDiff, nI_add]
    · have k1 := pl_k1 (hSg (pl_tbl g0 N (pl_pu phi k s (T s) T nt)))
      simp (disch := omega) only [fX10_readingsBy_55, fX10_readingsBy_111, ↓pl_let, pl_b1, pl_b2, ↓reduceIte, k1, pl_R_wI, pl_K_wI, z1, if_true, hIh, z3, nI_leI, Nat.le_refl, e1, nI_add]
  have ho := pl_for (F := fun fu s (q : Nat × (Nat → Nat)) => fX10_readingsBy_14 fu 1 fa ta (nI q.1) (nI s) (pl_wI m ta (pl_tbl g0 N q.2))) (R := some (nI (pl_rs nt L phi N).1, pl_wI m ta (pl_tbl g0 N (pl_rs nt L phi N).2))) N (pl_rs nt L phi) (fun fu s hs => ?_) (fun fu => ?_) ml_fu (by rw [pl_fu]; omega)
  · have hfill := pl_fillI (m := m) (a := ta) (n := N) 0 hta.2.2 (by omega)
    have hin0 : ∀ g, ml_in (pl_wI m ta g) ta 20 0 := fun g => by
      rw [← nI_0, pl_in (by decide), pl_K_wI, hta.2.2]; exact ⟨rfl, by omega⟩
    have hT0 : (fun j => if j = 0 then (1 : Int32) else pl_fv m ta 0 N j) = pl_tbl g0 N (pl_rs nt L phi 0).2 := by
      funext j
      unfold pl_tbl pl_fv
      show _ = if j < N then nI (if j = 0 then 1 else 0) else g0 j
      by_cases hj : j = 0
      · rw [if_pos hj, if_pos (show j < N by omega), if_pos hj]; rfl
      · rw [if_neg hj, if_neg hj, hg0]; rfl
    unfold fX10_readingsBy
    rw [hfill, pl_b1, if_pos (hin0 _), pl_let]
    have hc0 : (0 : Int32).toNatClampNeg = 0 := rfl
    rw [hc0, pl_wI_sI, hT0]
    rw [hN, pl_rs_end, ← hN] at ho
    exact ho
  · show fX10_readingsBy_14 (fu + 1) 1 fa ta (nI (pl_rs nt L phi s).1) (nI s) (pl_wI m ta (pl_tbl g0 N (pl_rs nt L phi s).2)) = fX10_readingsBy_14 fu 1 fa ta (nI (pl_rs nt L phi (s + 1)).1) (nI (s + 1)) (pl_wI m ta (pl_tbl g0 N (pl_rs nt L phi (s + 1)).2))
    have hbc : ∀ M, fJ6_bitCount_0f7a4 (nI s) M = some (nI (pl_bc s nt)) := fun M => by rw [pl_bitC (by omega), pl_pc_bc (n := nt) (by omega) (by omega)]
    have hbl := pl_bc_le s nt
    have er1 : (pl_rs nt L phi (s + 1)).1 = (pl_rs nt L phi s).1 + (if pl_bc s nt = L then (pl_rs nt L phi s).2 s else 0) := rfl
    have er2 : (pl_rs nt L phi (s + 1)).2 = if pl_bc s nt < L then pl_pu phi (pl_bc s nt) s ((pl_rs nt L phi s).2 s) (pl_rs nt L phi s).2 nt else (pl_rs nt L phi s).2 := rfl
    rw [er1, er2]
    generalize (pl_rs nt L phi s).1 = a
    generalize (pl_rs nt L phi s).2 = T
    have hv1 : pl_tbl g0 N T s = nI (T s) := by unfold pl_tbl; rw [if_pos hs]
    by_cases h1 : pl_bc s nt < L
    · rw [if_pos h1, if_neg (show ¬ pl_bc s nt = L by omega), Nat.add_zero a, ← ei (fX10_readingsBy_14 fu) (nI a) s (pl_bc s nt) T hs h1]
      simp (disch := omega) only [fX10_readingsBy_14, fX10_readingsBy_42, ↓pl_let, pl_b1, pl_b2, ↓reduceIte, pl_K_wI, hta.2.2, hfa.2.2, if_true, pl_ofN, nI_leI, show ¬ N ≤ s by omega, if_false, hbc, nI_eq, show ¬ pl_bc s nt = L by omega, nI_ltI, h1]
    · rw [if_neg h1]
      by_cases h2 : pl_bc s nt = L
      · rw [if_pos h2]
        simp (disch := omega) only [fX10_readingsBy_14, fX10_readingsBy_42, fX10_readingsBy_111, ↓pl_let, pl_b1, pl_b2, ↓reduceIte, pl_K_wI, hta.2.2, hfa.2.2, if_true, pl_ofN, nI_leI, show ¬ N ≤ s by omega, if_false, hbc, nI_eq, eq_true h2, nI_ltI, show ¬ pl_bc s nt < L by omega, pl_in, nI_clamp, hs, and_self, hIg, hv1, nI_add, e1]
      · rw [if_neg h2, Nat.add_zero a]
        simp (disch := omega) only [fX10_readingsBy_14, fX10_readingsBy_42, fX10_readingsBy_111, ↓pl_let, pl_b1, pl_b2, ↓reduceIte, pl_K_wI, hta.2.2, hfa.2.2, if_true, pl_ofN, nI_leI, show ¬ N ≤ s by omega, if_false, hbc, nI_eq, h2, nI_ltI, h1, e1, nI_add]
  · simp (disch := omega) only [fX10_readingsBy_14, ↓pl_let, pl_b1, pl_b2, ↓reduceIte, pl_K_wI, hta.2.2, if_true, pl_ofN, nI_leI, Nat.le_refl]

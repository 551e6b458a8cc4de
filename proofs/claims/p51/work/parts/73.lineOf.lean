/-! LINES: lineOf. -/
theorem pl_rd_le {nt L : Nat} {phi : Nat → Nat → Bool} (hn : nt ≤ 8) : ∀ d S, pl_rd nt L phi d S ≤ 8 ^ d := by
  intro d
  induction d with
  | zero => intro S; exact Nat.le_refl _
  | succ d ih =>
    intro S
    have h : pl_rd nt L phi (d + 1) S ≤ nt * 8 ^ d := pl_sum_le fun t ht => by
      split
      · exact ih _
      · exact Nat.zero_le _
    rw [Nat.pow_succ, Nat.mul_comm]
    exact Nat.le_trans h (Nat.mul_le_mul_right _ hn)
theorem pl_rg_lt {nt L : Nat} {phi : Nat → Nat → Bool} (hn : nt ≤ 8) (hL : L ≤ 8) (S : Nat) : pl_rg nt L phi S < 2 ^ 30 := by
  unfold pl_rg
  split
  · have h1 := pl_rd_le (L := L) (phi := phi) hn (L - pl_bc S nt) S
    have h2 : 8 ^ (L - pl_bc S nt) ≤ 8 ^ 8 := Nat.pow_le_pow_right (by decide) (by omega)
    have h3 : (8 : Nat) ^ 8 = 2 ^ 24 := by decide
    omega
  · exact Nat.two_pow_pos 30
/-- line l1 read as trunk t1 -/
def pl_ph (A : pl_A) (l1 t1 l t : Nat) : Bool := if l = l1 then decide (t = t1) && pl_lf A l t else pl_lf A l t
theorem pl_ph_set (A : pl_A) (l1 t1 nt : Nat) : pl_set (pl_lf A l1) nt &&& 2 ^ t1 = pl_set (pl_ph A l1 t1 l1) nt := by
  apply Nat.eq_of_testBit_eq
  intro i
  rw [Nat.testBit_and, pl_set_tb, pl_set_tb, Nat.testBit_two_pow]
  unfold pl_ph
  rw [if_pos rfl]
  by_cases h : t1 = i
  · subst h; simp
  · rw [decide_eq_false h, decide_eq_false (show ¬ i = t1 by omega)]; simp
theorem pl_ph_o (A : pl_A) {l1 t1 l : Nat} (h : l ≠ l1) (nt : Nat) : pl_set (pl_lf A l) nt = pl_set (pl_ph A l1 t1 l) nt := by
  congr 1
  funext t
  unfold pl_ph
  rw [if_neg h]
/-- as which trunks line l1 can be read -/
def pl_lin (A : pl_A) (l1 t : Nat) : Bool := decide (0 < pl_rg (pl_N A 0 1 0) (pl_N A 0 4 0) (pl_ph A l1 t) 0)
theorem pl_op_lineOf (x : Int32) : pl_Ok (fX10_lineOf 1 x) (fX11_lineOf 33 x) := by
  intro A m h
  obtain ⟨hS, hW, hM, hC⟩ := h
  have h : pl_Rel A m := ⟨hS, hW, hM, hC⟩
  have hw := hW.1
  unfold pl_Wc at hw
  have hn := hS.2.2
  have h7m : ml_I m 1 7 = nI (pl_N A 0 4 0) := hC.1.2.2.1
  rcases pl_rng1 x (pl_N A 0 4 0) (by omega) with hx | ⟨l1, hl1, rfl⟩
  · refine pl_Ok.same h (-1) ?_ ?_
    · simp (disch := omega) only [fX10_lineOf, ↓pl_let, pl_b1, pl_b2, ↓reduceIte, pl_k1 hS, h7m, pl_within, pl_l1, pl_le1, hx, if_false, if_true, pl_eq0, Nat.reduceEqDiff]
    · simp (disch := omega) only [fX11_lineOf, ↓pl_let, pl_b1, pl_b2, ↓reduceIte, pl_k33 hS, hM.1.1, hM.1.2.1, hM.1.2.2.1, hM.1.2.2.2.1, hM.1.2.2.2.2.1, hM.1.2.2.2.2.2.1, hM.1.2.2.2.2.2.2.1, hM.1.2.2.2.2.2.2.2.1, pl_inM, pl_l1, pl_le1, hx, if_false, if_true, pl_eq0, Nat.reduceEqDiff]
  have hrt := pl_rng1t hl1 (show pl_N A 0 4 0 < 2 ^ 30 by omega)
  obtain ⟨p1, p2⟩ := pl_pown (show pl_N A 0 1 0 ≤ 8 by omega)
  obtain ⟨nt, hnt⟩ : ∃ nt, nt = pl_N A 0 1 0 := ⟨_, rfl⟩
  rw [← hnt] at p1 p2
  obtain ⟨N, hN⟩ : ∃ N, N = 2 ^ nt := ⟨_, rfl⟩
  rw [← hN] at p1 p2
  obtain ⟨L, hL⟩ : ∃ L, L = pl_N A 0 4 0 := ⟨_, rfl⟩
  have hl31 := pl_len (n := N) (by omega)
  have hal := pl_alW (ml_al m 20 L L) (ml_n m + 1) 20 N N (pl_fk A L 0) (by rw [pl_n_al]; exact Nat.le_refl _)
  obtain ⟨Z, hZ⟩ : ∃ Z, Z = ml_al (ml_al m 20 L L) 20 N N := ⟨_, rfl⟩
  rw [← hZ] at hal
  have hdg : ∀ g1 g2, pl_Md A A (pl_wI (pl_wI Z (ml_n m + 1) g1) (ml_n m + 2) g2) := fun g1 g2 => by
    have := pl_rdW h (L := L) (N := N) g1 g2
    rw [← hZ] at this
    exact this
  have hK1 : ml_K Z (ml_n m + 1) = (20, L) := by rw [hZ, pl_K_alo (by rw [pl_n_al]; exact Nat.le_refl _), pl_K_aln]
  have hK2 : ml_K Z (ml_n m + 2) = (20, N) := by
    have := pl_K_aln (ml_al m 20 L L) 20 N N
    rw [pl_n_al] at this
    rw [hZ]; exact this
  have hnM : ml_n Z = ml_n m + 2 := by rw [hZ, pl_n_al, pl_n_al]
  have hsM : ml_s Z = ml_s m + L + N := by rw [hZ, pl_s_al, pl_s_al]
  have htr := pl_trunksC h
  rw [← hL] at htr
  have e31 : (31 : Int32) = nI 31 := rfl
  have e1 : (1 : Int32) = nI 1 := rfl
  have hsl := pl_set_lt (pl_lf A l1) nt
  have hloop := pl_loop (F := fun fu (q : Nat × ml_M) => fX10_lineOf_44 fu 1 (nI l1) (ml_n m + 1) (ml_n m + 2) (nI (pl_set (pl_lf A l1) nt)) (nI (pl_set (pl_lin A l1) q.1)) (nI q.1) q.2) (μ := fun q => nt - q.1)
    (Inv := fun q => q.1 ≤ nt ∧ ∃ g1 g2, q.2 = pl_wI (pl_wI Z (ml_n m + 1) g1) (ml_n m + 2) g2 ∧ ∀ k, k < L → k ≠ l1 → g1 k = nI (pl_set (pl_lf A k) nt))
    (Post := fun r => ∃ g1 g2, r = some (nI (pl_set (pl_lin A l1) nt), pl_wI (pl_wI Z (ml_n m + 1) g1) (ml_n m + 2) g2))
    (fun fu q hq => by
      obtain ⟨t, M0⟩ := q
      obtain ⟨htn, g1, g2, hM0, hg⟩ := hq
      have htn : t ≤ nt := htn
      have hM0 : M0 = pl_wI (pl_wI Z (ml_n m + 1) g1) (ml_n m + 2) g2 := hM0
      obtain ⟨hS0, -, -, hC0⟩ := hdg g1 g2
      rw [← hM0] at hS0 hC0
      have hCh0 := hC0.2.2.2.1
      have z1 := hCh0.1.2.2
      have z3 := hCh0.2.2.2.2.1
      rw [← hnt] at z3
      have k1 := pl_k1 hS0
      have kf : ml_K M0 (ml_n m + 1) = (20, L) := by rw [hM0, pl_K_wI, pl_K_wI, hK1]
      by_cases hend : t = nt
      · refine Or.inl ⟨g1, g2, ?_⟩
        show fX10_lineOf_44 (fu + 1) 1 (nI l1) (ml_n m + 1) (ml_n m + 2) (nI (pl_set (pl_lf A l1) nt)) (nI (pl_set (pl_lin A l1) t)) (nI t) M0 = _
        rw [← hM0, hend]
        simp (disch := omega) only [fX10_lineOf_44, ↓pl_let, pl_b1, pl_b2, ↓reduceIte, k1, z1, z3, if_true, nI_leI, Nat.le_refl]
      · have ht : t < nt := by omega
        obtain ⟨g1', hg1'⟩ : ∃ g1', g1' = fun j => if j = l1 then nI (pl_set (pl_ph A l1 t l1) nt) else g1 j := ⟨_, rfl⟩
        have hM1 : ml_sI M0 (ml_n m + 1) l1 (nI (pl_set (pl_ph A l1 t l1) nt)) = pl_wI (pl_wI Z (ml_n m + 1) g1') (ml_n m + 2) g2 := by
          rw [hM0, pl_wI_sw _ _ _ (show ml_n m + 1 ≠ ml_n m + 2 by omega), pl_wI_sI, ← hg1', pl_wI_sw _ _ _ (show ml_n m + 2 ≠ ml_n m + 1 by omega)]
        obtain ⟨M1, hM1e⟩ : ∃ M1, M1 = pl_wI (pl_wI Z (ml_n m + 1) g1') (ml_n m + 2) g2 := ⟨_, rfl⟩
        rw [← hM1e] at hM1
        obtain ⟨hS1, -, -, hC1⟩ := hdg g1' g2
        rw [← hM1e] at hS1 hC1
        have hn1 : ml_n M1 = ml_n m + 2 := by rw [hM1e, pl_n_wI, pl_n_wI, hnM]
        obtain ⟨g3, hg3⟩ := pl_readsC hS1 hW hC1.2.2.2.1 (fa := ml_n m + 1) (ta := ml_n m + 2) (L := L) (pl_ph A l1 t) (by omega) ⟨by omega, by omega, by rw [hM1e, pl_K_wI, pl_K_wI, hK1]⟩ ⟨by omega, by omega, by rw [hM1e, pl_K_wI, pl_K_wI, hK2, hN, hnt]⟩ (by omega) (fun k hk => by
          rw [hM1e, pl_I_wI, if_neg (by omega), pl_I_wI, if_pos rfl, hg1', ← hnt]
          show (if k = l1 then nI (pl_set (pl_ph A l1 t l1) nt) else g1 k) = _
          by_cases hkl : k = l1
          · rw [if_pos hkl, hkl]
          · rw [if_neg hkl, hg k hk hkl, pl_ph_o A (l1 := l1) (t1 := t) hkl])
        rw [hM1e, pl_wI_wI, ← hM1e] at hg3
        have hlt := pl_rg_lt (nt := nt) (L := L) (phi := pl_ph A l1 t) (by omega) (by omega) 0
        rw [← hnt] at hg3
        refine Or.inr ⟨(t + 1, pl_wI (pl_wI Z (ml_n m + 1) g1') (ml_n m + 2) g3), ?_, ⟨ht, g1', g3, rfl, fun k hk hkl => ?_⟩, ?_⟩
        · show fX10_lineOf_44 (fu + 1) 1 (nI l1) (ml_n m + 1) (ml_n m + 2) (nI (pl_set (pl_lf A l1) nt)) (nI (pl_set (pl_lin A l1) t)) (nI t) M0 = fX10_lineOf_44 fu 1 (nI l1) (ml_n m + 1) (ml_n m + 2) (nI (pl_set (pl_lf A l1) nt)) (nI (pl_set (pl_lin A l1) (t + 1))) (nI (t + 1)) (pl_wI (pl_wI Z (ml_n m + 1) g1') (ml_n m + 2) g3)
          rw [pl_set1]
          unfold pl_lin
          rw [← hnt, ← hL]
          have hstep : ml_I M0 (ml_R M0 1 2) 3 = nI nt := z3
          by_cases hz : pl_rg nt L (pl_ph A l1 t) 0 = 0
          · rw [if_neg (by rw [hz]; decide)]
            rw [hz] at hg3
            simp (disch := omega) only [fX10_lineOf_44, fX10_lineOf_84, ↓pl_let, pl_b1, pl_b2, ↓reduceIte, k1, z1, z3, if_true, nI_leI, show ¬ nt ≤ t by omega, if_false, pl_in, nI_clamp, kf, show l1 < L by omega, and_self, e1, e31, pl_and, pl_shl2, pl_ph_set, hM1, hg3, pl_leZ, nI_add]
          · rw [if_pos (decide_eq_true (by omega))]
            simp (disch := omega) only [fX10_lineOf_44, fX10_lineOf_84, ↓pl_let, pl_b1, pl_b2, ↓reduceIte, k1, z1, z3, if_true, nI_leI, show ¬ nt ≤ t by omega, if_false, pl_in, nI_clamp, kf, show l1 < L by omega, and_self, e1, e31, pl_and, pl_shl2, pl_ph_set, hM1, hg3, pl_leZ, hz, pl_or, nI_add]
        · rw [hg1']
          show (if k = l1 then nI (pl_set (pl_ph A l1 t l1) nt) else g1 k) = _
          rw [if_neg hkl, hg k hk hkl]
        · show nt - (t + 1) < nt - t
          omega) ml_fu
  have hex1 : pl_ex [] m (pl_wI (ml_al m 20 L L) (ml_n m + 1) (pl_fk A L 0)) := ((pl_ex.refl [] m).al).wI (Or.inr (by omega))
  have hS1 : pl_Sh (pl_wI (ml_al m 20 L L) (ml_n m + 1) (pl_fk A L 0)) := hex1.sh hS (fun q _ hq => by simp at hq)
  have hCh1 : pl_Ch A (pl_wI (ml_al m 20 L L) (ml_n m + 1) (pl_fk A L 0)) := hC.2.2.2.1.fr hex1 (by rw [(hex1.2.2 1 (by omega) (by simp)).2]) (fun k _ a ha => by simp at ha) (fun k _ a ha => by simp at ha) rfl rfl rfl rfl rfl rfl
  have z1 := hCh1.1.2.2
  have z3 := hCh1.2.2.2.2.1
  have hsh : (1 : Int32) <<< (nI (pl_N A 0 1 0) &&& 31) = nI N := by rw [pl_shl1 (by omega), hN, hnt]
  obtain ⟨g1, g2, hr⟩ := hloop (0, pl_wI Z (ml_n m + 1) (pl_fk A L 0)) (by rw [pl_fu]; show nt - 0 < _; omega) ⟨Nat.zero_le _, pl_fk A L 0, ml_I (pl_wI Z (ml_n m + 1) (pl_fk A L 0)) (ml_n m + 2), by rw [pl_wI_0], fun k hk _ => by rw [pl_fk_k hk, hnt]⟩
  have hC1 : fX10_lineOf 1 (nI l1) m = some (nI (pl_set (pl_lin A l1) nt), pl_wI (pl_wI Z (ml_n m + 1) g1) (ml_n m + 2) g2) := by
    rw [← hr]
    have hinl : ml_in (pl_wI Z (ml_n m + 1) (pl_fk A L 0)) (ml_n m + 1) 20 (nI l1) := by
      rw [pl_in (by omega), pl_K_wI, hK1]; exact ⟨rfl, by omega⟩
    have hS2 : pl_Sh (pl_wI Z (ml_n m + 1) (pl_fk A L 0)) := by
      have := (hdg (pl_fk A L 0) (ml_I (pl_wI Z (ml_n m + 1) (pl_fk A L 0)) (ml_n m + 2))).1
      rw [pl_wI_0] at this; exact this
    have hle : pl_N A 0 4 0 - 1 + 1 = pl_N A 0 4 0 := by omega
    unfold fX10_lineOf
    rw [pl_k1 hS, if_pos rfl, h7m, pl_within]
    simp (disch := omega) only [pl_l1, pl_le1, hrt, if_true, pl_b1, pl_eq0, Nat.reduceEqDiff, if_false]
    rw [e1] at hsh
    rw [htr, pl_b2, pl_k1 hS1, if_pos rfl, pl_let, z1, if_pos rfl, z3, hsh, if_pos hl31, pl_let, pl_let, nI_clamp (by omega), pl_n_wI, pl_n_al, hal, if_pos hinl, pl_let, pl_I_wI, if_pos rfl, nI_clamp (by omega), pl_fk_k (by omega), ← hnt]
    rfl
  have hdf := hdg g1 g2
  refine pl_Ok.mk hdf hC1 (by rw [pl_n_wI, pl_n_wI]; omega) (by rw [pl_s_wI, pl_s_wI]; omega) hW fun M hSM hMM => ?_
  have hMg : ∀ g, pl_M A (pl_wI M 52 g) := fun g => ((pl_kp.refl M).wI (by decide)).M hMM
  have hSg : ∀ g, pl_Sh (pl_wI M 52 g) := fun g => hSM.wI 52 g
  have hloopM := pl_loop (F := fun fu (q : Nat × ml_M) => fX11_lineOf_20 fu 33 (nI l1) (nI (pl_set (pl_lin A l1) q.1)) (nI q.1) q.2) (μ := fun q => nt - q.1)
    (Inv := fun q => q.1 ≤ nt ∧ ∃ g, q.2 = pl_wI M 52 g)
    (Post := fun r => ∃ g, r = some (nI (pl_set (pl_lin A l1) nt), pl_wI M 52 g))
    (fun fu q hq => by
      obtain ⟨t, M0⟩ := q
      obtain ⟨htn, g, hM0⟩ := hq
      have htn : t ≤ nt := htn
      have hM0 : M0 = pl_wI M 52 g := hM0
      have k33 := pl_k33 (hSg g)
      have h10 : ml_I (pl_wI M 52 g) 33 10 = nI nt := by rw [hnt]; exact (hMg g).1.2.1
      rw [← hM0] at k33 h10
      by_cases hend : t = nt
      · refine Or.inl ⟨g, ?_⟩
        show fX11_lineOf_20 (fu + 1) 33 (nI l1) (nI (pl_set (pl_lin A l1) t)) (nI t) M0 = _
        rw [← hM0, hend]
        simp (disch := omega) only [fX11_lineOf_20, ↓pl_let, pl_b1, pl_b2, ↓reduceIte, k33, h10, if_true, nI_leI, Nat.le_refl]
      · have ht : t < nt := by omega
        obtain ⟨g3, hg3⟩ := pl_readsM (hSg g) hW (hMg g) (nI l1) (nI t) (pl_ph A l1 t) (fun l i hl hi => by
          unfold pl_ph
          by_cases h1 : l = l1
          · by_cases h2 : i = t
            · rw [if_pos h1, if_neg (fun z => z.2 (by rw [h2])), decide_eq_true h2, Bool.true_and]
            · rw [if_pos h1, if_pos ⟨by rw [h1], fun z => h2 ((nI_eq (by omega) (by omega)).mp z)⟩, decide_eq_false h2, Bool.false_and]
          · rw [if_neg h1, if_neg (fun z => h1 ((nI_eq (by omega) (by omega)).mp z.1))])
        rw [pl_wI_wI, ← hM0, ← hnt, ← hL] at hg3
        have hlt := pl_rg_lt (nt := nt) (L := L) (phi := pl_ph A l1 t) (by omega) (by omega) 0
        refine Or.inr ⟨(t + 1, pl_wI M 52 g3), ?_, ⟨ht, g3, rfl⟩, ?_⟩
        · show fX11_lineOf_20 (fu + 1) 33 (nI l1) (nI (pl_set (pl_lin A l1) t)) (nI t) M0 = fX11_lineOf_20 fu 33 (nI l1) (nI (pl_set (pl_lin A l1) (t + 1))) (nI (t + 1)) (pl_wI M 52 g3)
          rw [pl_set1]
          unfold pl_lin
          rw [← hnt, ← hL]
          by_cases hz : pl_rg nt L (pl_ph A l1 t) 0 = 0
          · rw [if_neg (by rw [hz]; decide)]
            rw [hz] at hg3
            simp (disch := omega) only [fX11_lineOf_20, fX11_lineOf_45, ↓pl_let, pl_b1, pl_b2, ↓reduceIte, k33, h10, if_true, nI_leI, show ¬ nt ≤ t by omega, if_false, hg3, pl_leZ, Int32.or_zero, e1, nI_add]
          · rw [if_pos (decide_eq_true (by omega))]
            simp (disch := omega) only [fX11_lineOf_20, fX11_lineOf_45, ↓pl_let, pl_b1, pl_b2, ↓reduceIte, k33, h10, if_true, nI_leI, show ¬ nt ≤ t by omega, if_false, hg3, pl_leZ, hz, e1, e31, pl_and, pl_shl2, pl_or, nI_add]
        · show nt - (t + 1) < nt - t
          omega) ml_fu
  obtain ⟨g3, hr3⟩ := hloopM (0, M) (by rw [pl_fu]; show nt - 0 < _; omega) ⟨Nat.zero_le _, ml_I M 52, by rw [pl_wI_0]⟩
  refine ⟨pl_wI M 52 g3, ?_, (pl_mo.refl M).wI (by decide), hMg g3⟩
  rw [← hr3]
  have h34 : ml_I M 33 34 = nI (pl_N A 0 4 0) := hMM.1.2.2.2.2.1
  unfold fX11_lineOf
  rw [pl_k33 hSM, if_pos rfl, h34, pl_inM]
  simp (disch := omega) only [pl_l1, pl_le1, hrt, if_true, pl_b1, pl_eq0, Nat.reduceEqDiff, if_false]
  rfl

/-! MOVES: the reference's row; the pair moves. -/
theorem pl_moves153 {A : pl_A} {M : ml_M} (hS : pl_Sh M) (hW : pl_W A) (hM : pl_M A M) {w : List Nat} (ho : pl_ow2 A M w) (hnd : pl_isS A (fun t => nI (w.getD t 0)) w) {r : Nat} (hr : r < 6) : ∃ Z, fX11_moves_153 ml_fu 33 (nI r) 0 0 (pl_cM M r 0) = some (nI (pl_moved A w), Z) ∧ pl_mo M Z ∧ pl_M (pl_rA A r (2 * pl_moved A w + 1) (pl_mvf A w 0 (fun _ => 0) (pl_N A 0 3 0))) Z := by
  have hww := hW.1
  unfold pl_Wc at hww
  obtain ⟨Y, hY⟩ : ∃ Y, Y = pl_cM M r 0 := ⟨_, rfl⟩
  have hmoY : pl_mo M Y := by rw [hY]; exact pl_cM_mo M r 0
  have hSY := hmoY.sh hS
  have hYI : ∀ a, a ≠ 35 → a ≠ 36 → ml_I Y a = ml_I M a := fun a h1 h2 => by
    rw [hY]; unfold pl_cM
    rw [pl_I_wI, if_neg h2]; funext j; rw [pl_I_sI, if_neg (fun z => h1 z.1)]
  have hY36 : ml_I Y 36 = pl_z M r 48 := by rw [hY]; unfold pl_cM; rw [pl_I_wI, if_pos rfl]
  have hYJ : ml_J Y = ml_J M := by rw [hY]; rfl
  have hcle : ∀ i, pl_cnt (pl_mw A w) i ≤ i := fun i => pl_cnt_le _ i
  obtain ⟨G, hG⟩ : ∃ G, G = fun i => pl_mvf A w (48 * r) (ml_I Y 36) i := ⟨_, rfl⟩
  have hSg : ∀ g, pl_Sh (pl_wI Y 36 g) := fun g => hSY.wI 36 g
  have hout : ∀ i, i ≤ pl_N A 0 3 0 → ∀ y, ¬ (48 * r ≤ y ∧ y < 48 * r + 48) → G i y = ml_I M 36 y := fun i hi y hy => by
    have hc := hcle i
    rw [hG]
    show pl_mvf A w (48 * r) (ml_I Y 36) i y = _
    rw [pl_mvf_out _ _ _ _ _ (by omega), hY36]
    unfold pl_z
    rw [if_neg hy]
  have hkk : ∀ g, (∀ a ∈ [34, 38, 39, 40, 41, 42, 46, 51, 53, 60], ml_I (pl_wI Y 36 g) a = ml_I M a) ∧ (∀ k ∈ [0, 2, 9, 10, 11, 23, 24, 34, 37, 46], ml_I (pl_wI Y 36 g) 33 k = ml_I M 33 k) ∧ ml_J (pl_wI Y 36 g) 33 3 = ml_J M 33 3 := fun g => ⟨fun a ha => by
    have h9 : a ≠ 35 ∧ a ≠ 36 := by revert ha; revert a; decide
    rw [pl_I_wI, if_neg h9.2, hYI a h9.1 h9.2], fun k _ => by rw [pl_I_wI, if_neg (by decide), hYI 33 (by decide) (by decide)], by rw [pl_J_wI, hYJ]⟩
  have hMB : ∀ i, i ≤ pl_N A 0 3 0 → pl_M (pl_rA A r (0 + 1) (fun _ => 0)) (pl_wI Y 36 (G i)) := fun i hi => by
    refine pl_rowMM hM hW hr ?_ (g := G i) (by rw [pl_I_wI, if_pos rfl]) (hout i hi) (fun j hj => absurd hj (Nat.not_lt_zero j)) (hkk _)
    rw [pl_I_wI, if_neg (by decide), hY]; rfl
  have hWB : pl_W (pl_rA A r (0 + 1) (fun _ => 0)) := pl_rW hW (by decide)
  have howB : ∀ g, pl_ow2 (pl_rA A r (0 + 1) (fun _ => 0)) (pl_wI Y 36 g) w := fun g => ⟨ho.1, ho.2.1, fun t ht => by
    rw [pl_I_wI, if_neg (by decide), hYI 48 (by decide) (by decide)]; exact ho.2.2 t ht⟩
  have hmv : ∀ i, i < pl_N A 0 3 0 → fX11_isMoved 33 (nI i) (pl_wI Y 36 (G i)) = some (if pl_mw A w i = true then 1 else 0) := fun i hi => pl_isMvM (hSg _) hWB (hMB i (by omega)) (howB _) (i := i) hi
  have hmy : ∀ i, i < pl_N A 0 3 0 → ∀ l, l < pl_N A 0 0 0 → fX11_mayHave 33 (nI l) (nI i) (pl_wI Y 36 (G i)) = some (if pl_may A l i = true then 1 else 0) := fun i hi l hl => pl_mayM (hSg _) hWB (hMB i (by omega)) (l := l) (i := i) hl hi
  have k33 := pl_k33 hSY
  have k35 := pl_k35 hSY
  have k36 := pl_k36 hSY
  have k48 := pl_k48 hSY
  have r4 := pl_r33_4 hSY
  have r5 := pl_r33_5 hSY
  have r27 := pl_r33_27 hSY
  have e48 : (48 : Int32) = nI 48 := rfl
  have e2 : (2 : Int32) = nI 2 := rfl
  have e1 : (1 : Int32) = nI 1 := rfl
  have i24 : ∀ g, ml_I (pl_wI Y 36 g) 33 24 = nI (pl_N A 0 3 0) := fun g => by rw [pl_I_wI, if_neg (by decide), hYI 33 (by decide) (by decide)]; exact hM.1.2.2.2.1
  have i48 : ∀ g t, t < pl_N A 0 1 0 → ml_I (pl_wI Y 36 g) 48 t = nI (w.getD t 0) := fun g t ht => (howB g).2.2 t ht
  have h174 : ∀ (K : Nat → Nat → Int32 → Int32 → Int32 → ml_M → Option (Int32 × ml_M)) (fk i : Nat), i < pl_N A 0 3 0 → pl_mw A w i = true → fX11_moves_174 (K fk) ml_fu 33 (nI r) (nI (pl_cnt (pl_mw A w) i)) (nI i) 0 (pl_wI Y 36 (G i)) = K fk 33 (nI r) (nI (pl_cnt (pl_mw A w) (i + 1))) (nI (i + 1)) (pl_wI Y 36 (G (i + 1))) := fun K fk i hi hm => by
    have hlt := pl_mvt_lt hnd.1 hnd.2.2 hi
    have hci := hcle i
    have hp := pl_lst_p (fun t => pl_may A (w.getD t 0) i) (pl_N A 0 1 0)
    have hh := pl_for (F := fun fu t (_ : Unit) => fX11_moves_174 (K fk) fu 33 (nI r) (nI (pl_cnt (pl_mw A w) i)) (nI i) (nI t) (pl_wI Y 36 (G i))) (R := K fk 33 (nI r) (nI (pl_cnt (pl_mw A w) (i + 1))) (nI (i + 1)) (pl_wI Y 36 (G (i + 1)))) (pl_mvt A w i) (fun _ => ()) (fun fu t ht => ?_) (fun fu => ?_) ml_fu (by rw [pl_fu]; omega)
    · exact hh
    · show fX11_moves_174 (K fk) (fu + 1) 33 (nI r) (nI (pl_cnt (pl_mw A w) i)) (nI i) (nI t) (pl_wI Y 36 (G i)) = fX11_moves_174 (K fk) fu 33 (nI r) (nI (pl_cnt (pl_mw A w) i)) (nI i) (nI (t + 1)) (pl_wI Y 36 (G i))
      have hp0 : pl_may A (w.getD t 0) i = false := hp.2 t ht
      have gl := pl_get_lt ho.2.1 (t := t) (by rw [ho.1]; omega)
      have hmyt := hmy i hi _ gl
      rw [hp0, if_neg (by decide)] at hmyt
      have h48 := i48 (G i) t (by omega)
      simp (disch := omega) only [fX11_moves_174, ↓pl_let, pl_b1, pl_b2, ↓reduceIte, pl_K_wI, k33, if_true, pl_R_wI, r27, pl_in, nI_clamp, k48, show t < 8 by omega, and_self, h48, hmyt, nI_1]
    · have hp1 : pl_may A (w.getD (pl_mvt A w i) 0) i = true := hp.1 hlt
      have gl := pl_get_lt ho.2.1 (t := pl_mvt A w i) (by rw [ho.1]; omega)
      have hmyt := hmy i hi _ gl
      rw [hp1, if_pos rfl] at hmyt
      have h48 := i48 (G i) (pl_mvt A w i) hlt
      have hG1 : G (i + 1) = pl_up (pl_up (G i) (48 * r + 2 * pl_cnt (pl_mw A w) i) (nI i)) (48 * r + 2 * pl_cnt (pl_mw A w) i + 1) (nI (pl_mvt A w i)) := by
        rw [hG]
        show pl_mvf A w (48 * r) (ml_I Y 36) (i + 1) = _
        rw [pl_mvf1, if_pos hm]
      have hidx : (48 : Int32) * nI r + (2 : Int32) * nI (pl_cnt (pl_mw A w) i) = nI (48 * r + 2 * pl_cnt (pl_mw A w) i) := by rw [e48, e2, pk_mul, pk_mul, nI_add]
      rw [hG1, pl_cnt1, if_pos hm]
      simp (disch := omega) only [fX11_moves_174, fX11_moves_196, fX11_moves_233, ↓pl_let, pl_b1, pl_b2, ↓reduceIte, pl_K_wI, k33, if_true, pl_R_wI, r27, r5, pl_in, nI_clamp, k48, k36, show pl_mvt A w i < 8 by omega, and_self, h48, hmyt, pl_10, if_false, hidx, show 48 * r + 2 * pl_cnt (pl_mw A w) i < 288 by omega, pl_wI_sI, pl_up_0, nI_1, show 48 * r + 2 * pl_cnt (pl_mw A w) i + 1 < 288 by omega]
  have hh := pl_for (F := fun fu i (_ : Unit) => fX11_moves_153 fu 33 (nI r) (nI (pl_cnt (pl_mw A w) i)) (nI i) (pl_wI Y 36 (G i))) (R := some (nI (pl_moved A w), ml_sI (pl_wI Y 36 (G (pl_N A 0 3 0))) 35 r (nI (2 * pl_moved A w)))) (pl_N A 0 3 0) (fun _ => ()) (fun fu i hi => ?_) (fun fu => ?_) ml_fu (by rw [pl_fu]; omega)
  · have hm20 := pl_moved_le hW w
    refine ⟨ml_sI (pl_wI Y 36 (G (pl_N A 0 3 0))) 35 r (nI (2 * pl_moved A w)), ?_, (hmoY.wI (by decide)).sI (by decide), ?_⟩
    · have e0 : pl_wI Y 36 (G 0) = Y := by
        have : G 0 = ml_I Y 36 := by rw [hG]; rfl
        rw [this, pl_wI_0]
      rw [e0] at hh
      rw [← hY]
      exact hh
    · have hk := hkk (G (pl_N A 0 3 0))
      refine pl_rowMM hM hW hr ?_ (g := G (pl_N A 0 3 0)) ?_ (hout _ (Nat.le_refl _)) (fun j hj => ?_) ⟨fun a ha => ?_, fun k hk2 => ?_, ?_⟩
      · funext q
        rw [hY]
        unfold pl_cM
        rw [pl_I_sI, pl_I_wI, if_neg (show ¬ (35 : Nat) = 36 by decide), pl_I_wI, if_neg (show ¬ (35 : Nat) = 36 by decide), pl_I_wI, if_neg (show ¬ (35 : Nat) = 36 by decide), pl_I_sI, pl_I_sI]
        by_cases hq : 35 = 35 ∧ q = r
        · rw [if_pos hq, if_pos hq]
        · rw [if_neg hq, if_neg hq, if_neg hq]
      · funext q
        rw [pl_I_sI, if_neg (by omega), pl_I_wI, if_pos rfl]
      · rw [hG]
        exact pl_mvf_in A w (48 * r) (ml_I Y 36) (fun _ => 0) (pl_N A 0 3 0) j hj
      · have h9 : a ≠ 35 := by revert ha; revert a; decide
        rw [← hk.1 a ha]
        funext q
        rw [pl_I_sI, if_neg (fun z => h9 z.1)]
      · rw [← hk.2.1 k hk2, pl_I_sI, if_neg (by omega)]
      · rw [pl_J_sI]; exact hk.2.2
  · show fX11_moves_153 (fu + 1) 33 (nI r) (nI (pl_cnt (pl_mw A w) i)) (nI i) (pl_wI Y 36 (G i)) = fX11_moves_153 fu 33 (nI r) (nI (pl_cnt (pl_mw A w) (i + 1))) (nI (i + 1)) (pl_wI Y 36 (G (i + 1)))
    have hmi := hmv i hi
    by_cases hm : pl_mw A w i = true
    · rw [if_pos hm] at hmi
      rw [← h174 fX11_moves_153 fu i hi hm]
      simp (disch := omega) only [fX11_moves_153, ↓pl_let, pl_b1, pl_b2, ↓reduceIte, pl_K_wI, k33, if_true, i24, nI_leI, show ¬ pl_N A 0 3 0 ≤ i by omega, if_false, hmi, pl_10]
    · rw [if_neg hm] at hmi
      have hG1 : G (i + 1) = G i := by
        rw [hG]
        show pl_mvf A w (48 * r) (ml_I Y 36) (i + 1) = _
        rw [pl_mvf1, if_neg hm]
      rw [hG1, pl_cnt1, if_neg hm]
      simp (disch := omega) only [fX11_moves_153, fX11_moves_233, ↓pl_let, pl_b1, pl_b2, ↓reduceIte, pl_K_wI, k33, if_true, i24, nI_leI, show ¬ pl_N A 0 3 0 ≤ i by omega, if_false, hmi, nI_1]
  · have hm20 := pl_moved_le hW w
    simp (disch := omega) only [fX11_moves_153, fX11_moves_239, ↓pl_let, pl_b1, pl_b2, ↓reduceIte, pl_K_wI, k33, if_true, i24, nI_leI, Nat.le_refl, pl_mw_cnt, pl_R_wI, r4, pl_in, nI_clamp, k35, hr, and_self, e2, pk_mul]
theorem pl_op_moves (x0 x1 : Int32) : pl_Ok (fX10_moves 1 x0 x1) (fX11_moves 33 x0 x1) := by
  intro A m h
  have hS := h.1
  have hW := h.2.1
  have hM := h.2.2.1
  have hww := hW.1
  unfold pl_Wc at hww
  rcases pl_rng0 (x := x0) 5 (by decide) with hno | ⟨r, hr, rfl⟩
  · refine pl_Ok.same h (-1) ?_ ?_ <;> simp [fX10_moves, fX11_moves, ↓pl_let, pl_b1, pl_b2, ↓reduceIte, pl_isRow, pl_isRowM, hno]
  have hr5 : 0 ≤ nI r ∧ nI r ≤ nI 5 := ⟨nI_pos' (by omega), nI_le (by omega) (by decide)⟩
  rcases pl_rng0 (x := x1) 5 (by decide) with hno | ⟨s, hs, rfl⟩
  · refine pl_Ok.same h (-1) ?_ ?_
    · simp only [fX10_moves, ↓pl_let, pl_b1, pl_b2, ↓reduceIte, pl_isRow, hr5, and_self, if_true, pl_10, hno, if_false]
    · simp only [fX11_moves, ↓pl_let, pl_b1, pl_b2, ↓reduceIte, pl_isRowM, hr5, and_self, if_true, pl_10, hno, if_false]
  have hs5 : 0 ≤ nI s ∧ nI s ≤ nI 5 := ⟨nI_pos' (by omega), nI_le (by omega) (by decide)⟩
  have e1 : (1 : Int32) = nI 1 := rfl
  have e3 : (3 : Int32) = nI 3 := rfl
  have e5 : (5 : Int32) = nI 5 := rfl
  have hn60 := hS.2.2
  have h35 := (hM.2.1 r (by omega)).1
  rcases h.2.2.2.2.1.1 r (by omega) with ⟨hN, hR⟩ | ⟨hN, ⟨b1, b2, b3⟩, hf⟩
  · -- nothing there
    have hsz : pl_sz (pl_N A 8 r 0) = -1 := by unfold pl_sz; rw [if_pos hN]
    refine pl_Ok.found h (-3) 1 (by decide) ?_ fun M hSM hMM => ⟨M, ?_, pl_mo.refl M, hMM⟩
    · have hfd : fX10_found 1 (1 : Int32) m = some (-3, pl_fC m 1) := pl_found hS 1 (by decide)
      simp (disch := omega) only [fX10_moves, ↓pl_let, pl_b1, pl_b2, ↓reduceIte, pl_isRow, hr5, hs5, and_self, if_true, pl_10, if_false, pl_k1 hS, pl_r1_0 hS, pl_in, nI_clamp, pl_k2 hS, show r < 6 by omega, hR, hfd]
    · have hmt : fX11_meets 33 (1 : Int32) M = some (-3, pl_fM M 1) := pl_meets hSM 1 (by decide)
      have h35' := (hMM.2.1 r (by omega)).1
      rw [hsz] at h35'
      have hneg : ¬ (0 : Int32) ≤ -1 := by decide
      simp (disch := omega) only [fX11_moves, ↓pl_let, pl_b1, pl_b2, ↓reduceIte, pl_isRowM, hr5, hs5, and_self, if_true, pl_10, if_false, pl_k33 hSM, pl_r33_4 hSM, pl_in, nI_clamp, pl_k35 hSM, show r < 6 by omega, h35', hneg, hmt]
  · have hwr := hW.2.2.2.2.2.2.2.2.1 r (by omega)
    obtain ⟨a, ha⟩ : ∃ a, a = ml_R m 2 r := ⟨_, rfl⟩
    obtain ⟨n, hn⟩ : ∃ n, n + 1 = pl_N A 8 r 0 := ⟨pl_N A 8 r 0 - 1, by omega⟩
    have hsz : pl_sz (pl_N A 8 r 0) = nI n := by unfold pl_sz; rw [if_neg (by omega), ← hn]; rfl
    rw [← hn, Nat.add_sub_cancel] at b3
    rw [← ha] at b1 b2 b3 hf
    have ha0 : ¬ a = 0 := by omega
    obtain ⟨c1, c2, c3, c4, c5, c6, c7⟩ := h.2.2.2.2.2.2.1
    have hKH := c1.2.2
    by_cases hsize : n = pl_N A 0 1 0
    · -- the size is right
      obtain ⟨m1, d1, d2, d3, d4, d5, d6⟩ := pl_refrSx h
      have hS1 := d2.1
      have hxs : ∀ x ∈ pl_xsS, x ≤ 60 := by decide
      have ha1 : a ∉ pl_xsS := fun z => by have := hxs a z; omega
      have hKa : ml_K m1 a = (20, pl_N A 0 1 0) := by rw [d6.2.1 a b2, b3, hsize]
      have hIa : ml_I m1 a = ml_I m a := (d6.2.2 a b2 ha1).1
      have hK1 : (ml_K m a).1 = 20 := by rw [b3]
      have hK2 : Int32.ofNat (ml_K m a).2 = nI (pl_N A 0 1 0) := by rw [b3, pl_ofN, hsize]
      have hC0 : ∀ {R : Option (Int32 × ml_M)}, fX7_isSharing 12 a m1 = R → fX10_moves 1 (nI r) (nI s) m = ml_b2 R fun r2720 m2721 => if r2720 = 0 then (if (ml_K m2721 1).1 = 10 then ml_b2 (fX10_found 1 (3 : Int32) m2721) fun r2730 m2731 => some (r2730, m2731) else none) else if (ml_K m2721 1).1 = 10 then (if ml_len ((2 : Int32) * (ml_I m2721 1 5)) then ml_let (ml_n m2721 + 1) fun a2724 => ml_let (ml_al m2721 20 ((2 : Int32) * (ml_I m2721 1 5)).toNatClampNeg ((2 : Int32) * (ml_I m2721 1 5)).toNatClampNeg) fun m2725 => fX10_moves_88 ml_fu 1 (nI s) a a2724 (0 : Int32) (0 : Int32) m2725 else none) else none := fun {R} hR => by
        rw [← hR]
        simp (disch := omega) only [fX10_moves, ↓pl_let, pl_b1, pl_b2, ↓reduceIte, pl_isRow, hr5, hs5, and_self, if_true, pl_10, if_false, pl_k1 hS, pl_r1_0 hS, pl_in, nI_clamp, pl_k2 hS, show r < 6 by omega, ← ha, ha0, hK1, hK2, hKH, c5, d1, pl_k1 hS1, pl_r1_12 hS1, pl_k12 hS1]
      have hfitm : ∀ w, pl_isS A (ml_I m1 a) w ↔ pl_isS A (pl_V A 0 r) w := fun w => by
        have hfe : ∀ j, j < pl_N A 0 1 0 → ml_I m1 a j = pl_V A 0 r j := fun j hj => by rw [hIa]; exact hf j (by omega)
        constructor
        · rintro ⟨z1, ⟨z2, z3, z4⟩, z5⟩
          exact ⟨z1, ⟨z2, z3, fun i hi => by rw [← hfe i (by omega)]; exact z4 i hi⟩, z5⟩
        · rintro ⟨z1, ⟨z2, z3, z4⟩, z5⟩
          exact ⟨z1, ⟨z2, z3, fun i hi => by rw [hfe i (by omega)]; exact z4 i hi⟩, z5⟩
      have hMstart : ∀ M, pl_Sh M → pl_M A M → fX11_moves 33 (nI r) (nI s) M = fX11_moves_55 ml_fu 33 (nI r) (nI s) 1 0 M := fun M hSM hMM => by
        have h35' := (hMM.2.1 r (by omega)).1
        rw [hsz] at h35'
        have h10 := hMM.1.2.1
        have hpos : (0 : Int32) ≤ nI (pl_N A 0 1 0) := nI_pos' (by omega)
        simp (disch := omega) only [fX11_moves, ↓pl_let, pl_b1, pl_b2, ↓reduceIte, pl_isRowM, hr5, hs5, and_self, if_true, pl_10, if_false, pl_k33 hSM, pl_r33_4 hSM, pl_in, nI_clamp, pl_k35 hSM, show r < 6 by omega, h35', h10, hsize, hpos]
      have hMunlike : ∀ M, pl_Sh M → ∀ l2, fX11_moves_124 33 l2 0 M = some (-3, pl_fM M 3) := fun M hSM l2 => by
        have hmt : fX11_meets 33 (3 : Int32) M = some (-3, pl_fM M 3) := pl_meets hSM 3 (by decide)
        simp only [fX11_moves_124, fX11_moves_135, if_true, pl_k33 hSM, hmt, ↓pl_let, pl_b1, pl_b2, ↓reduceIte]
      have hsh := pl_isShC d2 d5 b1 hKa
      rcases hsh with ⟨w, c, hw, he⟩ | ⟨hnw, c, he⟩
      · -- a sharing
        have hw' := (hfitm w).mp hw
        have d20 := d2.c20 c
        obtain ⟨m2, hm2⟩ : ∃ m2, m2 = pl_wI m1 20 c := ⟨_, rfl⟩
        rw [← hm2] at d20 he
        have hS2 := d20.1
        have hn2 : ml_n m2 = ml_n m := by rw [hm2, pl_n_wI, d3]
        have hs2 : ml_s m2 = ml_s m := by rw [hm2, pl_s_wI, d4]
        have hKa2 : ml_K m2 a = (20, pl_N A 0 1 0) := by rw [hm2, pl_K_wI, hKa]
        have hIa2 : ml_I m2 a = ml_I m1 a := by rw [hm2, pl_I_wI, if_neg (by omega)]
        have hw2 : pl_isS A (ml_I m2 a) w := by rw [hIa2]; exact hw
        have hmc := pl_movesC d20 (a := a) ⟨b1, by omega⟩ hKa2 hw2 (nI s)
        have h15 : ml_I m2 1 5 = nI (pl_N A 0 3 0) := d20.2.2.2.1.2.1
        have e2 : (2 : Int32) = nI 2 := rfl
        have hlen := pl_len (n := 2 * pl_N A 0 3 0) (by omega)
        obtain ⟨m3, hm3⟩ : ∃ m3, m3 = pl_wI (ml_al m2 20 (2 * pl_N A 0 3 0) (2 * pl_N A 0 3 0)) (ml_n m2 + 1) (pl_mvf A w 0 (fun _ => 0) (pl_N A 0 3 0)) := ⟨_, rfl⟩
        have d3' : pl_Rel A m3 := by rw [hm3]; exact pl_alR d20 _ _
        rw [← hm3] at hmc
        have hn3 : ml_n m3 = ml_n m + 1 := by rw [hm3, pl_n_wI, pl_n_al, hn2]
        have hs3 : ml_s m3 = ml_s m + 2 * pl_N A 0 3 0 := by rw [hm3, pl_s_wI, pl_s_al, hs2]
        have hm20 := pl_moved_le hW w
        have hmn : pl_moved A w ≤ pl_N A 0 3 0 := pl_cnt_le _ _
        have hKb : ml_K m3 (ml_n m + 1) = (20, 2 * pl_N A 0 3 0) := by rw [hm3, pl_K_wI, ← hn2, pl_K_aln]
        have hIb : ml_I m3 (ml_n m + 1) = pl_mvf A w 0 (fun _ => 0) (pl_N A 0 3 0) := by rw [hm3, pl_I_wI, hn2, if_pos rfl]
        obtain ⟨m4, f1, f2, f3, f4, f5, f6, f7, f8⟩ := pl_copyOf (m := m3) (a := ml_n m + 1) (L := 2 * pl_N A 0 3 0) (n := 2 * pl_moved A w) hKb (by omega) (by omega) (by omega) (by omega)
        have hd := pl_rowC d3' (r := s) (n := 2 * pl_moved A w) (f := pl_mvf A w 0 (fun _ => 0) (pl_N A 0 3 0)) (by omega) f6 f7 f8 (c := ml_n m3 + 1) ⟨by omega, by omega⟩ f4 (fun j hj => by rw [f5 j hj, hIb])
        have hS3 := d3'.1
        have hS4 : pl_Sh m4 := f6.sh hS3 (fun q _ hq => by simp at hq)
        have hK4 : ml_K m4 (ml_n m3 + 1) = (20, 2 * pl_moved A w) := f4
        have h169 : fX10_moves_169 1 (nI s) (ml_n m2 + 1) (nI (2 * pl_moved A w)) m3 = some (nI (pl_moved A w), ml_sR m4 2 s (ml_n m3 + 1)) := by
          rw [hn2]
          simp (disch := omega) only [fX10_moves_169, ↓pl_let, pl_b1, pl_b2, ↓reduceIte, pl_k1 hS3, if_true, pl_r1_0 hS3, f1, hK4, pl_in, nI_clamp, pl_k2 hS4, show s < 6 by omega, and_self, e2, pk_div, show 2 * pl_moved A w / 2 = pl_moved A w by omega]
        have hC1 : fX10_moves 1 (nI r) (nI s) m = some (nI (pl_moved A w), ml_sR m4 2 s (ml_n m3 + 1)) := by
          rw [hC0 he, pl_b2, if_neg (show ¬ (1 : Int32) = 0 by decide), pl_k1 hS2, if_pos rfl, h15, e2, pk_mul, if_pos hlen, pl_let, pl_let, nI_clamp (by omega), hmc, h169]
        refine pl_Ok.mk hd hC1 (by rw [pl_n_sR, f2, hn3]; omega) (by rw [pl_s_sR, f3, hs3]; omega) (pl_rW hW (by omega)) fun M hSM hMM => ?_
        rw [hMstart M hSM hMM]
        rcases pl_moves55 hSM hW hMM (r := r) (by omega) (by omega) (nI s) with ⟨w', y1, y2, y3⟩ | ⟨y1, -⟩
        · have hww' : w' = w := by
            obtain ⟨v, hv⟩ := pl_fit_app hW hw'.2.1 y2 (by rw [hw'.1, y1]; exact Nat.le_refl _)
            have hv0 : v = [] := by
              have hl := y1
              rw [hv, List.length_append, hw'.1] at hl
              exact List.eq_nil_of_length_eq_zero (by omega)
            rw [hv, hv0, List.append_nil]
          obtain ⟨Q, hQ⟩ : ∃ Q, Q = pl_wI M 48 (pl_oo M (pl_V A 0 r) (pl_N A 0 1 0)) := ⟨_, rfl⟩
          rw [← hQ] at y3
          have hmoQ : pl_mo M Q := by rw [hQ]; exact (pl_mo.refl M).wI (by decide)
          have hSQ := hmoQ.sh hSM
          have hMQ : pl_M A Q := by rw [hQ]; exact ((pl_kp.refl M).wI (by decide)).M hMM
          have howQ : pl_ow2 A Q w := ⟨hw'.1, hw'.2.1.2.1, fun i hi => by
            rw [hQ, pl_I_wI, if_pos rfl]
            show (if i < pl_N A 0 1 0 then pl_V A 0 r i else ml_I M 48 i) = _
            rw [if_pos hi]
            exact hw'.2.1.2.2 i (by rw [hw'.1]; exact hi)⟩
          have hsM := pl_isShM hSQ hW hMQ howQ
          rw [if_pos hw'.2.2] at hsM
          have hcl := pl_clear hSQ s (show s < 6 by omega) 0
          obtain ⟨Z, g1, g2, g3⟩ := pl_moves153 hSQ hW hMQ howQ ⟨hw'.1, ⟨hw'.2.1.1, hw'.2.1.2.1, fun _ _ => rfl⟩, hw'.2.2⟩ (r := s) (by omega)
          refine ⟨Z, ?_, hmoQ.trans g2, g3⟩
          rw [y3, ← g1]
          simp only [fX11_moves_124, pl_10, if_false, pl_k33 hSQ, if_true, hsM, ↓pl_let, pl_b1, pl_b2, ↓reduceIte, hcl]
        · exact absurd ⟨hw'.1, hw'.2.1⟩ (y1 w)
      · -- not a sharing
        have d20 := d2.c20 c
        obtain ⟨m2, hm2⟩ : ∃ m2, m2 = pl_wI m1 20 c := ⟨_, rfl⟩
        rw [← hm2] at d20 he
        have hS2 := d20.1
        have hn2 : ml_n m2 = ml_n m := by rw [hm2, pl_n_wI, d3]
        have hs2 : ml_s m2 = ml_s m := by rw [hm2, pl_s_wI, d4]
        have hC1 : fX10_moves 1 (nI r) (nI s) m = some (-3, pl_fC m2 3) := by
          have hfd : fX10_found 1 (3 : Int32) m2 = some (-3, pl_fC m2 3) := pl_found hS2 3 (by decide)
          rw [hC0 he, pl_b2, if_pos rfl, pl_k1 hS2, if_pos rfl, hfd, pl_b2]
        have hok := pl_Ok.found (c := fun _ => fX10_moves 1 (nI r) (nI s) m) (r := fX11_moves 33 (nI r) (nI s)) d20 (-3) 3 (by decide) hC1 fun M hSM hMM => ?_
        · rw [hn2, hs2] at hok
          exact hok
        · rw [hMstart M hSM hMM]
          rcases pl_moves55 hSM hW hMM (r := r) (by omega) (by omega) (nI s) with ⟨w', y1, y2, y3⟩ | ⟨y1, o, y3⟩
          · obtain ⟨Q, hQ⟩ : ∃ Q, Q = pl_wI M 48 (pl_oo M (pl_V A 0 r) (pl_N A 0 1 0)) := ⟨_, rfl⟩
            rw [← hQ] at y3
            have hmoQ : pl_mo M Q := by rw [hQ]; exact (pl_mo.refl M).wI (by decide)
            have hSQ := hmoQ.sh hSM
            have hMQ : pl_M A Q := by rw [hQ]; exact ((pl_kp.refl M).wI (by decide)).M hMM
            have howQ : pl_ow2 A Q w' := ⟨y1, y2.2.1, fun i hi => by
              rw [hQ, pl_I_wI, if_pos rfl]
              show (if i < pl_N A 0 1 0 then pl_V A 0 r i else ml_I M 48 i) = _
              rw [if_pos hi]
              exact y2.2.2 i (by omega)⟩
            have hsM := pl_isShM hSQ hW hMQ howQ
            have hng : ¬ pl_good A w' = true := fun z => hnw w' ((hfitm w').mpr ⟨y1, y2, z⟩)
            rw [if_neg hng] at hsM
            refine ⟨Q, ?_, hmoQ, hMQ⟩
            have hmt : fX11_meets 33 (3 : Int32) Q = some (-3, pl_fM Q 3) := pl_meets hSQ 3 (by decide)
            rw [y3]
            simp only [fX11_moves_124, fX11_moves_135, pl_10, if_false, pl_k33 hSQ, if_true, hsM, ↓pl_let, pl_b1, pl_b2, ↓reduceIte, hmt]
          · refine ⟨pl_wI M 48 o, ?_, (pl_mo.refl M).wI (by decide), ((pl_kp.refl M).wI (by decide)).M hMM⟩
            rw [y3, hMunlike _ (hSM.wI 48 o)]
    · -- another size
      have hK1 : (ml_K m a).1 = 20 := by rw [b3]
      have hK2 : Int32.ofNat (ml_K m a).2 = nI n := by rw [b3, pl_ofN]
      refine pl_Ok.found h (-3) 5 (by decide) ?_ fun M hSM hMM => ⟨M, ?_, pl_mo.refl M, hMM⟩
      · have hfd : fX10_found 1 (5 : Int32) m = some (-3, pl_fC m 5) := pl_found hS 5 (by decide)
        simp (disch := omega) only [fX10_moves, ↓pl_let, pl_b1, pl_b2, ↓reduceIte, pl_isRow, hr5, hs5, and_self, if_true, pl_10, if_false, pl_k1 hS, pl_r1_0 hS, pl_in, nI_clamp, pl_k2 hS, show r < 6 by omega, ← ha, ha0, hK1, hK2, hKH, c5, nI_eq, hsize, hfd]
      · have hmt : fX11_meets 33 (5 : Int32) M = some (-3, pl_fM M 5) := pl_meets hSM 5 (by decide)
        have h35' := (hMM.2.1 r (by omega)).1
        rw [hsz] at h35'
        have h10 := hMM.1.2.1
        have hpos : (0 : Int32) ≤ nI n := nI_pos' (by omega)
        simp (disch := omega) only [fX11_moves, ↓pl_let, pl_b1, pl_b2, ↓reduceIte, pl_isRowM, hr5, hs5, and_self, if_true, pl_10, if_false, pl_k33 hSM, pl_r33_4 hSM, pl_in, nI_clamp, pl_k35 hSM, show r < 6 by omega, h35', hpos, h10, nI_eq, hsize, hmt]

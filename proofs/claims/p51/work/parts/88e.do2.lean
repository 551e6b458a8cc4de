/-! WHAT EACH CALL DOES, on: thing, fault, book. -/
theorem pd_thing (A : pl_A) {k a b X Y : Nat} (x y : Int32) (hc : pl_N A 0 3 0 < 20) (hk : 1 ≤ k ∧ k ≤ 5) (hab : a ≤ b) (hb : b ≤ 99) (hX : X ≤ 9999) (hY : Y ≤ 9) (ht : ∀ m, fX10_numberOf (nI k) x y m = some (nI X)) (h3 : k = 3 → y = nI Y ∧ Y < pl_N A 0 0 0) (hn3 : k ≠ 3 → Y = 0) : pl_Do (fX10_thing 1 (nI k) (nI a) (nI b) x y) A (nI (pl_N A 0 3 0)) (pl_sR A 4 (pl_N A 0 3 0) (pl_7 k a b X Y) 3 (pl_N A 0 3 0 + 1)) := by
  intro m h
  have hS := h.1
  have hW := h.2.1
  have hw := hW.1
  unfold pl_Wc at hw
  have hC := h.2.2.2
  have hn60 := hS.2.2
  have yy : fX10_areYears (nI a) (nI b) m = some 1 := by
    simp (disch := omega) only [fX10_areYears, pl_lt0, if_false, nI_ltI, show ¬ b < a by omega, pl_l1, pl_l2, pl_l3, pl_l4, pl_l5, pl_l6, pl_l7, pl_l8, pl_l9, pl_l10, pl_l11, pl_l12, pl_l13, pl_l14, pl_l15, pl_l16, pl_l17, pl_l18, pl_l19, pl_l20, pl_l21, pl_l22, pl_l23, pl_l24, pl_l25, pl_l26, pl_l27, pl_l28, pl_l29, pl_l30, pl_l31, pl_l32, pl_l33, pl_l34, pl_l35, pl_l36, pl_l37, pl_l38, pl_l39, pl_l40, pl_l41, pl_l42, pl_l43, pl_l44, pl_l45, pl_l46, pl_l47, pl_l48, pl_l49, pl_l50, pl_l51, pl_l52, pl_l53, pl_l54, pl_l55, pl_l56, pl_l57, pl_l58, pl_l59, pl_l60, pl_l61, pl_l62, pl_l63, pl_l64, pl_l99, pl_l100, pl_l119, pl_l120, pl_l255, pl_l256, pl_l999, pl_l1000, pl_l1023, pl_l1024, pl_l1111, pl_l5555, pl_l10240, show ¬ 99 < b by omega]
  have hneg : ¬ nI X = -1 := fun z => by
    have z2 : nI X = - nI 1 := z
    rw [pl_neg (by omega) (by omega)] at z2
    exact z2
  have hcl : fX10_thing 1 (nI k) (nI a) (nI b) x y m = fX10_thing_44 1 (nI k) (nI a) (nI b) y (nI X) m := by
    by_cases hk3 : k = 3
    · obtain ⟨e1, e2⟩ := h3 hk3
      subst hk3
      have hl : fX10_isLodger 1 y m = some 1 := by rw [e1, pl_isLod hS hW hC, if_pos (of_eq_true (pl_rng1t e2 (by omega)))]
      simp only [fX10_thing, ↓pl_let, pl_b1, pl_b2, ↓reduceIte, yy, ht, hneg, pl_l3, hl, pl_k1 hS, if_true, if_false]
      rw [if_neg (by decide), if_neg (by decide)]
    · have : ¬ nI k = nI 3 := fun z => hk3 ((nI_eq (by omega) (by omega)).mp z)
      simp only [fX10_thing, ↓pl_let, pl_b1, pl_b2, ↓reduceIte, yy, ht, hneg, pl_l3, this, if_false]
      rw [if_neg (by decide)]
  refine pd_mk (v := nI (pl_N A 0 3 0)) (pl_gC_md h (k := k) (a := a) (b := b) (X := X) (Y := Y) hc hn3 _ rfl) ?_ ?_ ?_ (pl_gW hW hc hk hab hb hX hY)
  · rw [hcl]
    have e := pl_thing77 h hc hk (show a ≤ 99 by omega) hb hX hY (if k = 3 then nI Y else -9) rfl
    simp (disch := omega) only [fX10_thing_44, ↓pl_let, pl_b1, pl_b2, ↓reduceIte, pl_k1 hS, pl_k2 hS, pl_k3 hS, pl_k8 hS, pl_k9 hS, pl_k10 hS, pl_k11 hS, pl_k12 hS, pl_k13 hS, pl_k14 hS, pl_k15 hS, pl_k16 hS, pl_k17 hS, pl_k18 hS, pl_k19 hS, pl_k20 hS, pl_k21 hS, pl_k22 hS, pl_k23 hS, pl_k24 hS, pl_k25 hS, pl_k26 hS, pl_k27 hS, pl_k28 hS, pl_k29 hS, pl_k30 hS, pl_k31 hS, pl_k32 hS, pl_r1_0 hS, pl_r1_1 hS, pl_r1_4 hS, pl_r1_6 hS, pl_r1_8 hS, pl_r1_10 hS, pl_r1_12 hS, pl_r1_13 hS, pl_r1_14 hS, pl_r1_18 hS, pl_r12_2 hS, pl_r12_3 hS, pl_r12_4 hS, pl_r12_8 hS, pl_r12_9 hS, pl_r12_10 hS, pl_r12_11 hS, pl_r12_12 hS, pl_r21_3 hS, pl_r21_5 hS, pl_r21_6 hS, pl_r21_7 hS, pl_r26_0 hS, pl_r26_2 hS, pl_r26_3 hS, pl_r26_4 hS, pl_r26_5 hS, hC.1.1, hC.1.2.1, hC.1.2.2.1, hC.1.2.2.2.1, hC.1.2.2.2.2.1, pl_l1, pl_l2, pl_l3, pl_l4, pl_l5, pl_l6, pl_l7, pl_l8, pl_l9, pl_l10, pl_l11, pl_l12, pl_l13, pl_l14, pl_l15, pl_l16, pl_l17, pl_l18, pl_l19, pl_l20, pl_l21, pl_l22, pl_l23, pl_l24, pl_l25, pl_l26, pl_l27, pl_l28, pl_l29, pl_l30, pl_l31, pl_l32, pl_l33, pl_l34, pl_l35, pl_l36, pl_l37, pl_l38, pl_l39, pl_l40, pl_l41, pl_l42, pl_l43, pl_l44, pl_l45, pl_l46, pl_l47, pl_l48, pl_l49, pl_l50, pl_l51, pl_l52, pl_l53, pl_l54, pl_l55, pl_l56, pl_l57, pl_l58, pl_l59, pl_l60, pl_l61, pl_l62, pl_l63, pl_l64, pl_l99, pl_l100, pl_l119, pl_l120, pl_l255, pl_l256, pl_l999, pl_l1000, pl_l1023, pl_l1024, pl_l1111, pl_l5555, pl_l10240, nI_ltI, hc, nI_eq]
    by_cases hk3 : k = 3
    · rw [if_pos hk3] at e
      rw [if_pos hk3, (h3 hk3).1]
      exact e
    · rw [if_neg hk3] at e
      rw [if_neg hk3]
      exact e
  · unfold pl_gC; simp only [pl_n_sI, pl_n_sR, (pl_gI_f hn60 k a b X Y).2.1]; omega
  · unfold pl_gC pl_gI; simp only [pl_s_sI, pl_s_sR, pl_s_al]; omega
theorem pd_fault (A : pl_A) {r L : Nat} (hr : r ≤ 3) (hN0 : pl_N A 9 r 0 = L + 1) : pl_Do (fX10_fault 1 (nI r)) A (pl_e4 (pl_rdb (pl_V A 1 r) L (pl_b0 A) L).2.2) A := by
  intro m h
  have hS := h.1
  have hW := h.2.1
  have e1 : (1 : Int32) = nI 1 := rfl
  have hr3 : 0 ≤ nI r ∧ nI r ≤ nI 3 := ⟨nI_pos' (by omega), nI_le (by omega) (by decide)⟩
  rcases pl_bookR h (r := r) (by omega) with ⟨hN, hR⟩ | ⟨L', hN, hL, hR0, Z0, Z, z1, z2, z3, z4⟩
  · omega
  have : L = L' := by omega
  subst this
  have hsz : pl_sz (pl_N A 9 r 0) = nI L := by unfold pl_sz; rw [if_neg (by omega), hN]; rfl
  obtain ⟨⟨a1, a2, a3, a4, a5, a6⟩, ⟨q1, -⟩, -, ⟨d1, d2, d3⟩, ⟨-, -, -, -, e5⟩, -⟩ := z4
  have hBW := (pl_rdb_ok (f := pl_V A 1 r) (L := L) (pl_b0W A) L).1.1
  have hd : pl_Md A A Z := h.md.gb a1 a2 a3
  have i4 : ml_I Z (ml_n m + 1) 4 = pl_e4 (pl_rdb (pl_V A 1 r) L (pl_b0 A) L).2.2 := by rw [← e5, pl_bs_4]
  have k0 : (ml_K Z (ml_n m + 1)).1 = 1 := by rw [q1]
  have hC1 : fX10_fault 1 (nI r) m = some (pl_e4 (pl_rdb (pl_V A 1 r) L (pl_b0 A) L).2.2, Z) := by
    simp (disch := omega) only [fX10_fault, ↓pl_let, pl_b1, pl_b2, ↓reduceIte, pl_isText, hr3, and_self, if_true, pl_10, if_false, pl_k1 hS, pl_r1_1 hS, pl_in, nI_clamp, pl_k3 hS, show r < 4 by omega, hR0, z1, z2, z3, k0, i4]
  exact pd_mk hd hC1 (by omega) (by omega) hW
theorem pd_book (A : pl_A) {r L : Nat} (hr : r ≤ 3) (hN0 : pl_N A 9 r 0 = L + 1) (h0 : (pl_rdb (pl_V A 1 r) L (pl_b0 A) L).2.2 = 0) : pl_Do (fX10_book 1 (nI r)) A (nI (pl_N (pl_rdb (pl_V A 1 r) L (pl_b0 A) L).1 0 1 0)) (pl_rdb (pl_V A 1 r) L (pl_b0 A) L).1 := by
  intro m h
  have hS := h.1
  have hW := h.2.1
  have hn60 := hS.2.2
  have hr3 : 0 ≤ nI r ∧ nI r ≤ nI 3 := ⟨nI_pos' (by omega), nI_le (by omega) (by decide)⟩
  rcases pl_bookR h (r := r) (by omega) with ⟨hN, hR⟩ | ⟨L', hN, hL, hR0, Z0, Z, z1, z2, z3, z4⟩
  · omega
  have : L = L' := by omega
  subst this
  have hsz : pl_sz (pl_N A 9 r 0) = nI L := by unfold pl_sz; rw [if_neg (by omega), hN]; rfl
  obtain ⟨b, hb⟩ : ∃ b, b = ml_n m + 1 := ⟨_, rfl⟩
  rw [← hb] at z1 z2 z3 z4
  obtain ⟨B, hB⟩ : ∃ B, B = (pl_rdb (pl_V A 1 r) L (pl_b0 A) L).1 := ⟨_, rfl⟩
  obtain ⟨s, hs⟩ : ∃ s, s = (pl_rdb (pl_V A 1 r) L (pl_b0 A) L).2 := ⟨_, rfl⟩
  have hBW : pl_BW B := by rw [hB]; exact (pl_rdb_ok (f := pl_V A 1 r) (L := L) (pl_b0W A) L).1
  have hsm : pl_smB A B := by rw [hB]; exact pl_rdb_sm A (pl_V A 1 r) L L
  rw [← hB, ← hs] at z4
  obtain ⟨⟨a1, a2, a3, a4, a5, a6⟩, ⟨q1, -⟩, ⟨c1, c2, c3, c4⟩, ⟨d1, d2, d3⟩, ⟨e1, e2, -, e4, e5⟩, hl, ht, -⟩ := z4
  have hBW1 := hBW.1
  have i4 : ml_I Z b 4 = pl_e4 s.2 := by rw [← e5, pl_bs_4]
  have he4 := pl_e4_n (e := s.2) (by have := e4.2; omega)
  have k0 : (ml_K Z b).1 = 1 := by rw [q1]
  have hd : pl_Md A A Z := h.md.gb a1 a2 a3
  have hSZ := hd.1
  have hpos : (0 : Int32) ≤ nI L := nI_pos' (by omega)
  have c0 : s.2 = 0 := by rw [hs]; exact h0
  have i4' : ml_I Z b 4 = -9 := by rw [i4, c0]; rfl
  obtain ⟨n3, n4, n5, n6, n7, n8⟩ : pl_N B 0 3 0 = 0 ∧ pl_N B 0 4 0 = 0 ∧ pl_N B 0 5 0 = 0 ∧ pl_N B 0 6 0 = 0 ∧ pl_N B 0 7 0 = pl_N A 0 7 0 ∧ pl_N B 0 8 0 = pl_N A 0 8 0 := ⟨hsm.2.1 3 (by decide), hsm.2.1 4 (by decide), hsm.2.1 5 (by decide), hsm.2.1 6 (by decide), hsm.2.1 7 (by decide), hsm.2.1 8 (by decide)⟩
  have hV : pl_V B = pl_V A := by funext g i k; show B.2.1 g i k = A.2.1 g i k; rw [hsm.2.2]
  have hLL : pl_L B = pl_L A := by show B.2.2 = A.2.2; rw [hsm.2.2]
  obtain ⟨W, hWd⟩ : ∃ W, W = ml_sI (ml_sI (ml_sI (ml_sI (ml_sI (ml_sI (ml_sR Z 1 2 b) 1 5 0) 1 7 0) 1 9 0) 1 11 0) 12 0 1) 21 0 1 := ⟨_, rfl⟩
  have nW : ml_n W = ml_n Z := by rw [hWd]; rfl
  have sW : ml_s W = ml_s Z := by rw [hWd]; rfl
  have JW : ml_J W = ml_J Z := by rw [hWd]; rfl
  have KW : ml_K W = ml_K Z := by rw [hWd]; rfl
  have RW : ∀ t j, ml_R W t j = if t = 1 ∧ j = 2 then b else ml_R Z t j := fun t j => by rw [hWd, pl_R_sI, pl_R_sI, pl_R_sI, pl_R_sI, pl_R_sI, pl_R_sI, pl_R_sR]
  have IW : ∀ t j, ml_I W t j = if t = 21 ∧ j = 0 then 1 else if t = 12 ∧ j = 0 then 1 else if t = 1 ∧ (j = 5 ∨ j = 7 ∨ j = 9 ∨ j = 11) then 0 else ml_I Z t j := fun t j => by
    rw [hWd, pl_I_sI, pl_I_sI, pl_I_sI, pl_I_sI, pl_I_sI, pl_I_sI, pl_I_sR]
    by_cases t1 : t = 1
    · by_cases j5 : j = 5 ∨ j = 7 ∨ j = 9 ∨ j = 11
      · rw [if_neg (show ¬ (t = 21 ∧ j = 0) by omega), if_neg (show ¬ (t = 12 ∧ j = 0) by omega), if_neg (show ¬ (t = 21 ∧ j = 0) by omega), if_neg (show ¬ (t = 12 ∧ j = 0) by omega), if_pos (show t = 1 ∧ (j = 5 ∨ j = 7 ∨ j = 9 ∨ j = 11) from ⟨t1, j5⟩)]
        rcases j5 with j5 | j5 | j5 | j5
        · rw [if_neg (by omega), if_neg (by omega), if_neg (by omega), if_pos ⟨t1, j5⟩]
        · rw [if_neg (by omega), if_neg (by omega), if_pos ⟨t1, j5⟩]
        · rw [if_neg (by omega), if_pos ⟨t1, j5⟩]
        · rw [if_pos ⟨t1, j5⟩]
      · rw [if_neg (show ¬ (t = 1 ∧ (j = 5 ∨ j = 7 ∨ j = 9 ∨ j = 11)) from fun q => j5 q.2), if_neg (show ¬ (t = 1 ∧ j = 11) by omega), if_neg (show ¬ (t = 1 ∧ j = 9) by omega), if_neg (show ¬ (t = 1 ∧ j = 7) by omega), if_neg (show ¬ (t = 1 ∧ j = 5) by omega)]
    · rw [if_neg (show ¬ (t = 1 ∧ (j = 5 ∨ j = 7 ∨ j = 9 ∨ j = 11)) from fun q => t1 q.1), if_neg (show ¬ (t = 1 ∧ j = 11) from fun q => t1 q.1), if_neg (show ¬ (t = 1 ∧ j = 9) from fun q => t1 q.1), if_neg (show ¬ (t = 1 ∧ j = 7) from fun q => t1 q.1), if_neg (show ¬ (t = 1 ∧ j = 5) from fun q => t1 q.1)]
  have Iz : ∀ t, t ≠ 1 → t ≠ 12 → t ≠ 21 → ml_I W t = ml_I Z t := fun t h1 h2 h3 => by
    funext j; rw [IW, if_neg (by omega), if_neg (by omega), if_neg (by omega)]
  have hxW : pl_ex [1, 12, 21] m W := by
    refine ⟨by rw [nW]; exact a1.1, fun t ht => by rw [KW]; exact a1.2.1 t ht, fun t ht hn => ?_⟩
    simp only [List.mem_cons, List.not_mem_nil, or_false, not_or] at hn
    obtain ⟨y1, y2⟩ := a1.2.2 t ht (by simp)
    refine ⟨by rw [Iz t hn.1 hn.2.1 hn.2.2]; exact y1, ?_⟩
    rw [← y2]
    funext j
    rw [RW, if_neg (fun q => hn.1 q.1)]
  have hcoW : pl_co m W := fun t h1 h2 => ⟨by rw [Iz t (by omega) (by omega) (by omega)]; exact (a2 t h1 h2).1, by rw [JW]; exact (a2 t h1 h2).2⟩
  have hSW : pl_Sh W := by
    refine hxW.sh hS (fun q hq hm => ?_)
    have h0 : ∀ q ∈ pl_rt, ¬ (q.1 = 1 ∧ q.2.1 = 2) := by decide
    have hq60 : ∀ q ∈ pl_rt, q.1 ≤ 60 := by decide
    rw [RW, if_neg (h0 q hq), (a1.2.2 q.1 (by have := hq60 q hq; omega) (by simp)).2]
  obtain ⟨hCb, hCr, hCt, hCh, hCi, hCn, hCk, hCs, hCy⟩ := h.2.2.2
  have hZ1 : ∀ k, ml_I Z 1 k = ml_I m 1 k := fun k => by rw [(a1.2.2 1 (by omega) (by simp)).1]
  have hCW : pl_C B W := by
    have hk60 : ∀ a ∈ [1, 12, 21], a ≤ 60 := by decide
    refine ⟨?_, hCr.fr hS hxW (by decide) (fun a ha => Or.inl (hk60 a ha)) (hsm.1 8 (by decide)) (by rw [hV]), hCt.fr hS hxW (by decide) (fun a ha => Or.inl (hk60 a ha)) (hsm.1 9 (by decide)) (by rw [hV]), ?_, ⟨fun i hi => by omega, fun i j hi => by omega⟩, ⟨fun i hi => by omega, fun i hi => by omega⟩, fun i hi => by omega, Or.inl ?_, ⟨Or.inl ?_, ?_⟩⟩
    · unfold pl_Cb at *
      obtain ⟨g1, g2, g3, g4, g5, g6, g7, g8, g9⟩ := hCb
      rw [n3, n4, n5, n6, n7, n8, hV, hLL, JW, a3, Iz 32 (by decide) (by decide) (by decide), (a1.2.2 32 (by omega) (by simp)).1]
      refine ⟨?_, ?_, ?_, ?_, ?_, ?_, ?_, g8, g9⟩
      · rw [IW, if_neg (by decide), if_neg (by decide), if_neg (by decide), hZ1, g1]
      · rw [IW, if_neg (by decide), if_neg (by decide), if_pos (by decide)]; rfl
      · rw [IW, if_neg (by decide), if_neg (by decide), if_pos (by decide)]; rfl
      · rw [IW, if_neg (by decide), if_neg (by decide), if_pos (by decide)]; rfl
      · rw [IW, if_neg (by decide), if_neg (by decide), if_pos (by decide)]; rfl
      · rw [IW, if_neg (by decide), if_neg (by decide), if_neg (by decide), hZ1, g6]
      · rw [IW, if_neg (by decide), if_neg (by decide), if_neg (by decide), hZ1, g7]
    · have rH : ml_R W 1 2 = b := by rw [RW, if_pos ⟨rfl, rfl⟩]
      have rG : ml_R W b 0 = b + 1 := by rw [RW, if_neg (by omega)]; exact c1
      have rT : ml_R W b 1 = b + 2 := by rw [RW, if_neg (by omega)]; exact c2
      unfold pl_Ch
      rw [rH, rG, rT]
      refine ⟨⟨Or.inr (by omega), by omega, by rw [KW]; exact q1⟩, ⟨Or.inr (by omega), by omega, by rw [KW]; exact c3⟩, ⟨Or.inr (by omega), by omega, by rw [KW]; exact c4⟩, by rw [Iz b (by omega) (by omega) (by omega)]; exact e1, by rw [Iz b (by omega) (by omega) (by omega)]; exact e2, fun l hl' => ?_, fun t ht' => ?_⟩
      · obtain ⟨y1, y2, y3⟩ := hl l hl'
        have rl : ml_R W (b + 1) l = ml_R Z (b + 1) l := by rw [RW, if_neg (by omega)]
        rw [rl, Iz _ (by omega) (by omega) (by omega)]
        exact ⟨⟨by omega, by rw [nW]; exact y1.2, by rw [KW]; exact y2⟩, y3⟩
      · obtain ⟨y1, y2, y3⟩ := ht t ht'
        have rl : ml_R W (b + 2) t = ml_R Z (b + 2) t := by rw [RW, if_neg (by omega)]
        rw [rl, Iz _ (by omega) (by omega) (by omega)]
        exact ⟨⟨by omega, by rw [nW]; exact y1.2, by rw [KW]; exact y2⟩, y3⟩
    · rw [IW, if_neg (by decide), if_pos ⟨rfl, rfl⟩]
    · rw [IW, if_pos ⟨rfl, rfl⟩]
    · rw [Iz 31 (by decide) (by decide) (by decide), (a1.2.2 31 (by omega) (by simp)).1]; exact hCy.2
  have hdW : pl_Md A B W := ⟨hSW, hW, hcoW.m h.2.2.1, hCW⟩
  have hC1 : fX10_book 1 (nI r) m = some (nI (pl_N B 0 1 0), W) := by
    have hW3 : ml_I W b 3 = nI (pl_N B 0 1 0) := by rw [Iz b (by omega) (by omega) (by omega)]; exact e2
    have hkb : (ml_K W b).1 = 1 := by rw [KW, q1]
    have hrb : ml_R W 1 2 = b := by rw [RW, if_pos ⟨rfl, rfl⟩]
    obtain ⟨W5, hW5⟩ : ∃ X, X = ml_sI (ml_sI (ml_sI (ml_sI (ml_sR Z 1 2 b) 1 5 0) 1 7 0) 1 9 0) 1 11 0 := ⟨_, rfl⟩
    have t1 : ml_R W5 1 12 = 12 := by
      rw [hW5, pl_R_sI, pl_R_sI, pl_R_sI, pl_R_sI, pl_R_sR, if_neg (by decide)]; exact pl_r1_12 hSZ
    have t2 : (ml_K W5 12).1 = 7 := by rw [hW5, pl_K_sI, pl_K_sI, pl_K_sI, pl_K_sI, pl_K_sR, pl_k12 hSZ]
    have t3 : ml_R (ml_sI W5 12 0 1) 1 13 = 21 := by
      rw [hW5, pl_R_sI, pl_R_sI, pl_R_sI, pl_R_sI, pl_R_sI, pl_R_sR, if_neg (by decide)]; exact pl_r1_13 hSZ
    have t4 : (ml_K (ml_sI W5 12 0 1) 21).1 = 4 := by rw [hW5, pl_K_sI, pl_K_sI, pl_K_sI, pl_K_sI, pl_K_sI, pl_K_sR, pl_k21 hSZ]
    have hWW : W = ml_sI (ml_sI W5 12 0 1) 21 0 1 := by rw [hWd, hW5]
    have k1Z : (ml_K Z 1).1 = 10 := by rw [pl_k1 hSZ]
    have hm3 : ml_in m 3 24 (nI r) := by rw [pl_in (by omega), pl_k3 hS]; exact ⟨rfl, by show r < 4; omega⟩
    rw [hWW] at hW3 hkb hrb
    unfold fX10_book
    rw [pl_isText, if_pos hr3, pl_b1, if_neg (show ¬ (1 : Int32) = 0 by decide), if_pos (by rw [pl_k1 hS]), pl_r1_1 hS, pl_let, if_pos hm3, pl_let, nI_clamp (by omega), if_neg hR0, ← hb, pl_let, pl_let, z1, pl_b1, if_pos z2, z3, pl_b1, if_pos k0, if_pos i4', if_pos k1Z, pl_let, pl_let, pl_let, pl_let, pl_let, ← hW5, t1, pl_let, if_pos t2, pl_let, t3, pl_let, if_pos t4, pl_let, hrb, pl_let, if_pos hkb, hW3, hWW]
  subst hB
  exact pd_mk hdW hC1 (by omega) (by omega) (pl_bookW hW hsm hBW)

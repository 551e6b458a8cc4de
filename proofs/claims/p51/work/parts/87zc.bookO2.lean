/-! THE PAIR BOOK. -/
theorem pl_op_book (x0 : Int32) : pl_Ok (fX10_book 1 x0) (fX11_book 33 x0) := by
  intro A m h
  have hS := h.1
  have hW := h.2.1
  have hn60 := hS.2.2
  rcases pl_rng0 (x := x0) 3 (by decide) with hr | ⟨r, hr, rfl⟩
  · refine pl_Ok.same h (-1) ?_ ?_ <;> simp [fX10_book, fX11_book, ↓pl_let, pl_b1, pl_b2, ↓reduceIte, pl_isText, pl_isTextM, hr]
  · have hr3 : 0 ≤ nI r ∧ nI r ≤ nI 3 := ⟨nI_pos' (by omega), nI_le (by omega) (by decide)⟩
    rcases pl_bookR h (r := r) (by omega) with ⟨hN, hR⟩ | ⟨L, hN, hL, hR0, Z0, Z, z1, z2, z3, z4⟩
    · have hsz : pl_sz (pl_N A 9 r 0) = -1 := by unfold pl_sz; rw [if_pos hN]
      refine pl_Ok.found h (-3) 1 (by decide) ?_ fun M hSM hMM => ⟨M, ?_, pl_mo.refl M, hMM⟩
      · have hfd : fX10_found 1 (1 : Int32) m = some (-3, pl_fC m 1) := pl_found hS 1 (by decide)
        simp (disch := omega) only [fX10_book, ↓pl_let, pl_b1, pl_b2, ↓reduceIte, pl_isText, hr3, and_self, if_true, pl_10, if_false, pl_k1 hS, pl_r1_1 hS, pl_in, nI_clamp, pl_k3 hS, show r < 4 by omega, hR, hfd]
      · have hmt : fX11_meets 33 (1 : Int32) M = some (-3, pl_fM M 1) := pl_meets hSM 1 (by decide)
        have h38 := (hMM.2.2.1 r (by omega)).1
        rw [hsz] at h38
        have hneg : ¬ (0 : Int32) ≤ -1 := by decide
        simp (disch := omega) only [fX11_book, ↓pl_let, pl_b1, pl_b2, ↓reduceIte, pl_isTextM, hr3, and_self, if_true, pl_10, if_false, pl_k33 hSM, pl_r33_7 hSM, pl_in, nI_clamp, pl_k38 hSM, show r < 4 by omega, h38, hneg, hmt]
    · have hsz : pl_sz (pl_N A 9 r 0) = nI L := by unfold pl_sz; rw [if_neg (by omega), hN]; rfl
      obtain ⟨b, hb⟩ : ∃ b, b = ml_n m + 1 := ⟨_, rfl⟩
      rw [← hb] at z1 z2 z3 z4
      obtain ⟨B, hB⟩ : ∃ B, B = (pl_rdb (pl_V A 1 r) L (pl_b0 A) L).1 := ⟨_, rfl⟩
      obtain ⟨s, hs⟩ : ∃ s, s = (pl_rdb (pl_V A 1 r) L (pl_b0 A) L).2 := ⟨_, rfl⟩
      have hBW : pl_BW B := by rw [hB]; exact (pl_rdb_ok (f := pl_V A 1 r) (L := L) (pl_b0W A) L).1
      have hsm : pl_smB A B := by rw [hB]; exact pl_rdb_sm A (pl_V A 1 r) L L
      rw [← hB, ← hs] at z4
      obtain ⟨⟨a1, a2, a3, a4, a5, a6⟩, ⟨q1, -⟩, ⟨c1, c2, c3, c4⟩, ⟨d1, d2, d3⟩, ⟨e1, e2, -, e4, e5⟩, hl, ht, -⟩ := z4
      have hBW1 := hBW.1
      have i4 : ml_I Z b 4 = pl_e4 s.2 := by rw [← e5, pl_bs_4]
      have he4 := pl_e4_n (e := s.2) (by have := e4.2; omega)
      have k0 : (ml_K Z b).1 = 1 := by rw [q1]
      have hd : pl_Md A A Z := h.md.gb a1 a2 a3
      have hSZ := hd.1
      have htxM : ∀ M, pl_Sh M → pl_M A M → pl_txM M r L (pl_V A 1 r) ∧ ml_I M 38 r = nI L := fun M hSM hMM => by
        have hMt := hMM.2.2.1 r (by omega)
        rw [hsz] at hMt
        exact ⟨⟨hSM, by omega, hL, hMt.1, fun j hj => hMt.2 j (by omega), fun j hj => hW.2.2.2.2.2.2.2.2.2.2 r j (by omega) (by omega)⟩, hMt.1⟩
      have hpos : (0 : Int32) ≤ nI L := nI_pos' (by omega)
      by_cases c0 : s.2 = 0
      · have i4' : ml_I Z b 4 = -9 := by rw [i4, c0]; rfl
        obtain ⟨n3, n4, n5, n6, n7, n8⟩ : pl_N B 0 3 0 = 0 ∧ pl_N B 0 4 0 = 0 ∧ pl_N B 0 5 0 = 0 ∧ pl_N B 0 6 0 = 0 ∧ pl_N B 0 7 0 = pl_N A 0 7 0 ∧ pl_N B 0 8 0 = pl_N A 0 8 0 := ⟨hsm.2.1 3 (by decide), hsm.2.1 4 (by decide), hsm.2.1 5 (by decide), hsm.2.1 6 (by decide), hsm.2.1 7 (by decide), hsm.2.1 8 (by decide)⟩
        have hV : pl_V B = pl_V A := by funext g i k; show B.2.1 g i k = A.2.1 g i k; rw [hsm.2.2]
        have hLL : pl_L B = pl_L A := by show B.2.2 = A.2.2; rw [hsm.2.2]
        obtain ⟨W, hWd⟩ : ∃ W, W = ml_sI (ml_sI (ml_sI (ml_sI (ml_sI (ml_sI (ml_sR Z 1 2 b) 1 5 0) 1 7 0) 1 9 0) 1 11 0) 12 0 1) 21 0 1 := ⟨_, rfl⟩
        have nW : ml_n W = ml_n Z := by rw [hWd]; rfl
        have sW : ml_s W = ml_s Z := by rw [hWd]; rfl
        have JW : ml_J W = ml_J Z := by rw [hWd]; rfl
        have KW : ml_K W = ml_K Z := by rw [hWd]; rfl
        have RW : ∀ t j, ml_R W t j = if t = 1 ∧ j = 2 then b else ml_R Z t j := fun t j => by rw [hWd, pl_R_sI, pl_R_sI, pl_R_sI, pl_R_sI, pl_R_sI, pl_R_sI, pl_R_sR]
        have IW : ∀ t j, ml_I W t j = if t = 21 ∧ j = 0 then 1 else if t = 12 ∧ j = 0 then 1 else if t = 1 ∧ (j = 5 ∨ j = 7 ∨ j = 9 ∨ j = 11) then 0 else ml_I Z t j := fun t j => by
          rw [hWd, pl_I_sI, pl_I_sI, pl_I_sI, pl_I_sI, pl_I_sI, pl_I_sI, pl_I_sR]
          by_cases t1 : t = 1
          · by_cases j5 : j = 5 ∨ j = 7 ∨ j = 9 ∨ j = 11
            · rw [if_neg (show ¬ (t = 21 ∧ j = 0) by omega), if_neg (show ¬ (t = 12 ∧ j = 0) by omega), if_neg (show ¬ (t = 21 ∧ j = 0) by omega), if_neg (show ¬ (t = 12 ∧ j = 0) by omega), if_pos (show t = 1 ∧ (j = 5 ∨ j = 7 ∨ j = 9 ∨ j = 11) from ⟨t1, j5⟩)]
              rcases j5 with j5 | j5 | j5 | j5
              · rw [if_neg (by omega), if_neg (by omega), if_neg (by omega), if_pos ⟨t1, j5⟩]
              · rw [if_neg (by omega), if_neg (by omega), if_pos ⟨t1, j5⟩]
              · rw [if_neg (by omega), if_pos ⟨t1, j5⟩]
              · rw [if_pos ⟨t1, j5⟩]
            · rw [if_neg (show ¬ (t = 1 ∧ (j = 5 ∨ j = 7 ∨ j = 9 ∨ j = 11)) from fun q => j5 q.2), if_neg (show ¬ (t = 1 ∧ j = 11) by omega), if_neg (show ¬ (t = 1 ∧ j = 9) by omega), if_neg (show ¬ (t = 1 ∧ j = 7) by omega), if_neg (show ¬ (t = 1 ∧ j = 5) by omega)]
          · rw [if_neg (show ¬ (t = 1 ∧ (j = 5 ∨ j = 7 ∨ j = 9 ∨ j = 11)) from fun q => t1 q.1), if_neg (show ¬ (t = 1 ∧ j = 11) from fun q => t1 q.1), if_neg (show ¬ (t = 1 ∧ j = 9) from fun q => t1 q.1), if_neg (show ¬ (t = 1 ∧ j = 7) from fun q => t1 q.1), if_neg (show ¬ (t = 1 ∧ j = 5) from fun q => t1 q.1)]
        have Iz : ∀ t, t ≠ 1 → t ≠ 12 → t ≠ 21 → ml_I W t = ml_I Z t := fun t h1 h2 h3 => by
          funext j; rw [IW, if_neg (by omega), if_neg (by omega), if_neg (by omega)]
        have hxW : pl_ex [1, 12, 21] m W := by
          refine ⟨by rw [nW]; exact a1.1, fun t ht => by rw [KW]; exact a1.2.1 t ht, fun t ht hn => ?_⟩
          simp only [List.mem_cons, List.not_mem_nil, or_false, not_or] at hn
          obtain ⟨y1, y2⟩ := a1.2.2 t ht (by simp)
          refine ⟨by rw [Iz t hn.1 hn.2.1 hn.2.2]; exact y1, ?_⟩
          rw [← y2]
          funext j
          rw [RW, if_neg (fun q => hn.1 q.1)]
        have hcoW : pl_co m W := fun t h1 h2 => ⟨by rw [Iz t (by omega) (by omega) (by omega)]; exact (a2 t h1 h2).1, by rw [JW]; exact (a2 t h1 h2).2⟩
        have hSW : pl_Sh W := by
          refine hxW.sh hS (fun q hq hm => ?_)
          have h0 : ∀ q ∈ pl_rt, ¬ (q.1 = 1 ∧ q.2.1 = 2) := by decide
          have hq60 : ∀ q ∈ pl_rt, q.1 ≤ 60 := by decide
          rw [RW, if_neg (h0 q hq), (a1.2.2 q.1 (by have := hq60 q hq; omega) (by simp)).2]
        obtain ⟨hCb, hCr, hCt, hCh, hCi, hCn, hCk, hCs, hCy⟩ := h.2.2.2
        have hZ1 : ∀ k, ml_I Z 1 k = ml_I m 1 k := fun k => by rw [(a1.2.2 1 (by omega) (by simp)).1]
        have hCW : pl_C B W := by
          have hk60 : ∀ a ∈ [1, 12, 21], a ≤ 60 := by decide
          refine ⟨?_, hCr.fr hS hxW (by decide) (fun a ha => Or.inl (hk60 a ha)) (hsm.1 8 (by decide)) (by rw [hV]), hCt.fr hS hxW (by decide) (fun a ha => Or.inl (hk60 a ha)) (hsm.1 9 (by decide)) (by rw [hV]), ?_, ⟨fun i hi => by omega, fun i j hi => by omega⟩, ⟨fun i hi => by omega, fun i hi => by omega⟩, fun i hi => by omega, Or.inl ?_, ⟨Or.inl ?_, ?_⟩⟩
          · unfold pl_Cb at *
            obtain ⟨g1, g2, g3, g4, g5, g6, g7, g8, g9⟩ := hCb
            rw [n3, n4, n5, n6, n7, n8, hV, hLL, JW, a3, Iz 32 (by decide) (by decide) (by decide), (a1.2.2 32 (by omega) (by simp)).1]
            refine ⟨?_, ?_, ?_, ?_, ?_, ?_, ?_, g8, g9⟩
            · rw [IW, if_neg (by decide), if_neg (by decide), if_neg (by decide), hZ1, g1]
            · rw [IW, if_neg (by decide), if_neg (by decide), if_pos (by decide)]; rfl
            · rw [IW, if_neg (by decide), if_neg (by decide), if_pos (by decide)]; rfl
            · rw [IW, if_neg (by decide), if_neg (by decide), if_pos (by decide)]; rfl
            · rw [IW, if_neg (by decide), if_neg (by decide), if_pos (by decide)]; rfl
            · rw [IW, if_neg (by decide), if_neg (by decide), if_neg (by decide), hZ1, g6]
            · rw [IW, if_neg (by decide), if_neg (by decide), if_neg (by decide), hZ1, g7]
          · have rH : ml_R W 1 2 = b := by rw [RW, if_pos ⟨rfl, rfl⟩]
            have rG : ml_R W b 0 = b + 1 := by rw [RW, if_neg (by omega)]; exact c1
            have rT : ml_R W b 1 = b + 2 := by rw [RW, if_neg (by omega)]; exact c2
            unfold pl_Ch
            rw [rH, rG, rT]
            refine ⟨⟨Or.inr (by omega), by omega, by rw [KW]; exact q1⟩, ⟨Or.inr (by omega), by omega, by rw [KW]; exact c3⟩, ⟨Or.inr (by omega), by omega, by rw [KW]; exact c4⟩, by rw [Iz b (by omega) (by omega) (by omega)]; exact e1, by rw [Iz b (by omega) (by omega) (by omega)]; exact e2, fun l hl' => ?_, fun t ht' => ?_⟩
            · obtain ⟨y1, y2, y3⟩ := hl l hl'
              have rl : ml_R W (b + 1) l = ml_R Z (b + 1) l := by rw [RW, if_neg (by omega)]
              rw [rl, Iz _ (by omega) (by omega) (by omega)]
              exact ⟨⟨by omega, by rw [nW]; exact y1.2, by rw [KW]; exact y2⟩, y3⟩
            · obtain ⟨y1, y2, y3⟩ := ht t ht'
              have rl : ml_R W (b + 2) t = ml_R Z (b + 2) t := by rw [RW, if_neg (by omega)]
              rw [rl, Iz _ (by omega) (by omega) (by omega)]
              exact ⟨⟨by omega, by rw [nW]; exact y1.2, by rw [KW]; exact y2⟩, y3⟩
          · rw [IW, if_neg (by decide), if_pos ⟨rfl, rfl⟩]
          · rw [IW, if_pos ⟨rfl, rfl⟩]
          · rw [Iz 31 (by decide) (by decide) (by decide), (a1.2.2 31 (by omega) (by simp)).1]; exact hCy.2
        have hdW : pl_Md A B W := ⟨hSW, hW, hcoW.m h.2.2.1, hCW⟩
        have hC1 : fX10_book 1 (nI r) m = some (nI (pl_N B 0 1 0), W) := by
          have hW3 : ml_I W b 3 = nI (pl_N B 0 1 0) := by rw [Iz b (by omega) (by omega) (by omega)]; exact e2
          have hkb : (ml_K W b).1 = 1 := by rw [KW, q1]
          have hrb : ml_R W 1 2 = b := by rw [RW, if_pos ⟨rfl, rfl⟩]
          obtain ⟨W5, hW5⟩ : ∃ X, X = ml_sI (ml_sI (ml_sI (ml_sI (ml_sR Z 1 2 b) 1 5 0) 1 7 0) 1 9 0) 1 11 0 := ⟨_, rfl⟩
          have t1 : ml_R W5 1 12 = 12 := by
            rw [hW5, pl_R_sI, pl_R_sI, pl_R_sI, pl_R_sI, pl_R_sR, if_neg (by decide)]; exact pl_r1_12 hSZ
          have t2 : (ml_K W5 12).1 = 7 := by rw [hW5, pl_K_sI, pl_K_sI, pl_K_sI, pl_K_sI, pl_K_sR, pl_k12 hSZ]
          have t3 : ml_R (ml_sI W5 12 0 1) 1 13 = 21 := by
            rw [hW5, pl_R_sI, pl_R_sI, pl_R_sI, pl_R_sI, pl_R_sI, pl_R_sR, if_neg (by decide)]; exact pl_r1_13 hSZ
          have t4 : (ml_K (ml_sI W5 12 0 1) 21).1 = 4 := by rw [hW5, pl_K_sI, pl_K_sI, pl_K_sI, pl_K_sI, pl_K_sI, pl_K_sR, pl_k21 hSZ]
          have hWW : W = ml_sI (ml_sI W5 12 0 1) 21 0 1 := by rw [hWd, hW5]
          have k1Z : (ml_K Z 1).1 = 10 := by rw [pl_k1 hSZ]
          have hm3 : ml_in m 3 24 (nI r) := by rw [pl_in (by omega), pl_k3 hS]; exact ⟨rfl, by show r < 4; omega⟩
          rw [hWW] at hW3 hkb hrb
          unfold fX10_book
          rw [pl_isText, if_pos hr3, pl_b1, if_neg (show ¬ (1 : Int32) = 0 by decide), if_pos (by rw [pl_k1 hS]), pl_r1_1 hS, pl_let, if_pos hm3, pl_let, nI_clamp (by omega), if_neg hR0, ← hb, pl_let, pl_let, z1, pl_b1, if_pos z2, z3, pl_b1, if_pos k0, if_pos i4', if_pos k1Z, pl_let, pl_let, pl_let, pl_let, pl_let, ← hW5, t1, pl_let, if_pos t2, pl_let, t3, pl_let, if_pos t4, pl_let, hrb, pl_let, if_pos hkb, hW3, hWW]
        refine pl_Ok.mk hdW hC1 (by omega) (by omega) (pl_bookW hW hsm hBW) fun M hSM hMM => ?_
        obtain ⟨htx, hM38⟩ := htxM M hSM hMM
        obtain ⟨p, v, a, b', c, x, y, z, w1, w2⟩ := pl_fltM htx (pl_b0W A) ⟨rfl, rfl, rfl⟩
        rw [← hB, ← hs] at w2
        rw [← hs] at w1
        obtain ⟨⟨u1, u2, u3⟩, v1, v2, v3⟩ := w2 c0
        have e49 : pl_e4 s.2 = -9 := by rw [c0]; rfl
        rw [e49] at w1
        obtain ⟨Q, hQ⟩ : ∃ Q, Q = pl_rf M p v a b' c x y z := ⟨_, rfl⟩
        have hSQ : pl_Sh Q := by rw [hQ]; exact (pl_rf_mo M p v a b' c x y z).sh hSM
        have Q17 : ml_I Q 33 17 = a := by rw [hQ, pl_rf_33, pl_hh_17]
        have Q18 : ml_I Q 33 18 = b' := by rw [hQ, pl_rf_33, pl_hh_18]
        have Q19 : ml_I Q 33 19 = c := by rw [hQ, pl_rf_33, pl_hh_19]
        have Q33 : ∀ k, k < 15 ∨ 19 < k → ml_I Q 33 k = ml_I M 33 k := fun k hk => by rw [hQ, pl_rf_33, pl_hh_o _ _ _ _ _ _ hk]
        have QO : ∀ q, q ≠ 33 ∧ q ≠ 43 ∧ q ≠ 44 ∧ q ≠ 45 → ml_I Q q = ml_I M q := fun q hq => by rw [hQ]; exact pl_rf_o _ _ _ _ _ _ _ _ _ hq
        have Q43 : ml_I Q 43 = x := by rw [hQ]; exact pl_rf_43 _ _ _ _ _ _ _ _ _
        have Q44 : ml_I Q 44 = y := by rw [hQ]; exact pl_rf_44 _ _ _ _ _ _ _ _ _
        have Q45 : ml_I Q 45 = z := by rw [hQ]; exact pl_rf_45 _ _ _ _ _ _ _ _ _
        obtain ⟨Y, hY⟩ : ∃ Y, Y = ml_sI (ml_sI (ml_sI Q 33 9 a) 33 10 b') 33 11 c := ⟨_, rfl⟩
        have hSY : pl_Sh Y := by rw [hY]; exact ((hSQ.sI _ _ _).sI _ _ _).sI _ _ _
        have Y33 : ∀ k, ml_I Y 33 k = if k = 11 then c else if k = 10 then b' else if k = 9 then a else ml_I Q 33 k := fun k => by
          rw [hY, pl_I_sI, pl_I_sI, pl_I_sI]
          by_cases k11 : k = 11
          · rw [if_pos ⟨rfl, k11⟩, if_pos k11]
          · rw [if_neg (fun q => k11 q.2), if_neg k11]
            by_cases k10 : k = 10
            · rw [if_pos ⟨rfl, k10⟩, if_pos k10]
            · rw [if_neg (fun q => k10 q.2), if_neg k10]
              by_cases k9 : k = 9
              · rw [if_pos ⟨rfl, k9⟩, if_pos k9]
              · rw [if_neg (fun q => k9 q.2), if_neg k9]
        have YO : ∀ q, q ≠ 33 → ml_I Y q = ml_I Q q := fun q hq => by
          funext j
          rw [hY, pl_I_sI, if_neg (fun w => hq w.1), pl_I_sI, if_neg (fun w => hq w.1), pl_I_sI, if_neg (fun w => hq w.1)]
        have hbk := pl_bookM hSY (x := x) (y := y) (z := z) (by rw [YO 43 (by decide), Q43]) (by rw [YO 44 (by decide), Q44]) (by rw [YO 45 (by decide), Q45])
        obtain ⟨V, hVd⟩ : ∃ V, V = pl_cq Y (pl_cpy 40 x (ml_I Y 40) 40) (pl_cpy 16 y (ml_I Y 41) 40) (pl_cpy 24 z (ml_I Y 42) 40) := ⟨_, rfl⟩
        rw [← hVd] at hbk
        have hmoY : pl_mo M Y := by rw [hY, hQ]; exact (((pl_rf_mo M p v a b' c x y z).sI (by decide)).sI (by decide)).sI (by decide)
        have hmoV : pl_mo M V := by rw [hVd]; exact ((hmoY.wI (by decide)).wI (by decide)).wI (by decide)
        have hSV := hmoV.sh hSM
        have VO : ∀ q, q ≠ 40 ∧ q ≠ 41 ∧ q ≠ 42 → ml_I V q = ml_I Y q := fun q hq => by rw [hVd]; exact pl_cq_o _ _ _ _ hq
        obtain ⟨m2, hm2⟩ : ∃ m2, m2 = ml_sI (ml_sI (ml_sI (ml_sI V 33 24 0) 33 34 0) 33 37 0) 33 46 0 := ⟨_, rfl⟩
        have hmo2 : pl_mo M m2 := by rw [hm2]; exact (((hmoV.sI (by decide)).sI (by decide)).sI (by decide)).sI (by decide)
        have P33 : ∀ k, ml_I m2 33 k = if k = 46 ∨ k = 37 ∨ k = 34 ∨ k = 24 then 0 else ml_I V 33 k := fun k => by
          rw [hm2, pl_I_sI, pl_I_sI, pl_I_sI, pl_I_sI]
          by_cases k46 : k = 46
          · rw [if_pos ⟨rfl, k46⟩, if_pos (Or.inl k46)]
          · rw [if_neg (fun q => k46 q.2)]
            by_cases k37 : k = 37
            · rw [if_pos ⟨rfl, k37⟩, if_pos (Or.inr (Or.inl k37))]
            · rw [if_neg (fun q => k37 q.2)]
              by_cases k34 : k = 34
              · rw [if_pos ⟨rfl, k34⟩, if_pos (Or.inr (Or.inr (Or.inl k34)))]
              · rw [if_neg (fun q => k34 q.2)]
                by_cases k24 : k = 24
                · rw [if_pos ⟨rfl, k24⟩, if_pos (Or.inr (Or.inr (Or.inr k24)))]
                · rw [if_neg (fun q => k24 q.2), if_neg (by omega)]
        have PO : ∀ q, q ≠ 33 → ml_I m2 q = ml_I V q := fun q hq => by
          funext j
          rw [hm2, pl_I_sI, if_neg (fun w => hq w.1), pl_I_sI, if_neg (fun w => hq w.1), pl_I_sI, if_neg (fun w => hq w.1), pl_I_sI, if_neg (fun w => hq w.1)]
        have PA : ∀ q, q ≠ 33 ∧ q ≠ 40 ∧ q ≠ 41 ∧ q ≠ 42 ∧ q ≠ 43 ∧ q ≠ 44 ∧ q ≠ 45 → ml_I m2 q = ml_I M q := fun q hq => by
          rw [PO q hq.1, VO q ⟨hq.2.1, hq.2.2.1, hq.2.2.2.1⟩, YO q hq.1, QO q ⟨hq.1, hq.2.2.2.2.1, hq.2.2.2.2.2.1, hq.2.2.2.2.2.2⟩]
        have PB : ∀ k, ¬ (k = 46 ∨ k = 37 ∨ k = 34 ∨ k = 24) → ml_I m2 33 k = ml_I Y 33 k := fun k hk => by rw [P33, if_neg hk, VO 33 (by decide)]
        refine ⟨m2, ?_, hmo2, ?_⟩
        · have hin : ml_in M 38 20 (nI r) := by rw [pl_in (by omega), pl_k38 hSM]; exact ⟨rfl, by show r < 4; omega⟩
          have kQ : (ml_K Q 33).1 = 11 := by rw [pl_k33 hSQ]
          have kV : (ml_K V 33).1 = 11 := by rw [pl_k33 hSV]
          have Y1 : ml_I (ml_sI Q 33 9 a) 33 18 = b' := by rw [pl_I_sI, if_neg (by omega), Q18]
          have Y2 : ml_I (ml_sI (ml_sI Q 33 9 a) 33 10 b') 33 19 = c := by rw [pl_I_sI, if_neg (by omega), pl_I_sI, if_neg (by omega), Q19]
          have h10 : ml_I m2 33 10 = nI (pl_N B 0 1 0) := by rw [PB 10 (by decide), Y33, if_neg (by decide), if_pos rfl, u2]
          unfold fX11_book
          rw [pl_isTextM, if_pos hr3, pl_b1, if_neg (show ¬ (1 : Int32) = 0 by decide), if_pos (by rw [pl_k33 hSM]), pl_r33_7 hSM, pl_let, if_pos hin, nI_clamp (by omega), hM38, if_pos hpos, w1, pl_b2, if_pos rfl, ← hQ, if_pos kQ, Q17, pl_let, Y1, pl_let, Y2, pl_let, ← hY, hbk]
          unfold fX11_book_123
          rw [if_pos kV, pl_let, pl_let, pl_let, pl_let, ← hm2, h10]
        · obtain ⟨m1', m2', m3', m4', m5', m6'⟩ := hMM
          obtain ⟨g1, g2, g3, g4, g5, g6, g7, g8, g9, g10, g11, g12⟩ := m1'
          refine ⟨?_, ?_, ?_, ?_, fun i hi => by omega, ⟨fun i hi => by omega, fun i hi => by omega, fun i hi => by omega⟩⟩
          · unfold pl_Mb
            rw [n3, n4, n5, n6, n7, n8, hV, hLL, PA 34 (by decide)]
            refine ⟨?_, ?_, ?_, ?_, ?_, ?_, ?_, ?_, ?_, ?_, ?_, g12⟩
            · rw [PB 9 (by decide), Y33, if_neg (by decide), if_neg (by decide), if_pos rfl, u1]
            · rw [PB 10 (by decide), Y33, if_neg (by decide), if_pos rfl, u2]
            · rw [PB 11 (by decide), Y33, if_pos rfl, u3]
            · rw [P33, if_pos (by decide)]; rfl
            · rw [P33, if_pos (by decide)]; rfl
            · rw [P33, if_pos (by decide)]; rfl
            · rw [P33, if_pos (by decide)]; rfl
            · rw [PB 23 (by decide), Y33, if_neg (by decide), if_neg (by decide), if_neg (by decide), Q33 23 (by decide), g8]
            · rw [PB 0 (by decide), Y33, if_neg (by decide), if_neg (by decide), if_neg (by decide), Q33 0 (by decide), g9]
            · rw [PB 2 (by decide), Y33, if_neg (by decide), if_neg (by decide), if_neg (by decide), Q33 2 (by decide), g10]
            · have hJ : ml_J m2 33 3 = ml_J M 33 3 := by
                rw [hm2, pl_J_sI, pl_J_sI, pl_J_sI, pl_J_sI, hVd]
                unfold pl_cq
                rw [pl_J_wI, pl_J_wI, pl_J_wI, hY, pl_J_sI, pl_J_sI, pl_J_sI, hQ]
                unfold pl_rf
                rw [pl_J_wI, pl_J_wI, pl_J_wI, pl_J_wI]
              rw [hJ, g11]
          · unfold pl_Mr
            rw [PA 35 (by decide), PA 36 (by decide), hsm.1 8 (by decide), hV]; exact m2'
          · unfold pl_Mt
            rw [PA 38 (by decide), PA 39 (by decide), hsm.1 9 (by decide), hV]; exact m3'
          · refine ⟨fun l hl k hk => ?_, fun t ht k hk => ?_, fun q hq k hk => ?_⟩
            · rw [PO 40 (by decide), hVd, pl_cq_40]
              show (if 5 * l + k < 40 ∧ 5 * l + k < 40 then x (5 * l + k) else _) = _
              rw [if_pos (by omega)]; exact v1 l hl k hk
            · rw [PO 41 (by decide), hVd, pl_cq_41]
              show (if 2 * t + k < 40 ∧ 2 * t + k < 16 then y (2 * t + k) else _) = _
              rw [if_pos (by omega)]; exact v2 t ht k hk
            · rw [PO 42 (by decide), hVd, pl_cq_42]
              show (if 2 * q + k < 40 ∧ 2 * q + k < 24 then z (2 * q + k) else _) = _
              rw [if_pos (by omega)]; exact v3 q hq k hk
      · have i4' : ¬ ml_I Z b 4 = -9 := by rw [i4, he4]; exact c0
        have hC1 : fX10_book 1 (nI r) m = some (-4, Z) := by
          rw [hb] at z1 z2 z3 k0 i4'
          simp (disch := omega) only [fX10_book, ↓pl_let, pl_b1, pl_b2, ↓reduceIte, pl_isText, hr3, and_self, if_true, pl_10, if_false, pl_k1 hS, pl_r1_1 hS, pl_in, nI_clamp, pl_k3 hS, show r < 4 by omega, hR0, z1, z2, z3, k0, i4']
        refine pl_Ok.mk hd hC1 (by omega) (by omega) hW fun M hSM hMM => ?_
        obtain ⟨htx, hM38⟩ := htxM M hSM hMM
        obtain ⟨p, v, a, b', c, x, y, z, w1, -⟩ := pl_fltM htx (pl_b0W A) ⟨rfl, rfl, rfl⟩
        rw [← hs] at w1
        have hne : ¬ pl_e4 s.2 = -9 := by rw [he4]; exact c0
        refine ⟨pl_rf M p v a b' c x y z, ?_, pl_rf_mo M p v a b' c x y z, (pl_rf_kp M p v a b' c x y z).M hMM⟩
        simp (disch := omega) only [fX11_book, ↓pl_let, pl_b1, pl_b2, ↓reduceIte, pl_isTextM, hr3, and_self, if_true, pl_10, if_false, pl_k33 hSM, pl_r33_7 hSM, pl_in, nI_clamp, pl_k38 hSM, show r < 4 by omega, hM38, hpos, w1, hne]

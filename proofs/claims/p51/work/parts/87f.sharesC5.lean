/-! SHARINGS: the class's tables made anew. -/
theorem pl_mv_nil (A : pl_A) : pl_mv A [] = 0 := by
  unfold pl_mv
  generalize pl_N A 0 3 0 = n
  induction n with
  | zero => rfl
  | succ n ih =>
    rw [pl_cnt1, if_neg, ih]
    rw [List.length_nil, decide_eq_false (Nat.not_lt_zero _), Bool.false_and]; decide
def pl_xsS : List Nat := [12, 13, 14, 15, 16, 17, 18, 19, 20]
/-- only the sharings' own cells changed -/
theorem pl_Rel.sg {A : pl_A} {m m1 : ml_M} (h : pl_Rel A m) (hx : pl_ex pl_xsS m m1) (hco : pl_co m m1) (hJ : ml_J m1 1 = ml_J m 1) (h12 : ∀ k, k ≠ 5 → ml_R m1 12 k = ml_R m 12 k) (hs : pl_Cs A m1) : pl_Rel A m1 := by
  obtain ⟨hS, hW, hM, hC⟩ := h
  have hn := hS.2.2
  have d : pl_dif [] [] [] A A := ⟨fun _ _ _ => rfl, fun _ _ => rfl, fun _ _ => rfl⟩
  have e : ∀ a, a ≤ 60 → a ∉ pl_xsS → ml_I m1 a = ml_I m a ∧ ml_R m1 a = ml_R m a := fun a ha hn => hx.2.2 a (by omega) hn
  obtain ⟨fr, ft, fh, fi, fn, fk, -, fy⟩ := pl_Cd d hS hC hx (by decide) (by rw [(e 1 (by decide) (by decide)).2])
  refine ⟨hx.sh hS (fun q hq hm => ?_), hW, hco.m hM, ?_, fr (by decide), ft (by decide), fh (by decide), fi (by decide), fn (by decide), fk (by decide), hs, fy (by decide)⟩
  · have h0 : ∀ q ∈ pl_rt, q.1 ∈ pl_xsS → q.1 = 12 ∧ q.2.1 ≠ 5 := by decide
    obtain ⟨h1, h2⟩ := h0 q hq hm
    rw [h1, h12 _ h2]
  · have hb := hC.1
    unfold pl_Cb at *
    rw [(e 1 (by decide) (by decide)).1, (e 32 (by decide) (by decide)).1, hJ]
    exact hb
theorem pl_xsK {m : ml_M} (hS : pl_Sh m) : ∀ b ∈ pl_xsS, (ml_K m b).1 = 7 ∨ (ml_K m b).1 = 20 ∨ (ml_K m b).1 = 22 := by
  intro b hb
  have h0 : ∀ b ∈ pl_xsS, ∃ q ∈ pl_kt, q.1 = b ∧ (q.2.1 = 7 ∨ q.2.1 = 20 ∨ q.2.1 = 22) := by decide
  obtain ⟨q, hq, h1, h2⟩ := h0 b hb
  rw [← h1, hS.1 q hq]
  exact h2
theorem pl_refrSx {A : pl_A} {m : ml_M} (h : pl_Rel A m) : ∃ m1, fX10_refreshSharings 1 m = some m1 ∧ pl_Rel A m1 ∧ ml_n m1 = ml_n m ∧ ml_s m1 = ml_s m ∧ ml_I m1 12 0 = 0 ∧ pl_ex pl_xsS m m1 := by
  obtain ⟨hS, hW, hM, hC⟩ := h
  have h : pl_Rel A m := ⟨hS, hW, hM, hC⟩
  have hww := hW.1
  unfold pl_Wc at hww
  rcases hC.2.2.2.2.2.2.2.1 with hst | hst
  · obtain ⟨c1, c2, c3, c4, c5, c6, c7⟩ := hC.2.2.2.1
    obtain ⟨H, hH⟩ : ∃ H, H = ml_R m 1 2 := ⟨_, rfl⟩
    rw [← hH] at c1 c2 c3 c4 c5 c6 c7
    obtain ⟨T, hT⟩ : ∃ T, T = ml_R m H 1 := ⟨_, rfl⟩
    obtain ⟨G, hG⟩ : ∃ G, G = ml_R m H 0 := ⟨_, rfl⟩
    rw [← hT] at c3 c7
    rw [← hG] at c2 c6
    have hxk := pl_xsK hS
    have hHn : H ∉ pl_xsS := c1.nin (fun b hb => by have := hxk b hb; omega)
    have hTn : T ∉ pl_xsS := c3.nin (fun b hb => by have := hxk b hb; omega)
    have hGn : G ∉ pl_xsS := c2.nin (fun b hb => by have := hxk b hb; omega)
    have hH12 : H ≠ 12 := fun z => hHn (by rw [z]; decide)
    obtain ⟨m0, hm0⟩ : ∃ m0, m0 = ml_sI (ml_sI (ml_sR m 12 5 T) 12 6 (nI (pl_N A 0 1 0))) 12 7 (nI (pl_N A 0 0 0)) := ⟨_, rfl⟩
    have hx0 : pl_ex pl_xsS m m0 := by rw [hm0]; exact (((pl_ex.refl _ m).sR (by decide)).sI (by decide)).sI (by decide)
    have hS0 : pl_Sh m0 := by
      rw [hm0]
      refine hS.to (by rw [pl_n_sI, pl_n_sI, pl_n_sR]; exact Nat.le_refl _) (fun a _ => by rw [pl_K_sI, pl_K_sI, pl_K_sR]) (fun q hq => ?_)
      have h0 : ∀ q ∈ pl_rt, ¬ (q.1 = 12 ∧ q.2.1 = 5) := by decide
      rw [pl_R_sI, pl_R_sI, pl_R_sR, if_neg (h0 q hq)]
    have i6 : ml_I m0 12 6 = nI (pl_N A 0 1 0) := by rw [hm0, pl_I_sI, if_neg (by omega), pl_I_sI, if_pos ⟨rfl, rfl⟩]
    have i7 : ml_I m0 12 7 = nI (pl_N A 0 0 0) := by rw [hm0, pl_I_sI, if_pos ⟨rfl, rfl⟩]
    have r5 : ml_R m0 12 5 = T := by rw [hm0, pl_R_sI, pl_R_sI, pl_R_sR, if_pos ⟨rfl, rfl⟩]
    have dynin : ∀ (xs : List Nat), (∀ x ∈ xs, x ≤ 60) → ∀ a, 60 < a → a ∉ xs := fun xs hxs a ha hc => by have := hxs a hc; omega
    have hx60 : ∀ x ∈ pl_xsS, x ≤ 60 := by decide
    have keepI : ∀ {Z : ml_M}, pl_ex pl_xsS m Z → ∀ a, a ≤ ml_n m → a ∉ pl_xsS → ml_I Z a = ml_I m a ∧ ml_R Z a = ml_R m a := fun hZ a ha hn => hZ.2.2 a ha hn
    have hlod : ∀ {Z : ml_M}, pl_ex pl_xsS m Z → ml_K Z G = (28, 8) ∧ ∀ l, l < pl_N A 0 0 0 → 60 < ml_R Z G l ∧ ml_K Z (ml_R Z G l) = (6, 0) ∧ ml_I Z (ml_R Z G l) 1 = nI (pl_N A 1 l 1) := fun hZ => by
      refine ⟨by rw [hZ.2.1 G c2.2.1]; exact c2.2.2, fun l hl => ?_⟩
      obtain ⟨z1, z2⟩ := c6 l hl
      rw [(keepI hZ G c2.2.1 hGn).2, hZ.2.1 _ z1.2.1, (keepI hZ _ z1.2.1 (dynin _ hx60 _ z1.1)).1]
      exact ⟨z1.1, z1.2.2, z2 1 (by decide)⟩
    have htrk : ∀ {Z : ml_M}, pl_ex pl_xsS m Z → ml_K Z T = (30, 8) ∧ ∀ t, t < pl_N A 0 1 0 → 60 < ml_R Z T t ∧ ml_K Z (ml_R Z T t) = (9, 0) ∧ ml_I Z (ml_R Z T t) 2 = nI (pl_abv A t) ∧ ml_I Z (ml_R Z T t) 3 = nI (pl_blw A t) := fun hZ => by
      refine ⟨by rw [hZ.2.1 T c3.2.1]; exact c3.2.2, fun t ht => ?_⟩
      obtain ⟨z1, z2, z3, z4, z5⟩ := c7 t ht
      rw [(keepI hZ T c3.2.1 hTn).2, hZ.2.1 _ z1.2.1, (keepI hZ _ z1.2.1 (dynin _ hx60 _ z1.1)).1]
      exact ⟨z1.1, z1.2.2, z4, z5⟩
    have hthg : ∀ {Z : ml_M}, pl_ex pl_xsS m Z → pl_thC A Z := fun hZ i hi => by
      obtain ⟨z1, z2, z3, z4, z5, z6, z7, z8, z9⟩ := hC.2.2.2.2.1.1 i hi
      have hn := hS.2.2
      rw [(keepI hZ 8 (by omega) (by decide)).2, hZ.2.1 _ z1.2.1, (keepI hZ _ z1.2.1 (dynin _ hx60 _ z1.1)).1]
      exact ⟨z1.1, z1.2.2, z7, z8⟩
    -- step by step
    have hye := pl_yearsC hS0 hW i7 (hlod hx0).1 (hlod hx0).2
    obtain ⟨m1, hm1⟩ : ∃ m1, m1 = pl_wI (pl_wI m0 18 (pl_tw (ml_I m0 18) (pl_f18 A) 0 (pl_N A 0 0 0))) 19 (pl_tw (ml_I m0 19) (pl_f19 A) 0 (pl_N A 0 0 0)) := ⟨_, rfl⟩
    rw [← hm1] at hye
    have hx1 : pl_ex pl_xsS m m1 := by rw [hm1]; exact (hx0.wI (Or.inl (by decide))).wI (Or.inl (by decide))
    have hS1 : pl_Sh m1 := by rw [hm1]; exact (hS0.wI _ _).wI _ _
    have j12 : ml_I m1 12 = ml_I m0 12 := by rw [hm1, pl_I_wI, if_neg (by decide), pl_I_wI, if_neg (by decide)]
    have hsr := pl_strangC hS1 hW (by rw [j12]; exact i7) (hthg hx1)
    obtain ⟨m2, hm2⟩ : ∃ m2, m2 = pl_wI m1 16 (pl_g16 A (ml_I m1 16) (pl_N A 0 3 0) 0) := ⟨_, rfl⟩
    rw [← hm2] at hsr
    have hx2 : pl_ex pl_xsS m m2 := by rw [hm2]; exact hx1.wI (Or.inl (by decide))
    have hS2 : pl_Sh m2 := by rw [hm2]; exact hS1.wI _ _
    have j212 : ml_I m2 12 = ml_I m0 12 := by rw [hm2, pl_I_wI, if_neg (by decide), j12]
    have hcv := pl_coversC hS2 hW (by rw [j212]; exact i7) (hthg hx2)
    obtain ⟨m3, hm3⟩ : ∃ m3, m3 = pl_wI m2 17 (pl_tw (ml_I m2 17) (pl_f17 A) 0 (2 ^ pl_N A 0 0 0)) := ⟨_, rfl⟩
    rw [← hm3] at hcv
    have hx3 : pl_ex pl_xsS m m3 := by rw [hm3]; exact hx2.wI (Or.inl (by decide))
    have hS3 : pl_Sh m3 := by rw [hm3]; exact hS2.wI _ _
    have j312 : ml_I m3 12 = ml_I m0 12 := by rw [hm3, pl_I_wI, if_neg (by decide), j212]
    have r35 : ml_R m3 12 5 = T := by rw [hm3, pl_R_wI, hm2, pl_R_wI, hm1, pl_R_wI, pl_R_wI, r5]
    have i16 : ∀ t l, t < pl_N A 0 1 0 → l < pl_N A 0 0 0 → ml_I m3 16 (t * 8 + l) = nI (pl_st A t l (pl_N A 0 3 0)) := fun t l ht hl => by
      rw [hm3, pl_I_wI, if_neg (by decide), hm2, pl_I_wI, if_pos rfl]
      unfold pl_g16
      rw [if_pos (by omega), show (t * 8 + l) % 8 = l by omega, show (t * 8 + l) / 8 = t by omega, if_pos hl, if_neg (show ¬ (t = pl_N A 4 (pl_N A 0 3 0) 3 ∧ l < 0) from fun z => Nat.not_lt_zero _ z.2)]
    have i17 : ∀ set, set < 2 ^ pl_N A 0 0 0 → ml_I m3 17 set = if pl_cov A set then 1 else 0 := fun set hs => by
      rw [hm3, pl_I_wI, if_pos rfl, pl_tw_i (by omega)]; rfl
    have i18 : ∀ l, l < pl_N A 0 0 0 → ml_I m3 18 l = nI (pl_set (fun o => decide (pl_N A 1 l 1 ≤ pl_N A 1 o 1)) (pl_N A 0 0 0)) ∧ ml_I m3 19 l = nI (pl_set (fun o => decide (pl_N A 1 o 1 ≤ pl_N A 1 l 1)) (pl_N A 0 0 0)) := fun l hl => by
      rw [hm3, pl_I_wI, if_neg (by decide), hm2, pl_I_wI, if_neg (by decide), hm1, pl_I_wI, if_neg (by decide), pl_I_wI, if_pos rfl, pl_tw_i (by omega), pl_I_wI, if_neg (by decide), pl_I_wI, if_neg (by decide), pl_I_wI, if_pos rfl, pl_tw_i (by omega)]
      exact ⟨rfl, rfl⟩
    have hsx : pl_sx A m3 := ⟨hS3, by rw [j312]; exact i6, by rw [j312]; exact i7, by rw [r35]; exact htrk hx3, i16, i17, i18⟩
    obtain ⟨m4, hm4⟩ : ∃ m4, m4 = ml_sI m3 12 1 (-9) := ⟨_, rfl⟩
    have hS4 : pl_Sh m4 := by rw [hm4]; exact hS3.sI _ _ _
    have hf14 := pl_fillI (m := m4) (a := 14) (n := 21) 0 (pl_k14 hS4) (by decide)
    obtain ⟨m5, hm5⟩ : ∃ m5, m5 = pl_wI m4 14 (pl_fv m4 14 0 21) := ⟨_, rfl⟩
    rw [← hm5] at hf14
    have hS5 : pl_Sh m5 := by rw [hm5]; exact hS4.wI _ _
    have hf15 := pl_fillI (m := m5) (a := 15) (n := 1344) 0 (pl_k15 hS5) (by decide)
    have e6 : pl_wI m5 15 (pl_fv m5 15 0 1344) = pl_ss A m3 (ml_I m3 20) (ml_I m3 13) [] (ml_I m3 20) := by
      have t14 : pl_fv m4 14 0 21 = pl_lo2 21 (pl_n14 A []) (ml_I m3 14) := by
        funext y
        unfold pl_fv pl_lo2
        by_cases hy : y < 21
        · rw [if_pos hy, if_pos hy]; rfl
        · rw [if_neg hy, if_neg hy, hm4, pl_I_sI, if_neg (by omega)]
      have t15 : pl_fv m5 15 0 1344 = pl_lo2 1344 (pl_n15 A []) (ml_I m3 15) := by
        funext y
        unfold pl_fv pl_lo2
        by_cases hy : y < 1344
        · rw [if_pos hy, if_pos hy]; rfl
        · rw [if_neg hy, if_neg hy, hm5, pl_I_wI, if_neg (by decide), hm4, pl_I_sI, if_neg (by omega)]
      rw [t15, hm5, t14, hm4, pl_sI_w]
      unfold pl_ss pl_sy
      show pl_wI (pl_wI (pl_wI m3 12 (pl_up (ml_I m3 12) 1 (-9))) 14 (pl_lo2 21 (pl_n14 A []) (ml_I m3 14))) 15 (pl_lo2 1344 (pl_n15 A []) (ml_I m3 15)) = pl_wI (pl_wI (pl_wI (pl_wI (pl_wI m3 12 (pl_up (ml_I m3 12) 1 (-9))) 13 (ml_I m3 13)) 14 (pl_lo2 21 (pl_n14 A []) (ml_I m3 14))) 15 (pl_lo2 1344 (pl_n15 A []) (ml_I m3 15))) 20 (ml_I m3 20)
      have q13 : ml_I m3 13 = ml_I (pl_wI m3 12 (pl_up (ml_I m3 12) 1 (-9))) 13 := by rw [pl_I_wI, if_neg (by decide)]
      have q20 : ml_I m3 20 = ml_I (pl_wI (pl_wI (pl_wI m3 12 (pl_up (ml_I m3 12) 1 (-9))) 14 (pl_lo2 21 (pl_n14 A []) (ml_I m3 14))) 15 (pl_lo2 1344 (pl_n15 A []) (ml_I m3 15))) 20 := by rw [pl_I_wI, if_neg (by decide), pl_I_wI, if_neg (by decide), pl_I_wI, if_neg (by decide)]
      have q13' : pl_wI (pl_wI m3 12 (pl_up (ml_I m3 12) 1 (-9))) 13 (ml_I m3 13) = pl_wI m3 12 (pl_up (ml_I m3 12) 1 (-9)) := by rw [q13, pl_wI_0]
      rw [q13', q20, pl_wI_0]
    rw [e6] at hf15
    obtain ⟨c', g1, g2, g3⟩ := pl_giveC hW hsx (c0 := ml_I m3 20) (g13 := ml_I m3 13) (pl_N A 0 1 0) [] [] (ml_I m3 20) 12 (by simp) (by omega) (fun l hl => by simp at hl) (fun i hi => by simp at hi) (fun i _ => rfl)
    rw [List.nil_append, ← pl_S_gq hW, pl_mv_nil] at g1
    have g1' : fX7_give 12 12 0 0 0 (pl_ss A m3 (ml_I m3 20) (ml_I m3 13) [] (ml_I m3 20)) = some (pl_ss A m3 (ml_I m3 20) (ml_I m3 13) (pl_S A) c') := g1
    have hsu := pl_sumsC hsx (pl_S A) (pl_bv (pl_bst A (pl_S A))) (pl_ba (pl_N A 0 1 0) (ml_I m3 20) (ml_I m3 13) (pl_bst A (pl_S A))) c' (ml_I m3 14) (ml_I m3 15)
    obtain ⟨Y, hY⟩ : ∃ Y, Y = pl_sy m3 (pl_bv (pl_bst A (pl_S A))) (pl_ba (pl_N A 0 1 0) (ml_I m3 20) (ml_I m3 13) (pl_bst A (pl_S A))) (pl_lo2 21 (pl_u14 A (pl_S A)) (ml_I m3 14)) (pl_lo2 1344 (pl_u15 A (pl_S A)) (ml_I m3 15)) c' := ⟨_, rfl⟩
    rw [← hY] at hsu
    have hx7 : pl_ex pl_xsS m (ml_sI Y 12 0 0) := by
      rw [hY]
      unfold pl_sy
      exact (((((hx3.wI (Or.inl (by decide))).wI (Or.inl (by decide))).wI (Or.inl (by decide))).wI (Or.inl (by decide))).wI (Or.inl (by decide))).sI (by decide)
    have hco0 : pl_co m m0 := by rw [hm0]; exact ((pl_co.refl m).sR.sI (by decide)).sI (by decide)
    have hco1 : pl_co m m1 := by rw [hm1]; exact (hco0.wI (by decide)).wI (by decide)
    have hco2 : pl_co m m2 := by rw [hm2]; exact hco1.wI (by decide)
    have hco3 : pl_co m m3 := by rw [hm3]; exact hco2.wI (by decide)
    have hcoY : pl_co m Y := by rw [hY]; unfold pl_sy; exact ((((hco3.wI (by decide)).wI (by decide)).wI (by decide)).wI (by decide)).wI (by decide)
    have hco7 : pl_co m (ml_sI Y 12 0 0) := hcoY.sI (by decide)
    have hf0 : ml_n m0 = ml_n m ∧ ml_s m0 = ml_s m ∧ ml_J m0 = ml_J m := by rw [hm0]; exact ⟨rfl, rfl, rfl⟩
    have hf1 : ml_n m1 = ml_n m ∧ ml_s m1 = ml_s m ∧ ml_J m1 = ml_J m := by rw [hm1, pl_n_wI, pl_n_wI, pl_s_wI, pl_s_wI, pl_J_wI, pl_J_wI]; exact hf0
    have hf2 : ml_n m2 = ml_n m ∧ ml_s m2 = ml_s m ∧ ml_J m2 = ml_J m := by rw [hm2, pl_n_wI, pl_s_wI, pl_J_wI]; exact hf1
    have hf3 : ml_n m3 = ml_n m ∧ ml_s m3 = ml_s m ∧ ml_J m3 = ml_J m := by rw [hm3, pl_n_wI, pl_s_wI, pl_J_wI]; exact hf2
    have hf7 : ml_n (ml_sI Y 12 0 0) = ml_n m ∧ ml_s (ml_sI Y 12 0 0) = ml_s m ∧ ml_J (ml_sI Y 12 0 0) = ml_J m := by
      have hfY : ml_n Y = ml_n m ∧ ml_s Y = ml_s m ∧ ml_J Y = ml_J m := by
        rw [hY]
        unfold pl_sy
        rw [pl_n_wI, pl_n_wI, pl_n_wI, pl_n_wI, pl_n_wI, pl_s_wI, pl_s_wI, pl_s_wI, pl_s_wI, pl_s_wI, pl_J_wI, pl_J_wI, pl_J_wI, pl_J_wI, pl_J_wI]
        exact hf3
      exact hfY
    have hR3 : ml_R m3 = ml_R m0 := by rw [hm3, pl_R_wI, hm2, pl_R_wI, hm1, pl_R_wI, pl_R_wI]
    have hRY0 : ml_R Y = ml_R m0 := by rw [hY, pl_sy_R, hR3]
    have hRY : ml_R (ml_sI Y 12 0 0) = ml_R m0 := hRY0
    have y12 : ∀ k, k ≠ 0 → k ≠ 1 → ml_I (ml_sI Y 12 0 0) 12 k = ml_I m0 12 k := fun k h0 h1 => by
      rw [pl_I_sI, if_neg (by omega), hY, pl_sy_12, pl_up_n _ _ h1, j312]
    have y1 : ml_I (ml_sI Y 12 0 0) 12 1 = pl_bv (pl_bst A (pl_S A)) := by
      rw [pl_I_sI, if_neg (by omega), hY, pl_sy_12, pl_up_k]
    have yI : ∀ x k, x ≠ 12 → ml_I (ml_sI Y 12 0 0) x k = ml_I Y x k := fun x k hx => by rw [pl_I_sI, if_neg (fun z => hx z.1)]
    have hCs : pl_Cs A (ml_sI Y 12 0 0) := by
      right
      refine ⟨by rw [pl_I_sI, if_pos ⟨rfl, rfl⟩], ?_, by rw [y12 6 (by decide) (by decide)]; exact i6, by rw [y12 7 (by decide) (by decide)]; exact i7, ?_, fun q hq t ht => ?_, fun n hn => ⟨?_, fun t l ht hl => ?_⟩, fun set hs => ?_, fun l hl => ?_⟩
      · have hR1 : ml_R (ml_sI Y 12 0 0) 1 2 = H := by rw [(keepI hx7 1 (by have := hS.2.2; omega) (by decide)).2, hH]
        rw [hR1, (keepI hx7 H c1.2.1 hHn).2, ← hT, hRY, r5]
      · rw [y1]
        have hb : pl_best A = pl_bst A (pl_S A) := rfl
        rw [hb]
        cases pl_bst A (pl_S A) <;> rfl
      · have hb : pl_bst A (pl_S A) = some q := hq
        rw [yI 13 t (by decide), hY, pl_sy_13, hb]
        show pl_c8 (fun t => if t < pl_N A 0 1 0 then nI (q.2.getD t 0) else ml_I m3 20 t) (ml_I m3 13) t = _
        unfold pl_c8
        rw [if_pos (by omega)]
        exact if_pos ht
      · rw [yI 14 n (by decide), hY, pl_sy_14]
        unfold pl_lo2
        rw [if_pos (by omega)]
        rfl
      · rw [yI 15 _ (by decide), hY, pl_sy_15]
        unfold pl_lo2
        rw [if_pos (by omega)]
        congr 1
        unfold pl_u15 pl_of
        rw [List.filter_filter]
        refine pl_len_eq _ fun w _ => ?_
        unfold pl_aq
        rw [show (n * 64 + t * 8 + l) / 64 = n by omega, show (n * 64 + t * 8 + l) % 64 / 8 = t by omega, show (n * 64 + t * 8 + l) % 8 = l by omega, decide_eq_true ht, Bool.true_and, Bool.and_comm]
        rfl
      · rw [yI 17 _ (by decide), hY, pl_sy_o _ _ _ _ _ _ (by decide)]; exact i17 set hs
      · rw [yI 18 _ (by decide), yI 19 _ (by decide), hY, pl_sy_o _ _ _ _ _ _ (by decide), pl_sy_o _ _ _ _ _ _ (by decide)]; exact i18 l hl
    have hrel : pl_Rel A (ml_sI Y 12 0 0) := by
      refine h.sg hx7 hco7 ?_ (fun k hk => ?_) hCs
      · rw [hf7.2.2]
      · rw [hRY, hm0, pl_R_sI, pl_R_sI, pl_R_sR, if_neg (fun z => hk z.2)]
    refine ⟨_, ?_, hrel, hf7.1, hf7.2.1, by rw [pl_I_sI, if_pos ⟨rfl, rfl⟩], hx7⟩
    have e01 : ¬ ml_I m 12 0 = 0 := by rw [hst]; decide
    have h15 : ml_I m 1 5 = nI (pl_N A 0 3 0) := hC.1.2.1
    have s1 : ml_I (ml_sR m 12 5 T) H 3 = nI (pl_N A 0 1 0) := by rw [pl_I_sR, c5]
    have s2 : ml_I (ml_sI (ml_sR m 12 5 T) 12 6 (nI (pl_N A 0 1 0))) H 2 = nI (pl_N A 0 0 0) := by rw [pl_I_sI, if_neg (fun z => hH12 z.1), pl_I_sR, c4]
    have s3 : ml_R m0 H 0 = G := by rw [(keepI hx0 H c1.2.1 hHn).2, hG]
    unfold fX10_refreshSharings
    rw [pl_k1 hS, if_pos rfl, pl_r1_12 hS, pl_let, pl_k12 hS, if_pos rfl, if_neg e01, pl_let, ← hH, pl_let, pl_r1_4 hS, pl_let, pl_k12 hS, if_pos rfl, h15]
    unfold fX7_gather
    rw [c1.2.2, if_pos rfl, ← hT, pl_let, pl_k12 hS, if_pos rfl, pl_let, s1, pl_let, s2, pl_let, ← hm0, s3, pl_let, hye, pl_b1, pl_k12 hS1, if_pos rfl, hsr, pl_b1, pl_k12 hS2, if_pos rfl, hcv, pl_b1, pl_k12 hS3, if_pos rfl, pl_let, ← hm4, pl_r12_3 hS4, pl_let, hf14, pl_b1, pl_k12 hS5, if_pos rfl, pl_r12_4 hS5, pl_let, hf15, pl_b1, g1', pl_b1]
    unfold pl_ss
    rw [hsu, pl_b1]
  · refine ⟨m, ?_, h, rfl, rfl, hst.1, pl_ex.refl _ m⟩
    unfold fX10_refreshSharings
    rw [pl_k1 hS, if_pos rfl, pl_r1_12 hS, pl_let, pl_k12 hS, if_pos rfl, if_pos hst.1]
theorem pl_refrS {A : pl_A} {m : ml_M} (h : pl_Rel A m) : ∃ m1, fX10_refreshSharings 1 m = some m1 ∧ pl_Rel A m1 ∧ ml_n m1 = ml_n m ∧ ml_s m1 = ml_s m ∧ ml_I m1 12 0 = 0 := by
  obtain ⟨m1, h1, h2, h3, h4, h5, -⟩ := pl_refrSx h
  exact ⟨m1, h1, h2, h3, h4, h5⟩

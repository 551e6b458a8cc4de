/-! A BOOK READ: the class's new Book; the pair fault. -/
def pl_b0 (A : pl_A) : pl_A := (fun g i k => if g = 0 ∧ k = 0 ∧ i ≤ 6 then 0 else A.1 g i k, A.2)
theorem pl_b0W (A : pl_A) : pl_BW (pl_b0 A) := by
  have n0 : pl_N (pl_b0 A) 0 0 0 = 0 := rfl
  have n1 : pl_N (pl_b0 A) 0 1 0 = 0 := rfl
  have n2 : pl_N (pl_b0 A) 0 2 0 = 0 := rfl
  exact ⟨⟨by omega, by omega, by omega⟩, fun l hl => by omega, fun l hl => by omega, fun l hl => by omega⟩
theorem pl_bk0 {A : pl_A} {m : ml_M} (h : pl_Rel A m) {x L : Nat} {f : Nat → Int32} (hx : 60 < x ∧ x ≤ ml_n m) (hK : ml_K m x = (21, L)) (hf : ∀ j, j < L → ml_I m x j = f j) (hL : L ≤ 120) (hby : ∀ j, j < L → pl_by (f j)) : ∃ Z, fX1_init (ml_n m + 1) x (ml_al m 1 0 8) = some Z ∧ pl_BK m (ml_n m + 1) (pl_b0 A) f L Z (0, 0) := by
  have hn60 := h.1.2.2
  obtain ⟨b, hb⟩ : ∃ b, b = ml_n m + 1 := ⟨_, rfl⟩
  rw [← hb]
  obtain ⟨Z, hZ⟩ : ∃ Z, Z = ml_sR (ml_sI (ml_sR (ml_al (ml_sR (ml_al (ml_al m 1 0 8) 28 8 8) b 0 (b + 1)) 30 8 8) b 1 (b + 2)) b 4 (-9)) b 6 x := ⟨_, rfl⟩
  have nZ : ml_n Z = b + 2 := by rw [hZ, hb]; rfl
  have sZ : ml_s Z = ml_s m + 24 := by rw [hZ]; rfl
  have n1 : ml_n (ml_al m 1 0 8) = b := by rw [pl_n_al, hb]
  have n2 : ml_n (ml_al (ml_al m 1 0 8) 28 8 8) = b + 1 := by rw [pl_n_al, n1]
  have n3 : ml_n (ml_sR (ml_al (ml_al m 1 0 8) 28 8 8) b 0 (b + 1)) = b + 1 := n2
  have KZ : ∀ t, ml_K Z t = if t = b + 2 then (30, 8) else if t = b + 1 then (28, 8) else if t = b then (1, 0) else ml_K m t := fun t => by
    rw [hZ, pl_K_sR, pl_K_sI, pl_K_sR, pl_K_al, n3, pl_K_sR, pl_K_al, n1, pl_K_al, hb]
  have RZ : ∀ t j, ml_R Z t j = if t = b ∧ j = 6 then x else if t = b ∧ j = 1 then b + 2 else if t = b + 2 then 0 else if t = b ∧ j = 0 then b + 1 else if t = b + 1 then 0 else if t = b then 0 else ml_R m t j := fun t j => by
    rw [hZ, pl_R_sR, pl_R_sI, pl_R_sR, pl_R_al, n3, pl_R_sR, pl_R_al, n1, pl_R_al, hb]
  have IZ : ∀ t j, ml_I Z t j = if t = b ∧ j = 4 then -9 else if t = b + 2 then 0 else if t = b + 1 then 0 else if t = b then 0 else ml_I m t j := fun t j => by
    rw [hZ, pl_I_sR, pl_I_sI, pl_I_sR, pl_I_al, n3, pl_I_sR, pl_I_al, n1, pl_I_al, hb]
  have JZ : ∀ t, t ≤ ml_n m → ml_J Z t = ml_J m t := fun t ht => by
    funext j
    rw [hZ, pl_J_sR, pl_J_sI, pl_J_sR, pl_J_al, if_neg (by rw [n3]; omega), pl_J_sR, pl_J_al, if_neg (by rw [n1]; omega), pl_J_al, if_neg (by omega)]
  have c0 : pl_N (pl_b0 A) 0 0 0 = 0 := rfl
  have c1 : pl_N (pl_b0 A) 0 1 0 = 0 := rfl
  have c2 : pl_N (pl_b0 A) 0 2 0 = 0 := rfl
  refine ⟨Z, ?_, ⟨⟨by omega, fun t ht => by rw [KZ, if_neg (by omega), if_neg (by omega), if_neg (by omega)], fun t ht _ => ⟨?_, ?_⟩⟩, fun t h1 h2 => ⟨?_, JZ t (by omega)⟩, JZ 1 (by omega), hn60, hb, ?_⟩, ⟨?_, ?_, ?_, fun j hj => ?_, hL, hby⟩, ⟨?_, ?_, ?_, ?_⟩, ⟨by omega, by omega, by omega⟩, ⟨?_, ?_, ?_, ⟨Nat.zero_le _, Nat.zero_le _⟩, ?_⟩, fun l hl => by omega, fun l hl => by omega, fun t u ht => by omega⟩
  · have hb0 : b ≠ 0 := by omega
    have e8 : (8 : Int32).toNatClampNeg = 8 := by decide
    unfold fX1_init
    rw [if_pos hb0, n1, pl_let, e8, pl_let]
    have k1 : (ml_K (ml_al (ml_al m 1 0 8) 28 8 8) b).1 = 1 := by rw [pl_K_al, n1, if_neg (by omega), pl_K_al, if_pos hb]
    rw [if_pos k1, pl_let, n3, pl_let, pl_let]
    have k2 : (ml_K (ml_al (ml_sR (ml_al (ml_al m 1 0 8) 28 8 8) b 0 (b + 1)) 30 8 8) b).1 = 1 := by rw [pl_K_al, n3, if_neg (by omega), pl_K_sR]; exact k1
    rw [if_pos k2, pl_let, pl_let, pl_let, hZ]
  · funext j; rw [IZ, if_neg (by omega), if_neg (by omega), if_neg (by omega), if_neg (by omega)]
  · funext j; rw [RZ, if_neg (by omega), if_neg (by omega), if_neg (by omega), if_neg (by omega), if_neg (by omega), if_neg (by omega)]
  · funext j; rw [IZ, if_neg (by omega), if_neg (by omega), if_neg (by omega), if_neg (by omega)]
  · rw [RZ, if_pos ⟨rfl, rfl⟩]; exact hx.2
  · rw [KZ, if_neg (by omega), if_neg (by omega), if_pos rfl]
  · rw [RZ, if_pos ⟨rfl, rfl⟩]; omega
  · rw [RZ, if_pos ⟨rfl, rfl⟩, KZ, if_neg (by omega), if_neg (by omega), if_neg (by omega)]; exact hK
  · rw [RZ, if_pos ⟨rfl, rfl⟩, IZ, if_neg (by omega), if_neg (by omega), if_neg (by omega), if_neg (by omega)]; exact hf j hj
  · rw [RZ, if_neg (by omega), if_neg (by omega), if_neg (by omega), if_pos ⟨rfl, rfl⟩]
  · rw [RZ, if_neg (by omega), if_pos ⟨rfl, rfl⟩]
  · rw [KZ, if_neg (by omega), if_pos rfl]
  · rw [KZ, if_pos rfl]
  · rw [IZ, if_neg (by omega), if_neg (by omega), if_neg (by omega), if_pos rfl, c0]; rfl
  · rw [IZ, if_neg (by omega), if_neg (by omega), if_neg (by omega), if_pos rfl, c1]; rfl
  · rw [IZ, if_neg (by omega), if_neg (by omega), if_neg (by omega), if_pos rfl, c2]; rfl
  · funext j
    unfold pl_bs pl_up
    by_cases h7 : j = 7
    · rw [if_pos h7, IZ, if_neg (by omega), if_neg (by omega), if_neg (by omega), if_pos rfl]; rfl
    · rw [if_neg h7]
      by_cases h4 : j = 4
      · rw [if_pos h4, IZ, if_pos ⟨rfl, h4⟩]; rfl
      · rw [if_neg h4]
theorem pl_rf_mo (M : ml_M) (p v a b c : Int32) (x y z : Nat → Int32) : pl_mo M (pl_rf M p v a b c x y z) := ((((pl_mo.refl M).wI (by decide)).wI (by decide)).wI (by decide)).wI (by decide)
theorem pl_rf_kp (M : ml_M) (p v a b c : Int32) (x y z : Nat → Int32) : pl_kp M (pl_rf M p v a b c x y z) := by
  have h1 : pl_kp M (pl_wI M 33 (pl_hh M p v a b c)) := by
    refine ⟨fun q hq => ?_, fun k hk => ?_, rfl⟩
    · have h33 : q ≠ 33 := by revert hq; revert q; decide
      rw [pl_I_wI, if_neg h33]
    · have hk4 : k < 15 ∨ 19 < k := by revert hk; revert k; decide
      rw [pl_I_wI, if_pos rfl, pl_hh_o _ _ _ _ _ _ hk4]
  exact ((h1.wI (by decide)).wI (by decide)).wI (by decide)
/-- both read text r -/
theorem pl_bookR {A : pl_A} {m : ml_M} (h : pl_Rel A m) {r : Nat} (hr : r < 4) : (pl_N A 9 r 0 = 0 ∧ ml_R m 3 r = 0) ∨ ∃ L, pl_N A 9 r 0 = L + 1 ∧ L ≤ 120 ∧ ¬ ml_R m 3 r = 0 ∧ ∃ Z0 Z, fX1_init (ml_n m + 1) (ml_R m 3 r) (ml_al m 1 0 8) = some Z0 ∧ (ml_K Z0 (ml_n m + 1)).1 = 1 ∧ fX1_read (ml_n m + 1) Z0 = some Z ∧ pl_BK m (ml_n m + 1) (pl_rdb (pl_V A 1 r) L (pl_b0 A) L).1 (pl_V A 1 r) L Z (pl_rdb (pl_V A 1 r) L (pl_b0 A) L).2 := by
  rcases h.2.2.2.2.2.1.get hr with h1 | ⟨n, h1, h2, h3, h4, h5, h6⟩
  · exact Or.inl h1
  · right
    have hw := h.2.1.2.2.2.2.2.2.2.2
    have hn := hw.2.1 r hr
    have hby := fun j (hj : j < n) => hw.2.2 r j hr (by omega)
    obtain ⟨Z0, z1, z2⟩ := pl_bk0 h ⟨h2, h3⟩ h5 h6 (by omega) hby
    obtain ⟨Z, z3, z4⟩ := pl_readC z2 (pl_b0W A)
    exact ⟨n, h1, by omega, h4, Z0, Z, z1, by rw [z2.2.1.1], z3, z4⟩
theorem pl_op_fault (x0 : Int32) : pl_Ok (fX10_fault 1 x0) (fX11_fault 33 x0) := by
  intro A m h
  have hS := h.1
  have hW := h.2.1
  have e1 : (1 : Int32) = nI 1 := rfl
  rcases pl_rng0 (x := x0) 3 (by decide) with hr | ⟨r, hr, rfl⟩
  · refine pl_Ok.same h (-1) ?_ ?_ <;> simp [fX10_fault, fX11_fault, ↓pl_let, pl_b1, pl_b2, ↓reduceIte, pl_isText, pl_isTextM, hr]
  · have hr3 : 0 ≤ nI r ∧ nI r ≤ nI 3 := ⟨nI_pos' (by omega), nI_le (by omega) (by decide)⟩
    rcases pl_bookR h (r := r) (by omega) with ⟨hN, hR⟩ | ⟨L, hN, hL, hR0, Z0, Z, z1, z2, z3, z4⟩
    · have hsz : pl_sz (pl_N A 9 r 0) = -1 := by unfold pl_sz; rw [if_pos hN]
      refine pl_Ok.found h (-3) 1 (by decide) ?_ fun M hSM hMM => ⟨M, ?_, pl_mo.refl M, hMM⟩
      · have hfd : fX10_found 1 (1 : Int32) m = some (-3, pl_fC m 1) := pl_found hS 1 (by decide)
        simp (disch := omega) only [fX10_fault, ↓pl_let, pl_b1, pl_b2, ↓reduceIte, pl_isText, hr3, and_self, if_true, pl_10, if_false, pl_k1 hS, pl_r1_1 hS, pl_in, nI_clamp, pl_k3 hS, show r < 4 by omega, hR, hfd]
      · have hmt : fX11_meets 33 (1 : Int32) M = some (-3, pl_fM M 1) := pl_meets hSM 1 (by decide)
        have h38 := (hMM.2.2.1 r (by omega)).1
        rw [hsz] at h38
        have hneg : ¬ (0 : Int32) ≤ -1 := by decide
        simp (disch := omega) only [fX11_fault, ↓pl_let, pl_b1, pl_b2, ↓reduceIte, pl_isTextM, hr3, and_self, if_true, pl_10, if_false, pl_k33 hSM, pl_r33_7 hSM, pl_in, nI_clamp, pl_k38 hSM, show r < 4 by omega, h38, hneg, hmt]
    · have hsz : pl_sz (pl_N A 9 r 0) = nI L := by unfold pl_sz; rw [if_neg (by omega), hN]; rfl
      obtain ⟨⟨a1, a2, a3, a4, a5, a6⟩, ⟨q1, -⟩, -, ⟨d1, d2, d3⟩, ⟨-, -, -, -, e5⟩, -⟩ := z4
      have hBW := (pl_rdb_ok (f := pl_V A 1 r) (L := L) (pl_b0W A) L).1.1
      have hd : pl_Md A A Z := h.md.gb a1 a2 a3
      have i4 : ml_I Z (ml_n m + 1) 4 = pl_e4 (pl_rdb (pl_V A 1 r) L (pl_b0 A) L).2.2 := by rw [← e5, pl_bs_4]
      have k0 : (ml_K Z (ml_n m + 1)).1 = 1 := by rw [q1]
      have hC1 : fX10_fault 1 (nI r) m = some (pl_e4 (pl_rdb (pl_V A 1 r) L (pl_b0 A) L).2.2, Z) := by
        simp (disch := omega) only [fX10_fault, ↓pl_let, pl_b1, pl_b2, ↓reduceIte, pl_isText, hr3, and_self, if_true, pl_10, if_false, pl_k1 hS, pl_r1_1 hS, pl_in, nI_clamp, pl_k3 hS, show r < 4 by omega, hR0, z1, z2, z3, k0, i4]
      refine pl_Ok.mk hd hC1 (by omega) (by omega) hW fun M hSM hMM => ?_
      have hMt := hMM.2.2.1 r (by omega)
      rw [hsz] at hMt
      have htx : pl_txM M r L (pl_V A 1 r) := ⟨hSM, by omega, hL, hMt.1, fun j hj => hMt.2 j (by omega), fun j hj => hW.2.2.2.2.2.2.2.2.2.2 r j (by omega) (by omega)⟩
      obtain ⟨p, v, a, b, c, x, y, z, w1, -⟩ := pl_fltM htx (pl_b0W A) ⟨rfl, rfl, rfl⟩
      refine ⟨pl_rf M p v a b c x y z, ?_, pl_rf_mo M p v a b c x y z, (pl_rf_kp M p v a b c x y z).M hMM⟩
      have hpos : (0 : Int32) ≤ nI L := nI_pos' (by omega)
      simp (disch := omega) only [fX11_fault, ↓pl_let, pl_b1, pl_b2, ↓reduceIte, pl_isTextM, hr3, and_self, if_true, pl_10, if_false, pl_k33 hSM, pl_r33_7 hSM, pl_in, nI_clamp, pl_k38 hSM, show r < 4 by omega, hMt.1, hpos, w1]

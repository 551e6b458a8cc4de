/-! CLAIMS: claim. -/
def pl_3 (a b c : Nat) : Nat → Nat := fun k => if k = 0 then a else if k = 1 then b else c
def pl_kA (A : pl_A) (h t n : Nat) (f : Nat → Int32) : pl_A := pl_sVr (pl_sR A 7 (pl_N A 0 6 0) (pl_3 h t n) 6 (pl_N A 0 6 0 + 1)) 2 (pl_N A 0 6 0) f
theorem pl_kA_d (A : pl_A) (h t n : Nat) (f : Nat → Int32) : pl_dif [7] [6] [2] A (pl_kA A h t n f) ∧ pl_N (pl_kA A h t n f) 0 6 0 = pl_N A 0 6 0 + 1 ∧ (∀ l, l ≠ pl_N A 0 6 0 → pl_N (pl_kA A h t n f) 7 l = pl_N A 7 l) ∧ pl_N (pl_kA A h t n f) 7 (pl_N A 0 6 0) = pl_3 h t n ∧ pl_L (pl_kA A h t n f) = pl_L A ∧ (∀ l, l ≠ pl_N A 0 6 0 → pl_V (pl_kA A h t n f) 2 l = pl_V A 2 l) ∧ pl_V (pl_kA A h t n f) 2 (pl_N A 0 6 0) = f := by
  obtain ⟨d, z1, z2, z3, z6⟩ := pl_sR_d A 7 (pl_N A 0 6 0) (pl_3 h t n) 6 (pl_N A 0 6 0 + 1) (by decide)
  have hN : ∀ g, pl_N (pl_kA A h t n f) g = pl_N (pl_sR A 7 (pl_N A 0 6 0) (pl_3 h t n) 6 (pl_N A 0 6 0 + 1)) g := fun g => by
    funext i k; unfold pl_kA; rw [pl_N_sVr]
  refine ⟨⟨fun g h1 h2 => by rw [hN]; exact d.1 g h1 h2, fun j h1 => by rw [hN]; exact d.2.1 j h1, fun g h1 => ?_⟩, by rw [hN]; exact z1, fun l hl => by rw [hN]; exact z2 l hl, by rw [hN]; exact z3, z6, fun l hl => ?_, ?_⟩
  · have h1 : g ≠ 2 := by simpa using h1
    rw [← d.2.2 g (by simp)]
    funext i j; unfold pl_kA; rw [pl_V_sVr, if_neg (fun z => h1 z.1)]
  · rw [← d.2.2 2 (by simp)]
    funext j; unfold pl_kA; rw [pl_V_sVr, if_neg (fun z => hl z.2)]
  · funext j; unfold pl_kA; rw [pl_V_sVr, if_pos ⟨rfl, rfl⟩]
def pl_kC (m : ml_M) (c h t a : Nat) : ml_M := ml_sI (ml_sR (ml_sR (ml_sI (ml_sI (ml_cl2 (ml_al m 2 0 3) a) (ml_n m + 1) 0 (nI h)) (ml_n m + 1) 1 (nI t)) (ml_n m + 1) 2 (ml_n m + 2)) 11 c (ml_n m + 1)) 1 11 (nI (c + 1))
theorem pl_ex.nR {xs : List Nat} {m m1 : ml_M} (h : pl_ex xs m m1) {a k : Nat} {v : Nat} (ha : ml_n m < a) : pl_ex xs m (ml_sR m1 a k v) := by
  refine ⟨h.1, h.2.1, fun b hb hn => ⟨(h.2.2 b hb hn).1, ?_⟩⟩
  rw [← (h.2.2 b hb hn).2]
  funext j
  rw [pl_R_sR, if_neg (fun z => by rcases z with ⟨rfl, -⟩; omega)]
theorem pl_kC_md {A : pl_A} {m : ml_M} (hr : pl_Rel A m) {h t n r : Nat} (hr6 : r < 6) (hc : pl_N A 0 6 0 < 8) (h0 : pl_N A 8 r 0 = 2 * n + 1) (hR1 : 60 < ml_R m 2 r) (hR2 : ml_R m 2 r ≤ ml_n m) (hK : ml_K m (ml_R m 2 r) = (20, 2 * n)) (hv : ∀ j, j < 2 * n → ml_I m (ml_R m 2 r) j = pl_V A 0 r j) :
    pl_Md A (pl_kA A h t n (pl_V A 0 r)) (pl_kC m (pl_N A 0 6 0) h t (ml_R m 2 r)) ∧ ml_s (pl_kC m (pl_N A 0 6 0) h t (ml_R m 2 r)) = ml_s m + 3 + 2 * n ∧ ml_n (pl_kC m (pl_N A 0 6 0) h t (ml_R m 2 r)) = ml_n m + 2 := by
  obtain ⟨hS, hW, hM, hC⟩ := hr
  have hn := hS.2.2
  have hx : pl_ex [1, 11] m (pl_kC m (pl_N A 0 6 0) h t (ml_R m 2 r)) := ((((((pl_ex.refl [1, 11] m).al.cl).nI (by omega)).nI (by omega)).nR (by omega)).sR (by decide)).sI (by decide)
  obtain ⟨d, z1, z2, z3, z6, z7, z8⟩ := pl_kA_d A h t n (pl_V A 0 r)
  have hna : ml_n (ml_al m 2 0 3) = ml_n m + 1 := pl_n_al _ _ _ _
  have hKa : ml_K (ml_al m 2 0 3) (ml_R m 2 r) = (20, 2 * n) := by rw [pl_K_alo hR2]; exact hK
  have hne : ¬ ml_n m + 1 = 1 := by omega
  have hne2 : ¬ ml_n m + 1 = 11 := by omega
  have hne3 : ¬ ml_n m + 1 + 1 = 1 := by omega
  have hne4 : ¬ ml_n m + 1 + 1 = 11 := by omega
  have hnew : ml_K (pl_kC m (pl_N A 0 6 0) h t (ml_R m 2 r)) (ml_n m + 1) = (2, 0) ∧ ml_I (pl_kC m (pl_N A 0 6 0) h t (ml_R m 2 r)) (ml_n m + 1) 0 = nI h ∧ ml_I (pl_kC m (pl_N A 0 6 0) h t (ml_R m 2 r)) (ml_n m + 1) 1 = nI t ∧ ml_R (pl_kC m (pl_N A 0 6 0) h t (ml_R m 2 r)) (ml_n m + 1) 2 = ml_n m + 2 := by
    unfold pl_kC
    refine ⟨?_, ?_, ?_, ?_⟩
    · simp only [pl_K_sI, pl_K_sR]
      rw [pl_K_cl, if_neg (by omega), pl_K_aln]
    · simp [pl_I_sI, pl_I_sR, pl_I_sJ, pl_I_al, pl_I_cp, pl_I_cl, pl_R_sI, pl_R_sR, pl_R_sJ, pl_R_al, pl_R_cp, pl_R_cl, pl_J_sI, pl_J_sR, pl_J_sJ, pl_J_al, pl_J_cp, pl_J_cl, pl_K_sI, pl_K_sR, pl_K_sJ, pl_K_al, pl_K_cp, pl_K_cl, pl_n_sI, pl_n_sR, pl_n_sJ, pl_n_al, pl_n_cp, pl_n_cl, pl_s_sI, pl_s_sR, pl_s_sJ, pl_s_al, pl_s_cp, pl_s_cl, hne]
    · simp [pl_I_sI, pl_I_sR, pl_I_sJ, pl_I_al, pl_I_cp, pl_I_cl, pl_R_sI, pl_R_sR, pl_R_sJ, pl_R_al, pl_R_cp, pl_R_cl, pl_J_sI, pl_J_sR, pl_J_sJ, pl_J_al, pl_J_cp, pl_J_cl, pl_K_sI, pl_K_sR, pl_K_sJ, pl_K_al, pl_K_cp, pl_K_cl, pl_n_sI, pl_n_sR, pl_n_sJ, pl_n_al, pl_n_cp, pl_n_cl, pl_s_sI, pl_s_sR, pl_s_sJ, pl_s_al, pl_s_cp, pl_s_cl, hne]
    · simp [pl_I_sI, pl_I_sR, pl_I_sJ, pl_I_al, pl_I_cp, pl_I_cl, pl_R_sI, pl_R_sR, pl_R_sJ, pl_R_al, pl_R_cp, pl_R_cl, pl_J_sI, pl_J_sR, pl_J_sJ, pl_J_al, pl_J_cp, pl_J_cl, pl_K_sI, pl_K_sR, pl_K_sJ, pl_K_al, pl_K_cp, pl_K_cl, pl_n_sI, pl_n_sR, pl_n_sJ, pl_n_al, pl_n_cp, pl_n_cl, pl_s_sI, pl_s_sR, pl_s_sJ, pl_s_al, pl_s_cp, pl_s_cl, hne2]
  have hnew2 : ml_K (pl_kC m (pl_N A 0 6 0) h t (ml_R m 2 r)) (ml_n m + 2) = (20, 2 * n) ∧ ∀ j, j < 2 * n → ml_I (pl_kC m (pl_N A 0 6 0) h t (ml_R m 2 r)) (ml_n m + 2) j = pl_V A 0 r j := by
    unfold pl_kC
    refine ⟨?_, fun j hj => ?_⟩
    · rw [pl_K_sI, pl_K_sR, pl_K_sR, pl_K_sI, pl_K_sI, pl_K_cl, if_pos (by rw [hna]), hKa]
    · rw [pl_I_sI, if_neg (by omega), pl_I_sR, pl_I_sR, pl_I_sI, if_neg (by omega), pl_I_sI, if_neg (by omega), pl_I_cl, if_pos (by rw [hna]), pl_I_alo hR2, hv j hj]
  have hRr1 : ml_R (pl_kC m (pl_N A 0 6 0) h t (ml_R m 2 r)) 1 = ml_R m 1 := by
    funext j; unfold pl_kC; simp only [pl_R_sI, pl_R_sR, pl_R_cl, hna]
    rw [if_neg (by omega), if_neg (by omega), if_neg (by omega), pl_R_alo (by omega)]
  have hR9 : ∀ l, ml_R (pl_kC m (pl_N A 0 6 0) h t (ml_R m 2 r)) 11 l = if l = pl_N A 0 6 0 then ml_n m + 1 else ml_R m 11 l := fun l => by
    unfold pl_kC; simp only [pl_R_sI, pl_R_sR, pl_R_cl, hna, true_and]
    rw [if_neg (show ¬ (11 = ml_n m + 1 ∧ l = 2) by omega), if_neg (show ¬ 11 = ml_n m + 1 + 1 by omega), pl_R_alo (by omega)]
  have hI1 : ∀ j, ml_I (pl_kC m (pl_N A 0 6 0) h t (ml_R m 2 r)) 1 j = if j = 11 then nI (pl_N A 0 6 0 + 1) else ml_I m 1 j := fun j => by
    unfold pl_kC; simp only [pl_I_sI, pl_I_sR, pl_I_cl, hna, true_and]
    rw [if_neg (show ¬ (1 = ml_n m + 1 ∧ j = 1) by omega), if_neg (show ¬ (1 = ml_n m + 1 ∧ j = 0) by omega), if_neg (show ¬ 1 = ml_n m + 1 + 1 by omega), pl_I_alo (by omega)]
  have hJ1 : ml_J (pl_kC m (pl_N A 0 6 0) h t (ml_R m 2 r)) 1 = ml_J m 1 := by
    funext j; unfold pl_kC; simp only [pl_J_sI, pl_J_sR, pl_J_cl, pl_J_al, hna]
    rw [if_neg (by omega), if_neg (by omega)]
  have hco : pl_co m (pl_kC m (pl_N A 0 6 0) h t (ml_R m 2 r)) := ((((((pl_co.refl m).al hn).cl (by omega)).sI (by omega)).sI (by omega)).sR.sR).sI (by decide)
  have hsz : ml_n (pl_kC m (pl_N A 0 6 0) h t (ml_R m 2 r)) = ml_n m + 2 := by unfold pl_kC; simp only [pl_n_sI, pl_n_sR, pl_n_cl, hna]
  have hss : ml_s (pl_kC m (pl_N A 0 6 0) h t (ml_R m 2 r)) = ml_s m + 3 + 2 * n := by unfold pl_kC; simp only [pl_s_sI, pl_s_sR, pl_s_cl, pl_s_al, hKa]
  refine ⟨?_, hss, hsz⟩
  generalize pl_kC m (pl_N A 0 6 0) h t (ml_R m 2 r) = m1 at *
  generalize pl_kA A h t n (pl_V A 0 r) = B at *
  have hS1 : pl_Sh m1 := hx.sh hS (fun q hq h => by
    have h1 : ∀ q ∈ pl_rt, q.1 ≠ 11 := by decide
    have := h1 q hq
    simp only [List.mem_cons, List.not_mem_nil, or_false] at h
    rw [show q.1 = 1 by omega, hRr1])
  obtain ⟨fr, ft, fh, fi, fn, -, fs, fy⟩ := pl_Cd d hS hC hx (by decide) (by rw [hRr1])
  refine ⟨hS1, hW, hco.m hM, ?_, fr (by decide), ft (by decide), fh (by decide), fi (by decide), fn (by decide), fun l hl => ?_, fs (by decide), fy (by decide)⟩
  · obtain ⟨b1, b2, b3, b4, b5, b6, b7, b8, b9⟩ := hC.1
    have h32 := (hx.2.2 32 (by omega) (by decide)).1
    unfold pl_Cb
    rw [hJ1, h32, d.2.1 7 (by decide), d.2.1 3 (by decide), z1, d.2.1 5 (by decide), d.2.1 4 (by decide), d.2.1 8 (by decide), d.2.2 3 (by decide), d.2.2 4 (by decide), z6]
    have hI : ∀ j, j ≠ 11 → ml_I m1 1 j = ml_I m 1 j := fun j hj => by rw [hI1, if_neg hj]
    rw [hI 3 (by decide), hI 5 (by decide), hI1 11, if_pos rfl, hI 9 (by decide), hI 7 (by decide), hI 17 (by decide), hI 15 (by decide)]
    exact ⟨b1, b2, b3, b4, Eq.refl _, b6, b7, b8, b9⟩
  · rw [z1] at hl
    have hR2' : ml_R m1 2 = ml_R m 2 := (hx.2.2 2 (by omega) (by decide)).2
    rw [hR9, hR2']
    by_cases hlc : l = pl_N A 0 6 0
    · have e3 : pl_N B 7 l = pl_3 h t n := by rw [hlc]; exact z3
      have e8 : pl_V B 2 l = pl_V A 0 r := by rw [hlc]; exact z8
      rw [if_pos hlc, e3, e8, hnew.2.2.2]
      refine ⟨⟨by omega, by omega, hnew.1⟩, by rw [hnew.2.1]; simp [pl_3], by rw [hnew.2.2.1]; simp [pl_3], ⟨by omega, by omega, by rw [hnew2.1]; simp [pl_3]⟩, fun q hq => ?_, fun j hj => hnew2.2 j (by simpa [pl_3] using hj)⟩
      rcases hC.2.1.get hq with ⟨-, g⟩ | ⟨x, -, -, g, -⟩ <;> omega
    · have z := hC.2.2.2.2.2.2.1 l (by omega)
      have y := hx.2.2 _ z.1.2.1 (by have := z.1.1; simp; omega)
      rw [if_neg hlc, z2 l hlc, z7 l hlc, y.1, y.2, (hx.2.2 _ z.2.2.2.1.2.1 (by have := z.2.2.2.1.1; simp; omega)).1]
      exact ⟨z.1.fr hx, z.2.1, z.2.2.1, z.2.2.2.1.fr hx, z.2.2.2.2⟩
theorem pl_kW {A : pl_A} {h t n r : Nat} (hW : pl_W A) (hc : pl_N A 0 6 0 < 8) (hh : h ≤ 9) (ht : t < pl_N A 0 1 0) (hn : 1 ≤ n ∧ n ≤ 24) (hk : ∀ j, j < n → ∃ kd, 1 ≤ kd ∧ kd ≤ 5 ∧ pl_V A 0 r (2 * j) = nI kd) : pl_W (pl_kA A h t n (pl_V A 0 r)) := by
  obtain ⟨d, z1, z2, z3, z6, z7, z8⟩ := pl_kA_d A h t n (pl_V A 0 r)
  generalize pl_kA A h t n (pl_V A 0 r) = B at *
  obtain ⟨f1, f2, f3, f4, f5, f6, -, f8⟩ := pl_Wd d hW
  refine ⟨?_, f1 (by decide), f2 (by decide), f3 (by decide), f4 (by decide), f5 (by decide), f6 (by decide), fun l hl => ?_, f8 (by decide)⟩
  · have hw := hW.1
    unfold pl_Wc at *
    rw [d.2.1 0 (by decide), d.2.1 1 (by decide), d.2.1 2 (by decide), d.2.1 3 (by decide), z1, d.2.1 4 (by decide), d.2.1 5 (by decide), d.2.1 7 (by decide), d.2.1 8 (by decide)]
    omega
  · rw [d.2.1 1 (by decide)]
    by_cases hlc : l = pl_N A 0 6 0
    · subst hlc
      rw [z3, z8]
      exact ⟨by simpa [pl_3] using hh, by simpa [pl_3] using ht, by simpa [pl_3] using hn, fun j hj => hk j (by simpa [pl_3] using hj)⟩
    · rw [z2 l hlc, z7 l hlc]
      exact hW.2.2.2.2.2.2.2.1 l (by omega)

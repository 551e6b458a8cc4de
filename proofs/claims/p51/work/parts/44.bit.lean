/-! WHAT IS MADE, go on: bits. -/
/-- all small numbers of a row anew, and a count -/
def pl_sR (A : pl_A) (g c : Nat) (f : Nat → Nat) (j n : Nat) : pl_A := (fun a b k => if a = g ∧ b = c then f k else if a = 0 ∧ b = j ∧ k = 0 then n else A.1 a b k, A.2.1, A.2.2)
theorem pl_sR_d (A : pl_A) (g c : Nat) (f : Nat → Nat) (j n : Nat) (hg : 0 < g) : pl_dif [g] [j] [] A (pl_sR A g c f j n) ∧ pl_N (pl_sR A g c f j n) 0 j 0 = n ∧ (∀ l, l ≠ c → pl_N (pl_sR A g c f j n) g l = pl_N A g l) ∧ pl_N (pl_sR A g c f j n) g c = f ∧ pl_L (pl_sR A g c f j n) = pl_L A := by
  have h : ∀ a b k, pl_N (pl_sR A g c f j n) a b k = if a = g ∧ b = c then f k else if a = 0 ∧ b = j ∧ k = 0 then n else pl_N A a b k := fun _ _ _ => rfl
  refine ⟨⟨fun a h1 h2 => ?_, fun b h1 => ?_, fun _ _ => rfl⟩, ?_, fun l hl => ?_, ?_, rfl⟩
  · have h2 : a ≠ g := by simpa using h2
    funext i k
    rw [h, if_neg (fun z => h2 z.1), if_neg (by omega)]
  · have h1 : b ≠ j := by simpa using h1
    rw [h, if_neg (by omega), if_neg (by omega)]
  · rw [h, if_neg (by omega), if_pos ⟨rfl, rfl, rfl⟩]
  · funext k
    rw [h, if_neg (fun z => hl z.2), if_neg (by omega)]
  · funext k
    rw [h, if_pos ⟨rfl, rfl⟩]
def pl_4 (a b c d : Nat) : Nat → Nat := fun k => if k = 0 then a else if k = 1 then b else if k = 2 then c else d
def pl_bC (m : ml_M) (c a b x y : Nat) : ml_M := ml_sI (ml_sI (ml_sR (ml_sI (ml_sI (ml_sI (ml_sI (ml_al m 0 0 4) (ml_n m + 1) 0 (nI a)) (ml_n m + 1) 1 (nI b)) (ml_n m + 1) 2 (nI x)) (ml_n m + 1) 3 (nI y)) 10 c (ml_n m + 1)) 21 0 1) 1 9 (nI (c + 1))
theorem pl_bC_md {A : pl_A} {m : ml_M} (h : pl_Rel A m) {a b x y : Nat} (hc : pl_N A 0 5 0 < 10) : pl_Md A (pl_sR A 6 (pl_N A 0 5 0) (pl_4 a b x y) 5 (pl_N A 0 5 0 + 1)) (pl_bC m (pl_N A 0 5 0) a b x y) := by
  obtain ⟨hS, hW, hM, hC⟩ := h
  have hn := hS.2.2
  have hx : pl_ex [1, 10, 21] m (pl_bC m (pl_N A 0 5 0) a b x y) := (((((((pl_ex.refl [1, 10, 21] m).al.nI (by omega)).nI (by omega)).nI (by omega)).nI (by omega)).sR (by decide)).sI (by decide)).sI (by decide)
  obtain ⟨d, z1, z2, z3, z6⟩ := pl_sR_d A 6 (pl_N A 0 5 0) (pl_4 a b x y) 5 (pl_N A 0 5 0 + 1) (by decide)
  have hR1 : ml_R (pl_bC m (pl_N A 0 5 0) a b x y) 1 = ml_R m 1 := by
    funext j; unfold pl_bC; simp (disch := omega) [pl_I_sI, pl_I_sR, pl_I_sJ, pl_I_alo, pl_I_aln, pl_R_sI, pl_R_sR, pl_R_sJ, pl_R_alo, pl_R_aln, pl_J_sI, pl_J_sR, pl_J_sJ, pl_K_sI, pl_K_sR, pl_K_sJ, pl_K_alo, pl_K_aln, pl_n_sI, pl_n_sR, pl_n_sJ, pl_n_al, pl_n_cp, pl_n_cl, pl_s_sI, pl_s_sR, pl_s_sJ, pl_s_al, pl_s_cp, pl_s_cl]
  have hR21 : ml_R (pl_bC m (pl_N A 0 5 0) a b x y) 21 = ml_R m 21 := by
    funext j; unfold pl_bC; simp (disch := omega) [pl_I_sI, pl_I_sR, pl_I_sJ, pl_I_alo, pl_I_aln, pl_R_sI, pl_R_sR, pl_R_sJ, pl_R_alo, pl_R_aln, pl_J_sI, pl_J_sR, pl_J_sJ, pl_K_sI, pl_K_sR, pl_K_sJ, pl_K_alo, pl_K_aln, pl_n_sI, pl_n_sR, pl_n_sJ, pl_n_al, pl_n_cp, pl_n_cl, pl_s_sI, pl_s_sR, pl_s_sJ, pl_s_al, pl_s_cp, pl_s_cl]
  have hR9 : ∀ l, ml_R (pl_bC m (pl_N A 0 5 0) a b x y) 10 l = if l = pl_N A 0 5 0 then ml_n m + 1 else ml_R m 10 l := fun l => by
    unfold pl_bC; simp (disch := omega) only [pl_I_sI, pl_I_sR, pl_I_sJ, pl_I_alo, pl_I_aln, pl_R_sI, pl_R_sR, pl_R_sJ, pl_R_alo, pl_R_aln, pl_J_sI, pl_J_sR, pl_J_sJ, pl_K_sI, pl_K_sR, pl_K_sJ, pl_K_alo, pl_K_aln, pl_n_sI, pl_n_sR, pl_n_sJ, pl_n_al, pl_n_cp, pl_n_cl, pl_s_sI, pl_s_sR, pl_s_sJ, pl_s_al, pl_s_cp, pl_s_cl, true_and]
  have hI1 : ∀ j, ml_I (pl_bC m (pl_N A 0 5 0) a b x y) 1 j = if j = 9 then nI (pl_N A 0 5 0 + 1) else ml_I m 1 j := fun j => by
    unfold pl_bC; simp (disch := omega) only [pl_I_sI, pl_I_sR, pl_I_sJ, pl_I_alo, pl_I_aln, pl_R_sI, pl_R_sR, pl_R_sJ, pl_R_alo, pl_R_aln, pl_J_sI, pl_J_sR, pl_J_sJ, pl_K_sI, pl_K_sR, pl_K_sJ, pl_K_alo, pl_K_aln, pl_n_sI, pl_n_sR, pl_n_sJ, pl_n_al, pl_n_cp, pl_n_cl, pl_s_sI, pl_s_sR, pl_s_sJ, pl_s_al, pl_s_cp, pl_s_cl, true_and]
    rw [if_neg (show ¬ (1 = 21 ∧ j = 0) by omega), if_neg (show ¬ (1 = ml_n m + 1 ∧ j = 3) by omega), if_neg (show ¬ (1 = ml_n m + 1 ∧ j = 2) by omega), if_neg (show ¬ (1 = ml_n m + 1 ∧ j = 1) by omega), if_neg (show ¬ (1 = ml_n m + 1 ∧ j = 0) by omega)]
  have hst : ml_I (pl_bC m (pl_N A 0 5 0) a b x y) 21 0 = 1 := by
    unfold pl_bC; simp [pl_I_sI, pl_I_sR, pl_I_sJ, pl_I_alo, pl_I_aln, pl_R_sI, pl_R_sR, pl_R_sJ, pl_R_alo, pl_R_aln, pl_J_sI, pl_J_sR, pl_J_sJ, pl_K_sI, pl_K_sR, pl_K_sJ, pl_K_alo, pl_K_aln, pl_n_sI, pl_n_sR, pl_n_sJ, pl_n_al, pl_n_cp, pl_n_cl, pl_s_sI, pl_s_sR, pl_s_sJ, pl_s_al, pl_s_cp, pl_s_cl]
  have hJ1 : ml_J (pl_bC m (pl_N A 0 5 0) a b x y) 1 = ml_J m 1 := by
    funext j; unfold pl_bC; simp only [pl_I_sI, pl_I_sR, pl_I_sJ, pl_I_alo, pl_I_aln, pl_R_sI, pl_R_sR, pl_R_sJ, pl_R_alo, pl_R_aln, pl_J_sI, pl_J_sR, pl_J_sJ, pl_K_sI, pl_K_sR, pl_K_sJ, pl_K_alo, pl_K_aln, pl_n_sI, pl_n_sR, pl_n_sJ, pl_n_al, pl_n_cp, pl_n_cl, pl_s_sI, pl_s_sR, pl_s_sJ, pl_s_al, pl_s_cp, pl_s_cl, pl_J_al]; rw [if_neg (by omega)]
  have hnew : ml_K (pl_bC m (pl_N A 0 5 0) a b x y) (ml_n m + 1) = (0, 0) ∧ ∀ k, k < 4 → ml_I (pl_bC m (pl_N A 0 5 0) a b x y) (ml_n m + 1) k = nI (pl_4 a b x y k) := by
    have h1 : ¬ ml_n m + 1 = 1 := by omega
    have h2 : ¬ ml_n m + 1 = 21 := by omega
    refine ⟨by unfold pl_bC; simp [pl_I_sI, pl_I_sR, pl_I_sJ, pl_I_alo, pl_I_aln, pl_R_sI, pl_R_sR, pl_R_sJ, pl_R_alo, pl_R_aln, pl_J_sI, pl_J_sR, pl_J_sJ, pl_K_sI, pl_K_sR, pl_K_sJ, pl_K_alo, pl_K_aln, pl_n_sI, pl_n_sR, pl_n_sJ, pl_n_al, pl_n_cp, pl_n_cl, pl_s_sI, pl_s_sR, pl_s_sJ, pl_s_al, pl_s_cp, pl_s_cl], fun k hk => ?_⟩
    have hk3 : k = 0 ∨ k = 1 ∨ k = 2 ∨ k = 3 := by omega
    unfold pl_bC
    rcases hk3 with rfl | rfl | rfl | rfl <;> simp [pl_I_sI, pl_I_sR, pl_I_sJ, pl_I_alo, pl_I_aln, pl_R_sI, pl_R_sR, pl_R_sJ, pl_R_alo, pl_R_aln, pl_J_sI, pl_J_sR, pl_J_sJ, pl_K_sI, pl_K_sR, pl_K_sJ, pl_K_alo, pl_K_aln, pl_n_sI, pl_n_sR, pl_n_sJ, pl_n_al, pl_n_cp, pl_n_cl, pl_s_sI, pl_s_sR, pl_s_sJ, pl_s_al, pl_s_cp, pl_s_cl, h1, h2, pl_4]
  have hco : pl_co m (pl_bC m (pl_N A 0 5 0) a b x y) := (((((((pl_co.refl m).al hn).sI (by omega)).sI (by omega)).sI (by omega)).sI (by omega)).sR.sI (by decide)).sI (by decide)
  have hsz : ml_n (pl_bC m (pl_N A 0 5 0) a b x y) = ml_n m + 1 := rfl
  generalize pl_bC m (pl_N A 0 5 0) a b x y = m1 at *
  generalize pl_sR A 6 (pl_N A 0 5 0) (pl_4 a b x y) 5 (pl_N A 0 5 0 + 1) = B at *
  have hS1 : pl_Sh m1 := hx.sh hS (fun q hq h => by
    have h1 : ∀ q ∈ pl_rt, q.1 ≠ 10 := by decide
    have := h1 q hq
    simp only [List.mem_cons, List.not_mem_nil, or_false] at h
    rcases h with h | h | h
    · rw [h, hR1]
    · exact absurd h this
    · rw [h, hR21])
  obtain ⟨fr, ft, fh, fi, -, fk, fs, -⟩ := pl_Cd d hS hC hx (by decide) (by rw [hR1])
  refine ⟨hS1, hW, hco.m hM, ?_, fr (by decide), ft (by decide), fh (by decide), fi (by decide), ⟨fun l hl => ?_, fun i hi => ?_⟩, fk (by decide), fs (by decide), Or.inl hst, by rw [(hx.2.2 31 (by omega) (by decide)).1]; exact hC.2.2.2.2.2.2.2.2.2⟩
  · obtain ⟨b1, b2, b3, b4, b5, b6, b7, b8, b9⟩ := hC.1
    have h32 := (hx.2.2 32 (by omega) (by decide)).1
    unfold pl_Cb
    rw [hJ1, h32, d.2.1 7 (by decide), d.2.1 3 (by decide), z1, d.2.1 4 (by decide), d.2.1 6 (by decide), d.2.1 8 (by decide), d.2.2 3 (by decide), d.2.2 4 (by decide), z6]
    have hI : ∀ j, j ≠ 9 → ml_I m1 1 j = ml_I m 1 j := fun j hj => by rw [hI1, if_neg hj]
    rw [hI 3 (by decide), hI 5 (by decide), hI1 9, if_pos rfl, hI 7 (by decide), hI 11 (by decide), hI 17 (by decide), hI 15 (by decide)]
    exact ⟨b1, b2, b3, Eq.refl _, b5, b6, b7, b8, b9⟩
  · rw [d.2.1 4 (by decide)] at hl
    have z := hC.2.2.2.2.2.1.1 l hl
    rw [(hx.2.2 9 (by omega) (by decide)).2, (hx.2.2 _ z.1.2.1 (by have := z.1.1; simp; omega)).1, d.1 5 (by decide) (by decide)]
    exact ⟨z.1.fr hx, z.2⟩
  · rw [z1] at hi
    rw [hR9]
    by_cases hlc : i = pl_N A 0 5 0
    · subst hlc
      rw [if_pos rfl, z3]
      exact ⟨⟨by omega, by omega, hnew.1⟩, hnew.2⟩
    · have z := hC.2.2.2.2.2.1.2 i (by omega)
      rw [if_neg hlc, z2 i hlc, (hx.2.2 _ z.1.2.1 (by have := z.1.1; simp; omega)).1]
      exact ⟨z.1.fr hx, z.2⟩
theorem pl_bW {A : pl_A} {a b x y : Nat} (hW : pl_W A) (hc : pl_N A 0 5 0 < 10) (h1 : a ≤ 9) (h2 : b ≤ 9) (h3 : x ≤ 999) (h4 : y ≤ 999) : pl_W (pl_sR A 6 (pl_N A 0 5 0) (pl_4 a b x y) 5 (pl_N A 0 5 0 + 1)) := by
  obtain ⟨d, z1, z2, z3, z6⟩ := pl_sR_d A 6 (pl_N A 0 5 0) (pl_4 a b x y) 5 (pl_N A 0 5 0 + 1) (by decide)
  generalize pl_sR A 6 (pl_N A 0 5 0) (pl_4 a b x y) 5 (pl_N A 0 5 0 + 1) = B at *
  obtain ⟨f1, f2, f3, f4, f5, -, f7, f8⟩ := pl_Wd d hW
  refine ⟨?_, f1 (by decide), f2 (by decide), f3 (by decide), f4 (by decide), f5 (by decide), fun l hl => ?_, f7 (by decide), f8 (by decide)⟩
  · have hw := hW.1
    unfold pl_Wc at *
    rw [d.2.1 0 (by decide), d.2.1 1 (by decide), d.2.1 2 (by decide), d.2.1 3 (by decide), z1, d.2.1 4 (by decide), d.2.1 6 (by decide), d.2.1 7 (by decide), d.2.1 8 (by decide)]
    omega
  · by_cases hlc : l = pl_N A 0 5 0
    · subst hlc
      rw [z3]
      simp [pl_4]
      omega
    · rw [z2 l hlc]
      exact hW.2.2.2.2.2.2.1 l (by omega)
def pl_bM (M : ml_M) (c a b x y : Nat) : ml_M := ml_sI (ml_sI (ml_sI (ml_sI (ml_sI M 53 (4 * c) (nI a)) 53 (4 * c + 1) (nI b)) 53 (4 * c + 2) (nI x)) 53 (4 * c + 3) (nI y)) 33 37 (nI (c + 1))
theorem pl_bM_m {A : pl_A} {M : ml_M} (hM : pl_M A M) {a b x y : Nat} : pl_M (pl_sR A 6 (pl_N A 0 5 0) (pl_4 a b x y) 5 (pl_N A 0 5 0 + 1)) (pl_bM M (pl_N A 0 5 0) a b x y) := by
  obtain ⟨d, z1, z2, z3, z6⟩ := pl_sR_d A 6 (pl_N A 0 5 0) (pl_4 a b x y) 5 (pl_N A 0 5 0 + 1) (by decide)
  have hI : ∀ q, 34 < q → q ≤ 60 → q ∉ [53] → ml_I (pl_bM M (pl_N A 0 5 0) a b x y) q = ml_I M q := fun q h1 h2 h3 => by
    have h3 : q ≠ 53 := by simpa using h3
    have h4 : q ≠ 33 := by omega
    funext j; unfold pl_bM; simp [pl_I_sI, pl_I_sR, pl_I_sJ, pl_I_al, pl_I_cp, pl_I_cl, pl_R_sI, pl_R_sR, pl_R_sJ, pl_R_al, pl_R_cp, pl_R_cl, pl_J_sI, pl_J_sR, pl_J_sJ, pl_J_al, pl_J_cp, pl_J_cl, pl_K_sI, pl_K_sR, pl_K_sJ, pl_K_al, pl_K_cp, pl_K_cl, pl_n_sI, pl_n_sR, pl_n_sJ, pl_n_al, pl_n_cp, pl_n_cl, pl_s_sI, pl_s_sR, pl_s_sJ, pl_s_al, pl_s_cp, pl_s_cl, h3, h4]
  have hI34 : ml_I (pl_bM M (pl_N A 0 5 0) a b x y) 34 = ml_I M 34 := by funext j; unfold pl_bM; simp [pl_I_sI, pl_I_sR, pl_I_sJ, pl_I_al, pl_I_cp, pl_I_cl, pl_R_sI, pl_R_sR, pl_R_sJ, pl_R_al, pl_R_cp, pl_R_cl, pl_J_sI, pl_J_sR, pl_J_sJ, pl_J_al, pl_J_cp, pl_J_cl, pl_K_sI, pl_K_sR, pl_K_sJ, pl_K_al, pl_K_cp, pl_K_cl, pl_n_sI, pl_n_sR, pl_n_sJ, pl_n_al, pl_n_cp, pl_n_cl, pl_s_sI, pl_s_sR, pl_s_sJ, pl_s_al, pl_s_cp, pl_s_cl]
  have hI33 : ∀ j, ml_I (pl_bM M (pl_N A 0 5 0) a b x y) 33 j = if j = 37 then nI (pl_N A 0 5 0 + 1) else ml_I M 33 j := fun j => by unfold pl_bM; simp [pl_I_sI, pl_I_sR, pl_I_sJ, pl_I_al, pl_I_cp, pl_I_cl, pl_R_sI, pl_R_sR, pl_R_sJ, pl_R_al, pl_R_cp, pl_R_cl, pl_J_sI, pl_J_sR, pl_J_sJ, pl_J_al, pl_J_cp, pl_J_cl, pl_K_sI, pl_K_sR, pl_K_sJ, pl_K_al, pl_K_cp, pl_K_cl, pl_n_sI, pl_n_sR, pl_n_sJ, pl_n_al, pl_n_cp, pl_n_cl, pl_s_sI, pl_s_sR, pl_s_sJ, pl_s_al, pl_s_cp, pl_s_cl]
  have hJ : ml_J (pl_bM M (pl_N A 0 5 0) a b x y) = ml_J M := rfl
  have h51 : ∀ l k, k < 4 → ml_I (pl_bM M (pl_N A 0 5 0) a b x y) 53 (4 * l + k) = if l = pl_N A 0 5 0 then nI (pl_4 a b x y k) else ml_I M 53 (4 * l + k) := fun l k hk => by
    unfold pl_bM
    simp only [pl_I_sI, pl_I_sR, pl_I_sJ, pl_I_al, pl_I_cp, pl_I_cl, pl_R_sI, pl_R_sR, pl_R_sJ, pl_R_al, pl_R_cp, pl_R_cl, pl_J_sI, pl_J_sR, pl_J_sJ, pl_J_al, pl_J_cp, pl_J_cl, pl_K_sI, pl_K_sR, pl_K_sJ, pl_K_al, pl_K_cp, pl_K_cl, pl_n_sI, pl_n_sR, pl_n_sJ, pl_n_al, pl_n_cp, pl_n_cl, pl_s_sI, pl_s_sR, pl_s_sJ, pl_s_al, pl_s_cp, pl_s_cl]
    by_cases hl : l = pl_N A 0 5 0
    · subst hl
      have hk3 : k = 0 ∨ k = 1 ∨ k = 2 ∨ k = 3 := by omega
      rcases hk3 with rfl | rfl | rfl | rfl <;> simp [pl_4]
    · rw [if_neg (by omega), if_neg (by omega), if_neg (by omega), if_neg (by omega), if_neg (by omega), if_neg hl]
  generalize pl_bM M (pl_N A 0 5 0) a b x y = m1 at *
  generalize pl_sR A 6 (pl_N A 0 5 0) (pl_4 a b x y) 5 (pl_N A 0 5 0 + 1) = B at *
  obtain ⟨g1, g2, g3, g4, g5, -, g7⟩ := pl_Mxd d hM hI
  refine ⟨?_, g1 (by decide), g2 (by decide), g3 (by decide), g4 (by decide), g5 (by decide), fun l hl k hk => ?_, g7 (by decide)⟩
  · obtain ⟨b1, b2, b3, b4, b5, b6, b7, b8, b9, b10, b11, b12⟩ := hM.1
    unfold pl_Mb
    rw [hJ, hI34, d.2.1 0 (by decide), d.2.1 1 (by decide), d.2.1 2 (by decide), d.2.1 3 (by decide), z1, d.2.1 4 (by decide), d.2.1 6 (by decide), d.2.1 7 (by decide), d.2.1 8 (by decide), d.2.2 3 (by decide), d.2.2 4 (by decide), z6]
    have hI3 : ∀ j, j ≠ 37 → ml_I m1 33 j = ml_I M 33 j := fun j hj => by rw [hI33, if_neg hj]
    rw [hI3 9 (by decide), hI3 10 (by decide), hI3 11 (by decide), hI3 24 (by decide), hI33 37, if_pos rfl, hI3 34 (by decide), hI3 46 (by decide), hI3 23 (by decide), hI3 0 (by decide), hI3 2 (by decide)]
    exact ⟨b1, b2, b3, b4, b5, Eq.refl _, b7, b8, b9, b10, b11, b12⟩
  · rw [h51 l k hk]
    by_cases hlc : l = pl_N A 0 5 0
    · subst hlc
      rw [if_pos rfl, z3]
    · rw [if_neg hlc, z2 l hlc]
      exact hM.2.2.2.2.2.2.1 l (by omega) k hk
theorem pl_op_bit (a b x y : Int32) : pl_Ok (fX10_bit 1 a b x y) (fX11_bit 33 a b x y) := by
  intro A m h
  have hS := h.1
  have hw := h.2.1.1
  unfold pl_Wc at hw
  have hC := h.2.2.2
  have hM := h.2.2.1
  have hn60 := hS.2.2
  rcases Classical.em (¬ (nI 1 ≤ a ∧ a ≤ nI 9)) with ha | ha
  · refine pl_Ok.same h (-1) ?_ ?_ <;> simp only [fX10_bit, fX11_bit, ↓pl_let, pl_b1, pl_b2, ↓reduceIte, pl_within, pl_inM, pl_l1, pl_l2, pl_l3, pl_l4, pl_l5, pl_l6, pl_l7, pl_l8, pl_l9, pl_l10, pl_l11, pl_l12, pl_l13, pl_l14, pl_l15, pl_l16, pl_l17, pl_l18, pl_l19, pl_l20, pl_l21, pl_l22, pl_l23, pl_l24, pl_l25, pl_l26, pl_l27, pl_l28, pl_l29, pl_l30, pl_l31, pl_l32, pl_l33, pl_l34, pl_l35, pl_l36, pl_l37, pl_l38, pl_l39, pl_l40, pl_l41, pl_l42, pl_l43, pl_l44, pl_l45, pl_l46, pl_l47, pl_l48, pl_l49, pl_l50, pl_l51, pl_l52, pl_l53, pl_l54, pl_l55, pl_l56, pl_l57, pl_l58, pl_l59, pl_l60, pl_l61, pl_l62, pl_l63, pl_l64, pl_l99, pl_l100, pl_l119, pl_l120, pl_l255, pl_l256, pl_l999, pl_l1000, pl_l1023, pl_l1024, pl_l1111, pl_l5555, pl_l10240, ha, if_false]
  have ha := Classical.not_not.mp ha
  obtain ⟨a, ha9, rfl⟩ := (pl_rng (by decide)).mp ⟨Int32.le_trans (by decide) ha.1, ha.2⟩
  have ha1 : 1 ≤ a := (nI_leI (by omega) (by omega)).mp ha.1
  have hA : ¬ (1 ≤ a → 9 < a) := by omega
  rcases pl_rng0 (x := b) 9 (by decide) with hb | ⟨b, hb, rfl⟩
  · refine pl_Ok.same h (-1) ?_ ?_ <;> simp (maxSteps := 2000000) (disch := omega) [fX10_bit, fX11_bit, ↓pl_let, pl_b1, pl_b2, ↓reduceIte, pl_l1, pl_l2, pl_l3, pl_l4, pl_l5, pl_l6, pl_l7, pl_l8, pl_l9, pl_l10, pl_l11, pl_l12, pl_l13, pl_l14, pl_l15, pl_l16, pl_l17, pl_l18, pl_l19, pl_l20, pl_l21, pl_l22, pl_l23, pl_l24, pl_l25, pl_l26, pl_l27, pl_l28, pl_l29, pl_l30, pl_l31, pl_l32, pl_l33, pl_l34, pl_l35, pl_l36, pl_l37, pl_l38, pl_l39, pl_l40, pl_l41, pl_l42, pl_l43, pl_l44, pl_l45, pl_l46, pl_l47, pl_l48, pl_l49, pl_l50, pl_l51, pl_l52, pl_l53, pl_l54, pl_l55, pl_l56, pl_l57, pl_l58, pl_l59, pl_l60, pl_l61, pl_l62, pl_l63, pl_l64, pl_l99, pl_l100, pl_l119, pl_l120, pl_l255, pl_l256, pl_l999, pl_l1000, pl_l1023, pl_l1024, pl_l1111, pl_l5555, pl_l10240, pl_eq0, pl_le0, pl_lt0, pl_neg, pl_leN, pl_ltN, nI_leI, nI_ltI, nI_eq, nI_add, pk_mul, pl_sub, pk_div, pk_rem, nI_clamp, pl_in, pl_ofN, pl_shl1, pl_or, pl_and, pl_le1, pl_sz1, pl_within, pl_inM, pl_isRow, pl_isRowM, pl_isText, pl_isTextM, hb, hA]
  rcases pl_rng0 (x := x) 999 (by decide) with hx | ⟨x, hx, rfl⟩
  · refine pl_Ok.same h (-1) ?_ ?_ <;> simp (maxSteps := 2000000) (disch := omega) [fX10_bit, fX11_bit, ↓pl_let, pl_b1, pl_b2, ↓reduceIte, pl_l1, pl_l2, pl_l3, pl_l4, pl_l5, pl_l6, pl_l7, pl_l8, pl_l9, pl_l10, pl_l11, pl_l12, pl_l13, pl_l14, pl_l15, pl_l16, pl_l17, pl_l18, pl_l19, pl_l20, pl_l21, pl_l22, pl_l23, pl_l24, pl_l25, pl_l26, pl_l27, pl_l28, pl_l29, pl_l30, pl_l31, pl_l32, pl_l33, pl_l34, pl_l35, pl_l36, pl_l37, pl_l38, pl_l39, pl_l40, pl_l41, pl_l42, pl_l43, pl_l44, pl_l45, pl_l46, pl_l47, pl_l48, pl_l49, pl_l50, pl_l51, pl_l52, pl_l53, pl_l54, pl_l55, pl_l56, pl_l57, pl_l58, pl_l59, pl_l60, pl_l61, pl_l62, pl_l63, pl_l64, pl_l99, pl_l100, pl_l119, pl_l120, pl_l255, pl_l256, pl_l999, pl_l1000, pl_l1023, pl_l1024, pl_l1111, pl_l5555, pl_l10240, pl_eq0, pl_le0, pl_lt0, pl_neg, pl_leN, pl_ltN, nI_leI, nI_ltI, nI_eq, nI_add, pk_mul, pl_sub, pk_div, pk_rem, nI_clamp, pl_in, pl_ofN, pl_shl1, pl_or, pl_and, pl_le1, pl_sz1, pl_within, pl_inM, pl_isRow, pl_isRowM, pl_isText, pl_isTextM, hx, hA, show ¬ 9 < b by omega]
  rcases pl_rng0 (x := y) 999 (by decide) with hy | ⟨y, hy, rfl⟩
  · refine pl_Ok.same h (-1) ?_ ?_ <;> simp (disch := omega) [fX10_bit, fX11_bit, ↓pl_let, pl_b1, pl_b2, ↓reduceIte, pl_l1, pl_l2, pl_l3, pl_l4, pl_l5, pl_l6, pl_l7, pl_l8, pl_l9, pl_l10, pl_l11, pl_l12, pl_l13, pl_l14, pl_l15, pl_l16, pl_l17, pl_l18, pl_l19, pl_l20, pl_l21, pl_l22, pl_l23, pl_l24, pl_l25, pl_l26, pl_l27, pl_l28, pl_l29, pl_l30, pl_l31, pl_l32, pl_l33, pl_l34, pl_l35, pl_l36, pl_l37, pl_l38, pl_l39, pl_l40, pl_l41, pl_l42, pl_l43, pl_l44, pl_l45, pl_l46, pl_l47, pl_l48, pl_l49, pl_l50, pl_l51, pl_l52, pl_l53, pl_l54, pl_l55, pl_l56, pl_l57, pl_l58, pl_l59, pl_l60, pl_l61, pl_l62, pl_l63, pl_l64, pl_l99, pl_l100, pl_l119, pl_l120, pl_l255, pl_l256, pl_l999, pl_l1000, pl_l1023, pl_l1024, pl_l1111, pl_l5555, pl_l10240, pl_eq0, pl_le0, pl_lt0, pl_neg, pl_leN, pl_ltN, nI_leI, nI_ltI, nI_eq, nI_add, pk_mul, pl_sub, pk_div, pk_rem, nI_clamp, pl_in, pl_ofN, pl_shl1, pl_or, pl_and, pl_le1, pl_sz1, pl_within, pl_inM, pl_isRow, pl_isRowM, pl_isText, pl_isTextM, hy, hA, show ¬ 9 < b by omega, show ¬ 999 < x by omega]
  by_cases hc : pl_N A 0 5 0 < 10
  · refine pl_Ok.mk (v := nI (pl_N A 0 5 0)) (pl_bC_md h (a := a) (b := b) (x := x) (y := y) hc) ?_ (by show ml_n m + 1 ≤ _; omega) (by show ml_s m + 4 ≤ _; omega) (pl_bW h.2.1 hc ha9 hb hx hy) fun M hS hM => ⟨pl_bM M (pl_N A 0 5 0) a b x y, ?_, (((((pl_mo.refl M).sI (by decide)).sI (by decide)).sI (by decide)).sI (by decide)).sI (by decide), pl_bM_m hM⟩
    · simp (disch := omega) [fX10_bit, fX0_init, ↓pl_let, pl_b1, pl_b2, ↓reduceIte, pl_k1 hS, pl_k2 hS, pl_k3 hS, pl_k8 hS, pl_k9 hS, pl_k10 hS, pl_k11 hS, pl_k12 hS, pl_k13 hS, pl_k14 hS, pl_k15 hS, pl_k16 hS, pl_k17 hS, pl_k18 hS, pl_k19 hS, pl_k20 hS, pl_k21 hS, pl_k22 hS, pl_k23 hS, pl_k24 hS, pl_k25 hS, pl_k26 hS, pl_k27 hS, pl_k28 hS, pl_k29 hS, pl_k30 hS, pl_k31 hS, pl_k32 hS, pl_r1_0 hS, pl_r1_1 hS, pl_r1_4 hS, pl_r1_6 hS, pl_r1_8 hS, pl_r1_10 hS, pl_r1_12 hS, pl_r1_13 hS, pl_r1_14 hS, pl_r1_18 hS, pl_r12_2 hS, pl_r12_3 hS, pl_r12_4 hS, pl_r12_8 hS, pl_r12_9 hS, pl_r12_10 hS, pl_r12_11 hS, pl_r12_12 hS, pl_r21_3 hS, pl_r21_5 hS, pl_r21_6 hS, pl_r21_7 hS, pl_r26_0 hS, pl_r26_2 hS, pl_r26_3 hS, pl_r26_4 hS, pl_r26_5 hS, pl_I_sI, pl_I_sR, pl_I_sJ, pl_I_alo, pl_I_aln, pl_R_sI, pl_R_sR, pl_R_sJ, pl_R_alo, pl_R_aln, pl_J_sI, pl_J_sR, pl_J_sJ, pl_K_sI, pl_K_sR, pl_K_sJ, pl_K_alo, pl_K_aln, pl_n_sI, pl_n_sR, pl_n_sJ, pl_n_al, pl_n_cp, pl_n_cl, pl_s_sI, pl_s_sR, pl_s_sJ, pl_s_al, pl_s_cp, pl_s_cl, pl_l1, pl_l2, pl_l3, pl_l4, pl_l5, pl_l6, pl_l7, pl_l8, pl_l9, pl_l10, pl_l11, pl_l12, pl_l13, pl_l14, pl_l15, pl_l16, pl_l17, pl_l18, pl_l19, pl_l20, pl_l21, pl_l22, pl_l23, pl_l24, pl_l25, pl_l26, pl_l27, pl_l28, pl_l29, pl_l30, pl_l31, pl_l32, pl_l33, pl_l34, pl_l35, pl_l36, pl_l37, pl_l38, pl_l39, pl_l40, pl_l41, pl_l42, pl_l43, pl_l44, pl_l45, pl_l46, pl_l47, pl_l48, pl_l49, pl_l50, pl_l51, pl_l52, pl_l53, pl_l54, pl_l55, pl_l56, pl_l57, pl_l58, pl_l59, pl_l60, pl_l61, pl_l62, pl_l63, pl_l64, pl_l99, pl_l100, pl_l119, pl_l120, pl_l255, pl_l256, pl_l999, pl_l1000, pl_l1023, pl_l1024, pl_l1111, pl_l5555, pl_l10240, pl_eq0, pl_le0, pl_lt0, pl_neg, pl_leN, pl_ltN, nI_leI, nI_ltI, nI_eq, nI_add, pk_mul, pl_sub, pk_div, pk_rem, nI_clamp, pl_in, pl_ofN, pl_shl1, pl_or, pl_and, pl_le1, pl_sz1, pl_within, pl_inM, pl_isRow, pl_isRowM, pl_isText, pl_isTextM, pl_leZ, pl_0eq, pl_0lt, pl_shl2, pl_shr2, pl_tcE, pl_tcN, pl_ne1, pl_rem3, hC.1.1, hC.1.2.1, hC.1.2.2.1, hC.1.2.2.2.1, hC.1.2.2.2.2.1, hc, hA, show ¬ 9 < b by omega, show ¬ 999 < x by omega, show ¬ 999 < y by omega, show ¬ 1 = ml_n m + 1 by omega, pl_bC]
    · have hc3 : 4 * pl_N A 0 5 0 + 3 < 40 := by omega
      simp (disch := omega) [fX11_bit, ↓pl_let, pl_b1, pl_b2, ↓reduceIte, pl_k33 hS, pl_k34 hS, pl_k35 hS, pl_k36 hS, pl_k37 hS, pl_k38 hS, pl_k39 hS, pl_k40 hS, pl_k41 hS, pl_k42 hS, pl_k43 hS, pl_k44 hS, pl_k45 hS, pl_k46 hS, pl_k47 hS, pl_k48 hS, pl_k49 hS, pl_k50 hS, pl_k51 hS, pl_k52 hS, pl_k53 hS, pl_k54 hS, pl_k55 hS, pl_k56 hS, pl_k57 hS, pl_k58 hS, pl_k59 hS, pl_k60 hS, pl_r33_1 hS, pl_r33_4 hS, pl_r33_5 hS, pl_r33_6 hS, pl_r33_7 hS, pl_r33_8 hS, pl_r33_12 hS, pl_r33_13 hS, pl_r33_14 hS, pl_r33_20 hS, pl_r33_21 hS, pl_r33_22 hS, pl_r33_25 hS, pl_r33_26 hS, pl_r33_27 hS, pl_r33_29 hS, pl_r33_31 hS, pl_r33_35 hS, pl_r33_36 hS, pl_r33_38 hS, pl_r33_39 hS, pl_r33_40 hS, pl_r33_42 hS, pl_r33_43 hS, pl_r33_44 hS, pl_r33_45 hS, pl_r33_47 hS, pl_I_sI, pl_I_sR, pl_I_sJ, pl_I_al, pl_I_cp, pl_I_cl, pl_R_sI, pl_R_sR, pl_R_sJ, pl_R_al, pl_R_cp, pl_R_cl, pl_J_sI, pl_J_sR, pl_J_sJ, pl_J_al, pl_J_cp, pl_J_cl, pl_K_sI, pl_K_sR, pl_K_sJ, pl_K_al, pl_K_cp, pl_K_cl, pl_n_sI, pl_n_sR, pl_n_sJ, pl_n_al, pl_n_cp, pl_n_cl, pl_s_sI, pl_s_sR, pl_s_sJ, pl_s_al, pl_s_cp, pl_s_cl, pl_l1, pl_l2, pl_l3, pl_l4, pl_l5, pl_l6, pl_l7, pl_l8, pl_l9, pl_l10, pl_l11, pl_l12, pl_l13, pl_l14, pl_l15, pl_l16, pl_l17, pl_l18, pl_l19, pl_l20, pl_l21, pl_l22, pl_l23, pl_l24, pl_l25, pl_l26, pl_l27, pl_l28, pl_l29, pl_l30, pl_l31, pl_l32, pl_l33, pl_l34, pl_l35, pl_l36, pl_l37, pl_l38, pl_l39, pl_l40, pl_l41, pl_l42, pl_l43, pl_l44, pl_l45, pl_l46, pl_l47, pl_l48, pl_l49, pl_l50, pl_l51, pl_l52, pl_l53, pl_l54, pl_l55, pl_l56, pl_l57, pl_l58, pl_l59, pl_l60, pl_l61, pl_l62, pl_l63, pl_l64, pl_l99, pl_l100, pl_l119, pl_l120, pl_l255, pl_l256, pl_l999, pl_l1000, pl_l1023, pl_l1024, pl_l1111, pl_l5555, pl_l10240, pl_eq0, pl_le0, pl_lt0, pl_neg, pl_leN, pl_ltN, nI_leI, nI_ltI, nI_eq, nI_add, pk_mul, pl_sub, pk_div, pk_rem, nI_clamp, pl_in, pl_ofN, pl_shl1, pl_or, pl_and, pl_le1, pl_sz1, pl_within, pl_inM, pl_isRow, pl_isRowM, pl_isText, pl_isTextM, pl_leZ, pl_0eq, pl_0lt, pl_shl2, pl_shr2, pl_tcE, pl_tcN, pl_ne1, pl_rem3, hM.1.1, hM.1.2.1, hM.1.2.2.1, hM.1.2.2.2.1, hM.1.2.2.2.2.1, hM.1.2.2.2.2.2.1, hM.1.2.2.2.2.2.2.1, hM.1.2.2.2.2.2.2.2.1, hA, show ¬ 9 < b by omega, show ¬ 999 < x by omega, show ¬ 999 < y by omega, show ¬ pl_N A 0 5 0 = 10 by omega, show 4 * pl_N A 0 5 0 < 40 by omega, show 4 * pl_N A 0 5 0 + 1 < 40 by omega, show 4 * pl_N A 0 5 0 + 2 < 40 by omega, hc3, pl_bM]
  · refine pl_Ok.same h (-2) ?_ ?_
    · simp (disch := omega) [fX10_bit, ↓pl_let, pl_b1, pl_b2, ↓reduceIte, pl_k1 hS, pl_k2 hS, pl_k3 hS, pl_k8 hS, pl_k9 hS, pl_k10 hS, pl_k11 hS, pl_k12 hS, pl_k13 hS, pl_k14 hS, pl_k15 hS, pl_k16 hS, pl_k17 hS, pl_k18 hS, pl_k19 hS, pl_k20 hS, pl_k21 hS, pl_k22 hS, pl_k23 hS, pl_k24 hS, pl_k25 hS, pl_k26 hS, pl_k27 hS, pl_k28 hS, pl_k29 hS, pl_k30 hS, pl_k31 hS, pl_k32 hS, pl_r1_0 hS, pl_r1_1 hS, pl_r1_4 hS, pl_r1_6 hS, pl_r1_8 hS, pl_r1_10 hS, pl_r1_12 hS, pl_r1_13 hS, pl_r1_14 hS, pl_r1_18 hS, pl_r12_2 hS, pl_r12_3 hS, pl_r12_4 hS, pl_r12_8 hS, pl_r12_9 hS, pl_r12_10 hS, pl_r12_11 hS, pl_r12_12 hS, pl_r21_3 hS, pl_r21_5 hS, pl_r21_6 hS, pl_r21_7 hS, pl_r26_0 hS, pl_r26_2 hS, pl_r26_3 hS, pl_r26_4 hS, pl_r26_5 hS, pl_l1, pl_l2, pl_l3, pl_l4, pl_l5, pl_l6, pl_l7, pl_l8, pl_l9, pl_l10, pl_l11, pl_l12, pl_l13, pl_l14, pl_l15, pl_l16, pl_l17, pl_l18, pl_l19, pl_l20, pl_l21, pl_l22, pl_l23, pl_l24, pl_l25, pl_l26, pl_l27, pl_l28, pl_l29, pl_l30, pl_l31, pl_l32, pl_l33, pl_l34, pl_l35, pl_l36, pl_l37, pl_l38, pl_l39, pl_l40, pl_l41, pl_l42, pl_l43, pl_l44, pl_l45, pl_l46, pl_l47, pl_l48, pl_l49, pl_l50, pl_l51, pl_l52, pl_l53, pl_l54, pl_l55, pl_l56, pl_l57, pl_l58, pl_l59, pl_l60, pl_l61, pl_l62, pl_l63, pl_l64, pl_l99, pl_l100, pl_l119, pl_l120, pl_l255, pl_l256, pl_l999, pl_l1000, pl_l1023, pl_l1024, pl_l1111, pl_l5555, pl_l10240, pl_eq0, pl_le0, pl_lt0, pl_neg, pl_leN, pl_ltN, nI_leI, nI_ltI, nI_eq, nI_add, pk_mul, pl_sub, pk_div, pk_rem, nI_clamp, pl_in, pl_ofN, pl_shl1, pl_or, pl_and, pl_le1, pl_sz1, pl_within, pl_inM, pl_isRow, pl_isRowM, pl_isText, pl_isTextM, pl_leZ, pl_0eq, pl_0lt, pl_shl2, pl_shr2, pl_tcE, pl_tcN, pl_ne1, pl_rem3, hC.1.1, hC.1.2.1, hC.1.2.2.1, hC.1.2.2.2.1, hC.1.2.2.2.2.1, hc, hA, show ¬ 9 < b by omega, show ¬ 999 < x by omega, show ¬ 999 < y by omega]
    · simp (disch := omega) [fX11_bit, ↓pl_let, pl_b1, pl_b2, ↓reduceIte, pl_k33 hS, pl_k34 hS, pl_k35 hS, pl_k36 hS, pl_k37 hS, pl_k38 hS, pl_k39 hS, pl_k40 hS, pl_k41 hS, pl_k42 hS, pl_k43 hS, pl_k44 hS, pl_k45 hS, pl_k46 hS, pl_k47 hS, pl_k48 hS, pl_k49 hS, pl_k50 hS, pl_k51 hS, pl_k52 hS, pl_k53 hS, pl_k54 hS, pl_k55 hS, pl_k56 hS, pl_k57 hS, pl_k58 hS, pl_k59 hS, pl_k60 hS, pl_r33_1 hS, pl_r33_4 hS, pl_r33_5 hS, pl_r33_6 hS, pl_r33_7 hS, pl_r33_8 hS, pl_r33_12 hS, pl_r33_13 hS, pl_r33_14 hS, pl_r33_20 hS, pl_r33_21 hS, pl_r33_22 hS, pl_r33_25 hS, pl_r33_26 hS, pl_r33_27 hS, pl_r33_29 hS, pl_r33_31 hS, pl_r33_35 hS, pl_r33_36 hS, pl_r33_38 hS, pl_r33_39 hS, pl_r33_40 hS, pl_r33_42 hS, pl_r33_43 hS, pl_r33_44 hS, pl_r33_45 hS, pl_r33_47 hS, pl_l1, pl_l2, pl_l3, pl_l4, pl_l5, pl_l6, pl_l7, pl_l8, pl_l9, pl_l10, pl_l11, pl_l12, pl_l13, pl_l14, pl_l15, pl_l16, pl_l17, pl_l18, pl_l19, pl_l20, pl_l21, pl_l22, pl_l23, pl_l24, pl_l25, pl_l26, pl_l27, pl_l28, pl_l29, pl_l30, pl_l31, pl_l32, pl_l33, pl_l34, pl_l35, pl_l36, pl_l37, pl_l38, pl_l39, pl_l40, pl_l41, pl_l42, pl_l43, pl_l44, pl_l45, pl_l46, pl_l47, pl_l48, pl_l49, pl_l50, pl_l51, pl_l52, pl_l53, pl_l54, pl_l55, pl_l56, pl_l57, pl_l58, pl_l59, pl_l60, pl_l61, pl_l62, pl_l63, pl_l64, pl_l99, pl_l100, pl_l119, pl_l120, pl_l255, pl_l256, pl_l999, pl_l1000, pl_l1023, pl_l1024, pl_l1111, pl_l5555, pl_l10240, pl_eq0, pl_le0, pl_lt0, pl_neg, pl_leN, pl_ltN, nI_leI, nI_ltI, nI_eq, nI_add, pk_mul, pl_sub, pk_div, pk_rem, nI_clamp, pl_in, pl_ofN, pl_shl1, pl_or, pl_and, pl_le1, pl_sz1, pl_within, pl_inM, pl_isRow, pl_isRowM, pl_isText, pl_isTextM, pl_leZ, pl_0eq, pl_0lt, pl_shl2, pl_shr2, pl_tcE, pl_tcN, pl_ne1, pl_rem3, hM.1.1, hM.1.2.1, hM.1.2.2.1, hM.1.2.2.2.1, hM.1.2.2.2.2.1, hM.1.2.2.2.2.2.1, hM.1.2.2.2.2.2.2.1, hM.1.2.2.2.2.2.2.2.1, show pl_N A 0 5 0 = 10 by omega, hA, show ¬ 9 < b by omega, show ¬ 999 < x by omega, show ¬ 999 < y by omega]

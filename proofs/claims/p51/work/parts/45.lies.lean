/-! THINGS: lies. -/
theorem pl_Cx8 {A B : pl_A} {m m1 : ml_M} {xs gs cs vs : List Nat} (d : pl_dif gs cs vs A B) (hS : pl_Sh m) (hC : pl_C A m) (hx : pl_ex xs m m1) (hf : ∀ a ∈ xs, a ∈ pl_fx ∨ (60 < a ∧ (ml_K m a).1 = 8)) (hr : ml_R m1 1 2 = ml_R m 1 2) (hn : ∀ a, a ≤ 32 → (∀ b ∈ xs, b ≤ 60 → a ≠ b) → a ∉ xs) :
    (((∀ b ∈ xs, b ≤ 60 → 2 ≠ b) ∧ 8 ∉ gs ∧ 0 ∉ vs) → pl_Cr B m1) ∧ (((∀ b ∈ xs, b ≤ 60 → 3 ≠ b) ∧ 9 ∉ gs ∧ 1 ∉ vs) → pl_Ct B m1) ∧ ((1 ∉ gs ∧ 2 ∉ gs ∧ 3 ∉ gs ∧ 0 ∉ cs ∧ 1 ∉ cs ∧ 2 ∉ cs) → pl_Ch B m1) ∧
    (((∀ b ∈ xs, b ≤ 60 → 9 ≠ b ∧ 10 ≠ b) ∧ 5 ∉ gs ∧ 6 ∉ gs ∧ 4 ∉ cs ∧ 5 ∉ cs) → pl_Cn B m1) ∧ (((∀ b ∈ xs, b ≤ 60 → 11 ≠ b ∧ 2 ≠ b) ∧ 7 ∉ gs ∧ 6 ∉ cs ∧ 2 ∉ vs) → pl_Ck B m1) ∧
    (((∀ b ∈ xs, b ≤ 60 → 21 ≠ b ∧ 22 ≠ b ∧ 31 ≠ b) ∧ 6 ∉ gs ∧ 5 ∉ cs) → pl_Cy B m1) := by
  obtain ⟨h1, h2, h3, h4, h5, h6, h7, h8, h9⟩ := hC
  obtain ⟨e, c, v⟩ := d
  have hl : ∀ k a, k ≠ 8 → a ∈ xs → a ≤ 60 ∨ (ml_K m a).1 ≠ k := fun k a hk ha => by
    rcases hf a ha with z | z
    · exact Or.inl (pl_fxL a z)
    · exact Or.inr (by omega)
  have hk : ∀ k ∈ [1, 28, 30], ∀ a ∈ xs, (ml_K m a).1 ≠ k := fun k hk a ha => by
    rcases hf a ha with z | z
    · exact pl_fxK hS a z k hk
    · simp only [List.mem_cons, List.not_mem_nil, or_false] at hk
      omega
  exact ⟨fun h => h2.fr hS hx (hn 2 (by decide) h.1) (fun a ha => hl 20 a (by decide) ha) (e 8 (by decide) h.2.1) (v 0 h.2.2), fun h => h3.fr hS hx (hn 3 (by decide) h.1) (fun a ha => hl 21 a (by decide) ha) (e 9 (by decide) h.2.1) (v 1 h.2.2),
    fun h => h4.fr hx hr hk (fun k hk a ha => hl k a (by simp only [List.mem_cons, List.not_mem_nil, or_false] at hk; omega) ha) (e 1 (by decide) h.1) (e 2 (by decide) h.2.1) (e 3 (by decide) h.2.2.1) (c 0 h.2.2.2.1) (c 1 h.2.2.2.2.1) (c 2 h.2.2.2.2.2),
    fun h => h6.fr hS hx (hn 9 (by decide) fun b hb hl => (h.1 b hb hl).1) (hn 10 (by decide) fun b hb hl => (h.1 b hb hl).2) (fun k hk a ha => hl k a (by simp only [List.mem_cons, List.not_mem_nil, or_false] at hk; omega) ha) (e 5 (by decide) h.2.1) (e 6 (by decide) h.2.2.1) (c 4 h.2.2.2.1) (c 5 h.2.2.2.2),
    fun h => h7.fr2 hS hx (hn 11 (by decide) fun b hb hl => (h.1 b hb hl).1) (hn 2 (by decide) fun b hb hl => (h.1 b hb hl).2) (fun a ha => by
      rcases hf a ha with z | z
      · exact Or.inl (pl_fxL a z)
      · exact Or.inr (by omega)) (e 7 (by decide) h.2.1) (c 6 h.2.2.1) (v 2 h.2.2.2),
    fun h => h9.fr hS hx (hn 21 (by decide) fun b hb hl => (h.1 b hb hl).1) ⟨hn 22 (by decide) fun b hb hl => (h.1 b hb hl).2.1, hn 31 (by decide) fun b hb hl => (h.1 b hb hl).2.2⟩ (e 6 (by decide) h.2.1) (c 5 h.2.2)⟩
theorem pl_may_eq2 {A B : pl_A} {i : Nat} (e1 : pl_N B 1 = pl_N A 1) (e4 : ∀ k, k ≠ 3 → k ≠ 4 → pl_N B 4 i k = pl_N A 4 i k) (l : Nat) : pl_may B l i = pl_may A l i := by
  unfold pl_may
  rw [e1, e4 0 (by decide) (by decide), e4 1 (by decide) (by decide), e4 2 (by decide) (by decide), e4 5 (by decide) (by decide), e4 6 (by decide) (by decide)]
theorem pl_own_eq2 {A B : pl_A} {i : Nat} (e1 : pl_N B 1 = pl_N A 1) (e4 : ∀ k, k ≠ 3 → k ≠ 4 → pl_N B 4 i k = pl_N A 4 i k) (c0 : pl_N B 0 0 0 = pl_N A 0 0 0) : pl_own B i = pl_own A i := by
  unfold pl_own
  rw [c0]
  congr 1
  funext l
  exact pl_may_eq2 e1 e4 l
/-- thing i lies elsewhere -/
def pl_iA (A : pl_A) (i t w : Nat) : pl_A := pl_sN (pl_sN A 4 i 3 t) 4 i 4 w
theorem pl_iA_d (A : pl_A) (i t w : Nat) : pl_dif [4] [] [] A (pl_iA A i t w) ∧ (∀ j, j ≠ i → pl_N (pl_iA A i t w) 4 j = pl_N A 4 j) ∧ (∀ k, k ≠ 3 → k ≠ 4 → pl_N (pl_iA A i t w) 4 i k = pl_N A 4 i k) ∧ pl_N (pl_iA A i t w) 4 i 3 = t ∧ pl_N (pl_iA A i t w) 4 i 4 = w ∧ pl_L (pl_iA A i t w) = pl_L A := by
  refine ⟨⟨fun g h1 h2 => ?_, fun j h => ?_, fun g _ => ?_⟩, fun j hj => ?_, fun k h3 h4 => ?_, ?_, ?_, ?_⟩
  · have h2 : g ≠ 4 := by simpa using h2
    funext i k; unfold pl_iA; simp [pl_N_sN, pl_N_sV, pl_N_sVr, pl_N_sL, pl_V_sN, pl_V_sV, pl_V_sVr, pl_V_sL, pl_L_sN, pl_L_sV, pl_L_sVr, pl_L_sL, h2]
  · unfold pl_iA; simp [pl_N_sN, pl_N_sV, pl_N_sVr, pl_N_sL, pl_V_sN, pl_V_sV, pl_V_sVr, pl_V_sL, pl_L_sN, pl_L_sV, pl_L_sVr, pl_L_sL]
  · funext i k; unfold pl_iA; simp [pl_N_sN, pl_N_sV, pl_N_sVr, pl_N_sL, pl_V_sN, pl_V_sV, pl_V_sVr, pl_V_sL, pl_L_sN, pl_L_sV, pl_L_sVr, pl_L_sL]
  · funext k; unfold pl_iA; simp [pl_N_sN, pl_N_sV, pl_N_sVr, pl_N_sL, pl_V_sN, pl_V_sV, pl_V_sVr, pl_V_sL, pl_L_sN, pl_L_sV, pl_L_sVr, pl_L_sL, hj]
  · unfold pl_iA; simp [pl_N_sN, pl_N_sV, pl_N_sVr, pl_N_sL, pl_V_sN, pl_V_sV, pl_V_sVr, pl_V_sL, pl_L_sN, pl_L_sV, pl_L_sVr, pl_L_sL, h3, h4]
  · unfold pl_iA; simp [pl_N_sN, pl_N_sV, pl_N_sVr, pl_N_sL, pl_V_sN, pl_V_sV, pl_V_sVr, pl_V_sL, pl_L_sN, pl_L_sV, pl_L_sVr, pl_L_sL]
  · unfold pl_iA; simp [pl_N_sN, pl_N_sV, pl_N_sVr, pl_N_sL, pl_V_sN, pl_V_sV, pl_V_sVr, pl_V_sL, pl_L_sN, pl_L_sV, pl_L_sVr, pl_L_sL]
  · unfold pl_iA; simp [pl_N_sN, pl_N_sV, pl_N_sVr, pl_N_sL, pl_V_sN, pl_V_sV, pl_V_sVr, pl_V_sL, pl_L_sN, pl_L_sV, pl_L_sVr, pl_L_sL]
def pl_iC (m : ml_M) (i t w : Nat) : ml_M := ml_sI (ml_sI (ml_sI m (ml_R m 8 i) 6 (pl_tc t)) (ml_R m 8 i) 7 (nI w)) 12 0 1
theorem pl_iC_md {A : pl_A} {m : ml_M} (h : pl_Rel A m) {i t w : Nat} (hi : i < pl_N A 0 3 0) : pl_Md A (pl_iA A i t w) (pl_iC m i t w) := by
  obtain ⟨hS, hW, hM, hC⟩ := h
  have hn := hS.2.2
  have hdy := (hC.2.2.2.2.1.1 i hi).1
  have hx : pl_ex [ml_R m 8 i, 12] m (pl_iC m i t w) := (((pl_ex.refl _ m).sI (by simp)).sI (by simp)).sI (by simp)
  obtain ⟨d, z1, z2, z3, z4, z5⟩ := pl_iA_d A i t w
  have hK1 : ml_K (pl_iC m i t w) = ml_K m := rfl
  have hR1 : ml_R (pl_iC m i t w) = ml_R m := rfl
  have hn1 : ml_n (pl_iC m i t w) = ml_n m := rfl
  have hJ1 : ml_J (pl_iC m i t w) = ml_J m := rfl
  have hne : ¬ ml_R m 8 i = 12 := by have := hdy.1; omega
  have hst : ml_I (pl_iC m i t w) 12 0 = 1 := by unfold pl_iC; simp [pl_I_sI, pl_I_sR, pl_I_sJ, pl_I_al, pl_I_cp, pl_I_cl, pl_R_sI, pl_R_sR, pl_R_sJ, pl_R_al, pl_R_cp, pl_R_cl, pl_J_sI, pl_J_sR, pl_J_sJ, pl_J_al, pl_J_cp, pl_J_cl, pl_K_sI, pl_K_sR, pl_K_sJ, pl_K_al, pl_K_cp, pl_K_cl, pl_n_sI, pl_n_sR, pl_n_sJ, pl_n_al, pl_n_cp, pl_n_cl, pl_s_sI, pl_s_sR, pl_s_sJ, pl_s_al, pl_s_cp, pl_s_cl]
  have hI : ∀ k, ml_I (pl_iC m i t w) (ml_R m 8 i) k = if k = 6 then pl_tc t else if k = 7 then nI w else ml_I m (ml_R m 8 i) k := fun k => by
    unfold pl_iC
    simp only [pl_I_sI, pl_I_sR, pl_I_sJ, pl_I_al, pl_I_cp, pl_I_cl, pl_R_sI, pl_R_sR, pl_R_sJ, pl_R_al, pl_R_cp, pl_R_cl, pl_J_sI, pl_J_sR, pl_J_sJ, pl_J_al, pl_J_cp, pl_J_cl, pl_K_sI, pl_K_sR, pl_K_sJ, pl_K_al, pl_K_cp, pl_K_cl, pl_n_sI, pl_n_sR, pl_n_sJ, pl_n_al, pl_n_cp, pl_n_cl, pl_s_sI, pl_s_sR, pl_s_sJ, pl_s_al, pl_s_cp, pl_s_cl, hne, false_and, if_false, true_and]
    by_cases h6 : k = 6
    · subst h6; simp
    · by_cases h7 : k = 7
      · subst h7; simp
      · simp [h6, h7]
  have hco : pl_co m (pl_iC m i t w) := (((pl_co.refl m).sI (Or.inr hdy.1)).sI (Or.inr hdy.1)).sI (by decide)
  generalize pl_iC m i t w = m1 at *
  generalize pl_iA A i t w = B at *
  have hS1 : pl_Sh m1 := hS.to (by omega) (fun a _ => by rw [hK1]) (fun q _ => by rw [hR1])
  have hxs : ∀ b ∈ [ml_R m 8 i, 12], b ≤ 60 → b = 12 := fun b hb hl => by
    simp only [List.mem_cons, List.not_mem_nil, or_false] at hb
    have := hdy.1
    omega
  obtain ⟨fr, ft, fh, fn, fk, fy⟩ := pl_Cx8 d hS hC hx (fun a ha => by
    simp only [List.mem_cons, List.not_mem_nil, or_false] at ha
    rcases ha with rfl | rfl
    · exact Or.inr ⟨hdy.1, by rw [hdy.2.2]⟩
    · exact Or.inl (by decide)) (by rw [hR1]) (fun a ha hb => by
    simp only [List.mem_cons, List.not_mem_nil, or_false]
    have := hdy.1
    have := hb 12 (by simp) (by decide)
    omega)
  have hd12 : ∀ k, k ≠ 12 → ∀ b ∈ [ml_R m 8 i, 12], b ≤ 60 → k ≠ b := fun k hk b hb hl => by rw [hxs b hb hl]; exact hk
  refine ⟨hS1, hW, hco.m hM, ?_, fr ⟨hd12 2 (by decide), by decide, by decide⟩, ft ⟨hd12 3 (by decide), by decide, by decide⟩, fh (by decide), ⟨fun j hj => ?_, fun j k hj hk he => ?_⟩, fn ⟨fun b hb hl => ⟨hd12 9 (by decide) b hb hl, hd12 10 (by decide) b hb hl⟩, by decide⟩, fk ⟨fun b hb hl => ⟨hd12 11 (by decide) b hb hl, hd12 2 (by decide) b hb hl⟩, by decide⟩, Or.inl hst, fy ⟨fun b hb hl => ⟨hd12 21 (by decide) b hb hl, hd12 22 (by decide) b hb hl, hd12 31 (by decide) b hb hl⟩, by decide⟩⟩
  · have h1 := (hx.2.2 1 (by omega) (by have := hdy.1; simp; omega)).1
    have h32 := (hx.2.2 32 (by omega) (by have := hdy.1; simp; omega)).1
    unfold pl_Cb
    rw [h1, h32, hJ1, d.2.1 7 (by decide), d.2.1 3 (by decide), d.2.1 4 (by decide), d.2.1 5 (by decide), d.2.1 6 (by decide), d.2.1 8 (by decide), d.2.2 3 (by decide), d.2.2 4 (by decide), z5]
    exact hC.1
  · rw [d.2.1 3 (by decide)] at hj
    rw [hR1]
    have z := hC.2.2.2.2.1.1 j hj
    refine ⟨z.1.fr hx, ?_⟩
    by_cases hji : j = i
    · subst hji
      rw [pl_own_eq2 (d.1 1 (by decide) (by decide)) z2 (d.2.1 0 (by decide)), z2 0 (by decide) (by decide), z2 1 (by decide) (by decide), z2 2 (by decide) (by decide), z2 5 (by decide) (by decide), z2 6 (by decide) (by decide), z3, z4, hI, hI, hI, hI, hI, hI, hI, hI]
      simp only [Nat.reduceEqDiff, if_false, if_true]
      exact ⟨z.2.1, z.2.2.1, z.2.2.2.1, z.2.2.2.2.1, z.2.2.2.2.2.1, z.2.2.2.2.2.2.1, trivial, trivial⟩
    · have hjne : ml_R m 8 j ∉ [ml_R m 8 i, 12] := by
        simp only [List.mem_cons, List.not_mem_nil, or_false]
        have := z.1.1
        rintro (y | y)
        · exact hji (hC.2.2.2.2.1.2 j i hj hi y)
        · omega
      rw [(hx.2.2 _ z.1.2.1 hjne).1, z1 j hji, pl_own_eq2 (d.1 1 (by decide) (by decide)) (fun k _ _ => by rw [z1 j hji]) (d.2.1 0 (by decide))]
      exact z.2
  · rw [d.2.1 3 (by decide)] at hj hk
    rw [hR1] at he
    exact hC.2.2.2.2.1.2 j k hj hk he
theorem pl_iW {A : pl_A} (hW : pl_W A) {i t w : Nat} (hi : i < pl_N A 0 3 0) (ht : t = 100 ∨ t < pl_N A 0 1 0) (hw : w ≤ 1) : pl_W (pl_iA A i t w) := by
  obtain ⟨d, z1, z2, z3, z4, z5⟩ := pl_iA_d A i t w
  generalize pl_iA A i t w = B at *
  obtain ⟨f1, f2, f3, -, f5, f6, f7, f8⟩ := pl_Wd d hW
  refine ⟨?_, f1 (by decide), f2 (by decide), f3 (by decide), fun j hj => ?_, f5 (by decide), f6 (by decide), f7 (by decide), f8 (by decide)⟩
  · have h1 := hW.1
    unfold pl_Wc at *
    rw [d.2.1 0 (by decide), d.2.1 1 (by decide), d.2.1 2 (by decide), d.2.1 3 (by decide), d.2.1 5 (by decide), d.2.1 4 (by decide), d.2.1 6 (by decide), d.2.1 7 (by decide), d.2.1 8 (by decide)]
    exact h1
  · rw [d.2.1 3 (by decide)] at hj
    rw [d.2.1 1 (by decide)]
    have z := hW.2.2.2.2.1 j hj
    by_cases hji : j = i
    · subst hji
      rw [z2 0 (by decide) (by decide), z2 1 (by decide) (by decide), z2 2 (by decide) (by decide), z2 5 (by decide) (by decide), z2 6 (by decide) (by decide), z3, z4]
      exact ⟨z.1, z.2.1, z.2.2.1, ht, hw, z.2.2.2.2.2⟩
    · rw [z1 j hji]
      exact z
def pl_iM (M : ml_M) (i t w : Nat) : ml_M := ml_sI (ml_sI M 46 (7 * i + 3) (pl_tc t)) 46 (7 * i + 4) (nI w)
theorem pl_iM_m {A : pl_A} {M : ml_M} (hM : pl_M A M) {i t w : Nat} : pl_M (pl_iA A i t w) (pl_iM M i t w) := by
  obtain ⟨d, z1, z2, z3, z4, z5⟩ := pl_iA_d A i t w
  have hI : ∀ q, q ≠ 46 → ml_I (pl_iM M i t w) q = ml_I M q := fun q h => by
    funext j; unfold pl_iM; simp [pl_I_sI, pl_I_sR, pl_I_sJ, pl_I_al, pl_I_cp, pl_I_cl, pl_R_sI, pl_R_sR, pl_R_sJ, pl_R_al, pl_R_cp, pl_R_cl, pl_J_sI, pl_J_sR, pl_J_sJ, pl_J_al, pl_J_cp, pl_J_cl, pl_K_sI, pl_K_sR, pl_K_sJ, pl_K_al, pl_K_cp, pl_K_cl, pl_n_sI, pl_n_sR, pl_n_sJ, pl_n_al, pl_n_cp, pl_n_cl, pl_s_sI, pl_s_sR, pl_s_sJ, pl_s_al, pl_s_cp, pl_s_cl, h]
  have hJ : ml_J (pl_iM M i t w) = ml_J M := rfl
  have h46 : ∀ x, ml_I (pl_iM M i t w) 46 x = if x = 7 * i + 4 then nI w else if x = 7 * i + 3 then pl_tc t else ml_I M 46 x := fun x => by
    unfold pl_iM; simp only [pl_I_sI, pl_I_sR, pl_I_sJ, pl_I_al, pl_I_cp, pl_I_cl, pl_R_sI, pl_R_sR, pl_R_sJ, pl_R_al, pl_R_cp, pl_R_cl, pl_J_sI, pl_J_sR, pl_J_sJ, pl_J_al, pl_J_cp, pl_J_cl, pl_K_sI, pl_K_sR, pl_K_sJ, pl_K_al, pl_K_cp, pl_K_cl, pl_n_sI, pl_n_sR, pl_n_sJ, pl_n_al, pl_n_cp, pl_n_cl, pl_s_sI, pl_s_sR, pl_s_sJ, pl_s_al, pl_s_cp, pl_s_cl, true_and]
  generalize pl_iM M i t w = m1 at *
  generalize pl_iA A i t w = B at *
  obtain ⟨g1, g2, g3, -, g5, g6, g7⟩ := pl_Mxd (ys := [46]) d hM (fun a _ _ h => hI a (by simpa using h))
  refine ⟨?_, g1 (by decide), g2 (by decide), g3 (by decide), fun j hj k hk => ?_, g5 (by decide), g6 (by decide), g7 (by decide)⟩
  · unfold pl_Mb
    rw [hJ, hI 33 (by decide), hI 34 (by decide), d.2.1 0 (by decide), d.2.1 1 (by decide), d.2.1 2 (by decide), d.2.1 3 (by decide), d.2.1 5 (by decide), d.2.1 4 (by decide), d.2.1 6 (by decide), d.2.1 7 (by decide), d.2.1 8 (by decide), d.2.2 3 (by decide), d.2.2 4 (by decide), z5]
    exact hM.1
  · rw [d.2.1 3 (by decide)] at hj
    have z := hM.2.2.2.2.1 j hj k hk
    rw [h46]
    by_cases hji : j = i
    · subst hji
      by_cases h4 : k = 4
      · subst h4
        rw [if_pos rfl, if_neg (by decide), z4]
      · rw [if_neg (by omega)]
        by_cases h3 : k = 3
        · subst h3
          rw [if_pos rfl, if_pos rfl, z3]
        · rw [if_neg (by omega), z, if_neg h3, if_neg h3, z2 k h3 h4]
    · rw [if_neg (by omega), if_neg (by omega), z1 j hji]
      exact z
theorem pl_op_lies (i t : Int32) (w : Nat) (hw1 : w ≤ 1) : pl_Ok (fX10_lies 1 i t (nI w)) (fX11_lies 33 i t (nI w)) := by
  intro A m h
  have hS := h.1
  have hw := h.2.1.1
  unfold pl_Wc at hw
  have hC := h.2.2.2
  have hM := h.2.2.1
  have hn60 := hS.2.2
  rcases pl_rng1 i (pl_N A 0 3 0) (by omega) with hi | ⟨i, hi, rfl⟩
  · refine pl_Ok.same h (-1) ?_ ?_
    · simp [fX10_lies, ↓pl_let, pl_b1, pl_b2, ↓reduceIte, pl_k1 hS, pl_isThg hS h.2.1 hC, hi]
    · simp [fX11_lies, ↓pl_let, pl_b1, pl_b2, ↓reduceIte, pl_k33 hS, pl_isThgM hS h.2.1 hM, hi]
  have ht : (¬ t = -9 ∧ ¬ (0 ≤ t ∧ t < nI (pl_N A 0 1 0))) ∨ ∃ c, (c = 100 ∨ c < pl_N A 0 1 0) ∧ t = pl_tc c := by
    by_cases h9 : t = -9
    · exact Or.inr ⟨100, Or.inl rfl, by rw [h9]; rfl⟩
    · rcases pl_rng1 t (pl_N A 0 1 0) (by omega) with h1 | ⟨j, hj, rfl⟩
      · exact Or.inl ⟨h9, h1⟩
      · exact Or.inr ⟨j, Or.inr hj, by unfold pl_tc; rw [if_neg (by omega)]⟩
  rcases ht with ⟨h9, ht⟩ | ⟨c, hc, rfl⟩
  · have hrng := pl_rng1t hi (show pl_N A 0 3 0 < 2 ^ 30 by omega)
    refine pl_Ok.same h (-1) ?_ ?_
    · simp only [fX10_lies, ↓pl_let, pl_b1, pl_b2, ↓reduceIte, pl_k1 hS, pl_isThg hS h.2.1 hC, hrng, pl_isTrk hS h.2.1 hC, h9, ht, if_false, if_true]
      rw [if_neg (by decide)]
    · simp only [fX11_lies, ↓pl_let, pl_b1, pl_b2, ↓reduceIte, pl_k33 hS, pl_isThgM hS h.2.1 hM, hrng, pl_isTrkM hS h.2.1 hM, h9, ht, if_false, if_true]
      rw [if_neg (by decide)]
  · have hdy := (hC.2.2.2.2.1.1 i hi).1
    have htc : pl_tc c = -9 ∨ (0 ≤ pl_tc c ∧ pl_tc c < nI (pl_N A 0 1 0)) := by
      rcases hc with rfl | hc
      · exact Or.inl rfl
      · refine Or.inr ?_
        unfold pl_tc
        rw [if_neg (by omega)]
        exact of_eq_true (pl_rng1t hc (by omega))
    have hrng := pl_rng1t hi (show pl_N A 0 3 0 < 2 ^ 30 by omega)
    have hw01 : nI w = 0 ∨ nI w = 1 := by
      rcases (show w = 0 ∨ w = 1 by omega) with rfl | rfl
      · exact Or.inl rfl
      · exact Or.inr rfl
    refine pl_Ok.mk (v := (1 : Int32)) (pl_iC_md h (t := c) (w := w) hi) ?_ (Nat.le_add_right _ _) (Nat.le_add_right _ _) (pl_iW h.2.1 hi hc hw1) fun M hS hM => ⟨pl_iM M i c w, ?_, ((pl_mo.refl M).sI (by decide)).sI (by decide), pl_iM_m hM⟩
    · have e : fX10_lies_26 1 (nI i) (pl_tc c) (nI w) m = some (1, pl_iC m i c w) := by
        have hw8 := hdy.2.2
        simp (disch := omega) [fX10_lies_26, ↓pl_let, pl_b1, pl_b2, ↓reduceIte, pl_k1 hS, pl_k2 hS, pl_k3 hS, pl_k8 hS, pl_k9 hS, pl_k10 hS, pl_k11 hS, pl_k12 hS, pl_k13 hS, pl_k14 hS, pl_k15 hS, pl_k16 hS, pl_k17 hS, pl_k18 hS, pl_k19 hS, pl_k20 hS, pl_k21 hS, pl_k22 hS, pl_k23 hS, pl_k24 hS, pl_k25 hS, pl_k26 hS, pl_k27 hS, pl_k28 hS, pl_k29 hS, pl_k30 hS, pl_k31 hS, pl_k32 hS, pl_r1_0 hS, pl_r1_1 hS, pl_r1_4 hS, pl_r1_6 hS, pl_r1_8 hS, pl_r1_10 hS, pl_r1_12 hS, pl_r1_13 hS, pl_r1_14 hS, pl_r1_18 hS, pl_r12_2 hS, pl_r12_3 hS, pl_r12_4 hS, pl_r12_8 hS, pl_r12_9 hS, pl_r12_10 hS, pl_r12_11 hS, pl_r12_12 hS, pl_r21_3 hS, pl_r21_5 hS, pl_r21_6 hS, pl_r21_7 hS, pl_r26_0 hS, pl_r26_2 hS, pl_r26_3 hS, pl_r26_4 hS, pl_r26_5 hS, pl_I_sI, pl_I_sR, pl_I_sJ, pl_I_al, pl_I_cp, pl_I_cl, pl_R_sI, pl_R_sR, pl_R_sJ, pl_R_al, pl_R_cp, pl_R_cl, pl_J_sI, pl_J_sR, pl_J_sJ, pl_J_al, pl_J_cp, pl_J_cl, pl_K_sI, pl_K_sR, pl_K_sJ, pl_K_al, pl_K_cp, pl_K_cl, pl_n_sI, pl_n_sR, pl_n_sJ, pl_n_al, pl_n_cp, pl_n_cl, pl_s_sI, pl_s_sR, pl_s_sJ, pl_s_al, pl_s_cp, pl_s_cl, pl_in, nI_clamp, show i < 20 by omega, hw8]
        exact ⟨hw01, by rfl⟩
      rcases htc with h9 | h9
      · simp only [fX10_lies, ↓pl_let, pl_b1, pl_b2, ↓reduceIte, pl_k1 hS, pl_isThg hS h.2.1 hC, hrng, h9, if_true]
        rw [if_neg (by decide), ← h9]
        exact e
      · by_cases h90 : pl_tc c = -9
        · simp only [fX10_lies, ↓pl_let, pl_b1, pl_b2, ↓reduceIte, pl_k1 hS, pl_isThg hS h.2.1 hC, hrng, h90, if_true]
          rw [if_neg (by decide), ← h90]
          exact e
        · simp only [fX10_lies, ↓pl_let, pl_b1, pl_b2, ↓reduceIte, pl_k1 hS, pl_isThg hS h.2.1 hC, pl_isTrk hS h.2.1 hC, hrng, h90, h9, if_true, if_false, and_self]
          rw [if_neg (by decide), if_neg (by decide)]
          exact e
    · have e : fX11_lies_24 33 (nI i) (pl_tc c) (nI w) M = some (1, pl_iM M i c w) := by
        rcases (show w = 0 ∨ w = 1 by omega) with rfl | rfl
        · simp (disch := omega) [fX11_lies_24, fX11_lies_55, ↓pl_let, pl_b1, pl_b2, ↓reduceIte, pl_k33 hS, pl_k34 hS, pl_k35 hS, pl_k36 hS, pl_k37 hS, pl_k38 hS, pl_k39 hS, pl_k40 hS, pl_k41 hS, pl_k42 hS, pl_k43 hS, pl_k44 hS, pl_k45 hS, pl_k46 hS, pl_k47 hS, pl_k48 hS, pl_k49 hS, pl_k50 hS, pl_k51 hS, pl_k52 hS, pl_k53 hS, pl_k54 hS, pl_k55 hS, pl_k56 hS, pl_k57 hS, pl_k58 hS, pl_k59 hS, pl_k60 hS, pl_r33_1 hS, pl_r33_4 hS, pl_r33_5 hS, pl_r33_6 hS, pl_r33_7 hS, pl_r33_8 hS, pl_r33_12 hS, pl_r33_13 hS, pl_r33_14 hS, pl_r33_20 hS, pl_r33_21 hS, pl_r33_22 hS, pl_r33_25 hS, pl_r33_26 hS, pl_r33_27 hS, pl_r33_29 hS, pl_r33_31 hS, pl_r33_35 hS, pl_r33_36 hS, pl_r33_38 hS, pl_r33_39 hS, pl_r33_40 hS, pl_r33_42 hS, pl_r33_43 hS, pl_r33_44 hS, pl_r33_45 hS, pl_r33_47 hS, pl_I_sI, pl_I_sR, pl_I_sJ, pl_I_al, pl_I_cp, pl_I_cl, pl_R_sI, pl_R_sR, pl_R_sJ, pl_R_al, pl_R_cp, pl_R_cl, pl_J_sI, pl_J_sR, pl_J_sJ, pl_J_al, pl_J_cp, pl_J_cl, pl_K_sI, pl_K_sR, pl_K_sJ, pl_K_al, pl_K_cp, pl_K_cl, pl_n_sI, pl_n_sR, pl_n_sJ, pl_n_al, pl_n_cp, pl_n_cl, pl_s_sI, pl_s_sR, pl_s_sJ, pl_s_al, pl_s_cp, pl_s_cl, pl_l1, pl_l2, pl_l3, pl_l4, pl_l5, pl_l6, pl_l7, pl_l8, pl_l9, pl_l10, pl_l11, pl_l12, pl_l13, pl_l14, pl_l15, pl_l16, pl_l17, pl_l18, pl_l19, pl_l20, pl_l21, pl_l22, pl_l23, pl_l24, pl_l25, pl_l26, pl_l27, pl_l28, pl_l29, pl_l30, pl_l31, pl_l32, pl_l33, pl_l34, pl_l35, pl_l36, pl_l37, pl_l38, pl_l39, pl_l40, pl_l41, pl_l42, pl_l43, pl_l44, pl_l45, pl_l46, pl_l47, pl_l48, pl_l49, pl_l50, pl_l51, pl_l52, pl_l53, pl_l54, pl_l55, pl_l56, pl_l57, pl_l58, pl_l59, pl_l60, pl_l61, pl_l62, pl_l63, pl_l64, pl_l99, pl_l100, pl_l119, pl_l120, pl_l255, pl_l256, pl_l999, pl_l1000, pl_l1023, pl_l1024, pl_l1111, pl_l5555, pl_l10240, pl_eq0, pl_le0, pl_lt0, pl_neg, pl_leN, pl_ltN, nI_leI, nI_ltI, nI_eq, nI_add, pk_mul, pl_sub, pk_div, pk_rem, nI_clamp, pl_in, pl_ofN, pl_shl1, pl_or, pl_and, pl_le1, pl_sz1, pl_within, pl_inM, pl_isRow, pl_isRowM, pl_isText, pl_isTextM, pl_leZ, pl_0eq, pl_0lt, pl_shl2, pl_shr2, pl_tcE, pl_tcN, pl_ne1, pl_rem3, show 7 * i + 3 < 140 by omega, show 7 * i + 4 < 140 by omega, pl_iM, nI_0]
        · simp (disch := omega) [fX11_lies_24, fX11_lies_55, ↓pl_let, pl_b1, pl_b2, ↓reduceIte, pl_k33 hS, pl_k34 hS, pl_k35 hS, pl_k36 hS, pl_k37 hS, pl_k38 hS, pl_k39 hS, pl_k40 hS, pl_k41 hS, pl_k42 hS, pl_k43 hS, pl_k44 hS, pl_k45 hS, pl_k46 hS, pl_k47 hS, pl_k48 hS, pl_k49 hS, pl_k50 hS, pl_k51 hS, pl_k52 hS, pl_k53 hS, pl_k54 hS, pl_k55 hS, pl_k56 hS, pl_k57 hS, pl_k58 hS, pl_k59 hS, pl_k60 hS, pl_r33_1 hS, pl_r33_4 hS, pl_r33_5 hS, pl_r33_6 hS, pl_r33_7 hS, pl_r33_8 hS, pl_r33_12 hS, pl_r33_13 hS, pl_r33_14 hS, pl_r33_20 hS, pl_r33_21 hS, pl_r33_22 hS, pl_r33_25 hS, pl_r33_26 hS, pl_r33_27 hS, pl_r33_29 hS, pl_r33_31 hS, pl_r33_35 hS, pl_r33_36 hS, pl_r33_38 hS, pl_r33_39 hS, pl_r33_40 hS, pl_r33_42 hS, pl_r33_43 hS, pl_r33_44 hS, pl_r33_45 hS, pl_r33_47 hS, pl_I_sI, pl_I_sR, pl_I_sJ, pl_I_al, pl_I_cp, pl_I_cl, pl_R_sI, pl_R_sR, pl_R_sJ, pl_R_al, pl_R_cp, pl_R_cl, pl_J_sI, pl_J_sR, pl_J_sJ, pl_J_al, pl_J_cp, pl_J_cl, pl_K_sI, pl_K_sR, pl_K_sJ, pl_K_al, pl_K_cp, pl_K_cl, pl_n_sI, pl_n_sR, pl_n_sJ, pl_n_al, pl_n_cp, pl_n_cl, pl_s_sI, pl_s_sR, pl_s_sJ, pl_s_al, pl_s_cp, pl_s_cl, pl_l1, pl_l2, pl_l3, pl_l4, pl_l5, pl_l6, pl_l7, pl_l8, pl_l9, pl_l10, pl_l11, pl_l12, pl_l13, pl_l14, pl_l15, pl_l16, pl_l17, pl_l18, pl_l19, pl_l20, pl_l21, pl_l22, pl_l23, pl_l24, pl_l25, pl_l26, pl_l27, pl_l28, pl_l29, pl_l30, pl_l31, pl_l32, pl_l33, pl_l34, pl_l35, pl_l36, pl_l37, pl_l38, pl_l39, pl_l40, pl_l41, pl_l42, pl_l43, pl_l44, pl_l45, pl_l46, pl_l47, pl_l48, pl_l49, pl_l50, pl_l51, pl_l52, pl_l53, pl_l54, pl_l55, pl_l56, pl_l57, pl_l58, pl_l59, pl_l60, pl_l61, pl_l62, pl_l63, pl_l64, pl_l99, pl_l100, pl_l119, pl_l120, pl_l255, pl_l256, pl_l999, pl_l1000, pl_l1023, pl_l1024, pl_l1111, pl_l5555, pl_l10240, pl_eq0, pl_le0, pl_lt0, pl_neg, pl_leN, pl_ltN, nI_leI, nI_ltI, nI_eq, nI_add, pk_mul, pl_sub, pk_div, pk_rem, nI_clamp, pl_in, pl_ofN, pl_shl1, pl_or, pl_and, pl_le1, pl_sz1, pl_within, pl_inM, pl_isRow, pl_isRowM, pl_isText, pl_isTextM, pl_leZ, pl_0eq, pl_0lt, pl_shl2, pl_shr2, pl_tcE, pl_tcN, pl_ne1, pl_rem3, show 7 * i + 3 < 140 by omega, show 7 * i + 4 < 140 by omega, pl_iM]
      rcases htc with h9 | h9
      · simp only [fX11_lies, ↓pl_let, pl_b1, pl_b2, ↓reduceIte, pl_k33 hS, pl_isThgM hS h.2.1 hM, hrng, h9, if_true]
        rw [if_neg (by decide), ← h9]
        exact e
      · by_cases h90 : pl_tc c = -9
        · simp only [fX11_lies, ↓pl_let, pl_b1, pl_b2, ↓reduceIte, pl_k33 hS, pl_isThgM hS h.2.1 hM, hrng, h90, if_true]
          rw [if_neg (by decide), ← h90]
          exact e
        · simp only [fX11_lies, ↓pl_let, pl_b1, pl_b2, ↓reduceIte, pl_k33 hS, pl_isThgM hS h.2.1 hM, pl_isTrkM hS h.2.1 hM, hrng, h90, h9, if_true, if_false, and_self]
          rw [if_neg (by decide), if_neg (by decide)]
          exact e

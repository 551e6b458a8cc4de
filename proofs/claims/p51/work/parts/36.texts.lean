/-! TEXTS: text, put. What a text anew changes goes as with rows (printed by wip/whole/src/mktext.py from 33.help). -/
/-- text r anew -/
def pl_xA (A : pl_A) (r n : Nat) (f : Nat → Int32) : pl_A := pl_sVr (pl_sN A 9 r 0 n) 1 r f
theorem pl_Rel.xC {A : pl_A} {m m1 : ml_M} {r n b : Nat} {f : Nat → Int32} (h : pl_Rel A m) (hr : r < 4) (hb : b = 0 ∨ b = ml_R m 3 r) (hx : pl_ex [3, b] m m1) (hco : pl_co m m1) (hJ : ml_J m1 1 16 = ml_J m 1 16) (hq : ∀ q, q < 4 → q ≠ r → ml_R m1 3 q = ml_R m 3 q)
    (hn : (n = 0 ∧ ml_R m1 3 r = 0) ∨ (0 < n ∧ pl_dy m1 (ml_R m1 3 r) (21, n - 1) ∧ ∀ j, j + 1 < n → ml_I m1 (ml_R m1 3 r) j = f j)) (ho : ml_R m1 3 r = 0 ∨ ml_R m1 3 r = ml_R m 3 r ∨ ml_n m < ml_R m1 3 r) : pl_Md A (pl_xA A r n f) m1 := by
  obtain ⟨hS, hW, hM, h1, h2, h3, h4, h5, h6, h7, h8, h9⟩ := h
  have hn60 := hS.2.2
  have hold : ∀ q, q < 4 → ml_R m 3 q = 0 ∨ (60 < ml_R m 3 q ∧ ml_R m 3 q ≤ ml_n m ∧ (ml_K m (ml_R m 3 q)).1 = 21) := by
    intro q hq
    rcases h3.1 q hq with h1 | h1
    · exact Or.inl h1.2
    · exact Or.inr ⟨h1.2.1.1, h1.2.1.2.1, by rw [h1.2.1.2.2]⟩
  have hb' : b = 0 ∨ (60 < b ∧ b = ml_R m 3 r ∧ (ml_K m b).1 = 21) := by
    rcases hb with hb | hb
    · exact Or.inl hb
    · rcases hold r hr with h1 | h1
      · exact Or.inl (by omega)
      · exact Or.inr ⟨by omega, hb, by rw [hb]; exact h1.2.2⟩
  have hK : ∀ a ∈ [3, b], (ml_K m a).1 = 24 ∨ (ml_K m a).1 = 99 ∨ (ml_K m a).1 = 21 := fun a ha => by
    simp only [List.mem_cons, List.not_mem_nil, or_false] at ha
    rcases ha with rfl | rfl
    · rw [pl_k3 hS]; exact Or.inl rfl
    · rcases hb' with h1 | h1
      · rw [h1, pl_k0 hS]; exact Or.inr (Or.inl rfl)
      · exact Or.inr (Or.inr h1.2.2)
  have hne : ∀ k, k ≠ 24 → k ≠ 99 → k ≠ 21 → ∀ a ∈ [3, b], (ml_K m a).1 ≠ k := fun k _ _ _ a ha => by have := hK a ha; omega
  have hl : ∀ k, k ≠ 24 → k ≠ 99 → k ≠ 21 → ∀ a ∈ [3, b], a ≤ 60 ∨ (ml_K m a).1 ≠ k := fun k z1 z2 z3 a ha => Or.inr (hne k z1 z2 z3 a ha)
  have hnin : ∀ a, a ≠ 3 → 0 < a → a ≤ 60 → a ∉ [3, b] := fun a h1 h2 h3 => by
    simp only [List.mem_cons, List.not_mem_nil, or_false]
    omega
  have hR1 : ml_R m1 1 2 = ml_R m 1 2 := by rw [(hx.2.2 1 (by omega) (hnin 1 (by decide) (by decide) (by decide))).2]
  have hSh : pl_Sh m1 := hS.to hx.1 (fun a ha => hx.2.1 a (by omega)) (fun q hq => by
    have h1 : ∀ q ∈ pl_rt, q.1 ≤ 60 ∧ q.1 ≠ 3 ∧ 0 < q.1 := by decide
    have h2 := h1 q hq
    rw [(hx.2.2 q.1 (by omega) (hnin q.1 h2.2.1 h2.2.2 h2.1)).2])
  have hI : ∀ a, a ≠ 3 → 0 < a → a ≤ 60 → ml_I m1 a = ml_I m a := fun a h1 h2 h3 => (hx.2.2 a (by omega) (hnin a h1 h2 h3)).1
  have e8 : ∀ q, q ≠ r → pl_N (pl_xA A r n f) 9 q 0 = pl_N A 9 q 0 := fun q hq => by
    unfold pl_xA; rw [pl_N_sVr, pl_N_sN, if_neg (by omega)]
  have e8r : pl_N (pl_xA A r n f) 9 r 0 = n := by
    unfold pl_xA; rw [pl_N_sVr, pl_N_sN, if_pos ⟨rfl, rfl, rfl⟩]
  have v8 : ∀ q, q ≠ r → pl_V (pl_xA A r n f) 1 q = pl_V A 1 q := fun q hq => by
    funext j; unfold pl_xA; rw [pl_V_sVr, pl_V_sN, if_neg (by omega)]
  have v8r : pl_V (pl_xA A r n f) 1 r = f := by
    funext j; unfold pl_xA; rw [pl_V_sVr, if_pos ⟨rfl, rfl⟩]
  have v2 : pl_V (pl_xA A r n f) 2 = pl_V A 2 := by
    funext i j; unfold pl_xA; rw [pl_V_sVr, pl_V_sN, if_neg (by omega)]
  have v0 : pl_V (pl_xA A r n f) 0 = pl_V A 0 := by
    funext i j; unfold pl_xA; rw [pl_V_sVr, pl_V_sN, if_neg (by omega)]
  have eN : ∀ g, g ≠ 9 → pl_N (pl_xA A r n f) g = pl_N A g := fun g hg => by
    funext i k; unfold pl_xA; rw [pl_N_sVr, pl_N_sN, if_neg (by omega)]
  have e0 : ∀ i, pl_N (pl_xA A r n f) 0 i 0 = pl_N A 0 i 0 := fun i => by rw [eN 0 (by decide)]
  refine ⟨hSh, hW, hco.m hM, ?_, h2.fr hS hx (hnin 2 (by decide) (by decide) (by decide)) (hl 20 (by decide) (by decide) (by decide)) (eN 8 (by decide)) v0, ⟨?_, ?_⟩,
    h4.fr hx hR1 ?_ ?_ (eN 1 (by decide)) (eN 2 (by decide)) (eN 3 (by decide)) (e0 0) (e0 1) (e0 2),
    h5.fr hS hx (hnin 8 (by decide) (by decide) (by decide)) (hl 8 (by decide) (by decide) (by decide)) (eN 1 (by decide)) (eN 4 (by decide)) (e0 0) (e0 3),
    h6.fr hS hx (hnin 9 (by decide) (by decide) (by decide)) (hnin 10 (by decide) (by decide) (by decide)) ?_ (eN 5 (by decide)) (eN 6 (by decide)) (e0 4) (e0 5),
    h7.fr2 hS hx (hnin 11 (by decide) (by decide) (by decide)) (hnin 2 (by decide) (by decide) (by decide)) (fun a ha => Or.inr ⟨hne 2 (by decide) (by decide) (by decide) a ha, hne 20 (by decide) (by decide) (by decide) a ha⟩) (eN 7 (by decide)) (e0 6) v2,
    h8.fr hS h4.1 hx hR1 ?_ (hne 1 (by decide) (by decide) (by decide)) (eN 1 (by decide)) (eN 3 (by decide)) (eN 4 (by decide)) (e0 0) (e0 1) (e0 2) (e0 3),
    h9.fr hS hx (hnin 21 (by decide) (by decide) (by decide)) ⟨hnin 22 (by decide) (by decide) (by decide), hnin 31 (by decide) (by decide) (by decide)⟩ (eN 6 (by decide)) (e0 5)⟩
  · unfold pl_Cb
    rw [hI 1 (by decide) (by decide) (by decide), hI 32 (by decide) (by decide) (by decide), hJ, eN 0 (by decide)]
    exact h1
  · intro q hq6
    by_cases hqr : q = r
    · subst hqr
      rw [e8r, v8r]; exact hn
    · rw [e8 q hqr, v8 q hqr, hq q hq6 hqr]
      rcases h3.1 q hq6 with z | ⟨z1, z2, z3⟩
      · exact Or.inl z
      · refine Or.inr ⟨z1, z2.fr hx, fun j hj => ?_⟩
        rw [(hx.2.2 _ z2.2.1 ?_).1]
        · exact z3 j hj
        · simp only [List.mem_cons, List.not_mem_nil, or_false]
          have := z2.1
          rintro (z | z)
          · omega
          · rcases hb' with y | y
            · omega
            · exact hqr (h3.2 q r hq6 hr (by omega) (by rw [z, y.2.1]))
  · intro q p hq6 hp6 h0 he
    have ho' := hold r hr
    by_cases hqr : q = r
    · by_cases hpr : p = r
      · omega
      · exfalso
        rw [hqr] at h0 he
        rw [hq p hp6 hpr] at he
        rcases ho with z | z | z
        · exact h0 z
        · exact hpr ((h3.2 r p hr hp6 (by rw [← z]; exact h0) (by rw [← z]; exact he)).symm)
        · have := hold p hp6; omega
    · rw [hq q hq6 hqr] at h0 he
      by_cases hpr : p = r
      · exfalso
        rw [hpr] at he
        rcases ho with z | z | z
        · exact h0 (he.trans z)
        · exact hqr (h3.2 q r hq6 hr h0 (he.trans z))
        · have := hold q hq6; omega
      · rw [hq p hp6 hpr] at he
        exact h3.2 q p hq6 hp6 h0 he
  · intro k hk
    simp only [List.mem_cons, List.not_mem_nil, or_false] at hk
    exact hne k (by omega) (by omega) (by omega)
  · intro k hk
    simp only [List.mem_cons, List.not_mem_nil, or_false] at hk
    exact hl k (by omega) (by omega) (by omega)
  · intro k hk
    simp only [List.mem_cons, List.not_mem_nil, or_false] at hk
    exact hl k (by omega) (by omega) (by omega)
  · intro a ha
    simp only [List.mem_cons, List.not_mem_nil, or_false] at ha
    exact hnin a (by omega) (by omega) (by omega)
theorem pl_xW {A : pl_A} {r n : Nat} {f : Nat → Int32} (hW : pl_W A) (hn121 : n ≤ 121) (hby : ∀ j, j + 1 < n → pl_by (f j)) : pl_W (pl_xA A r n f) := by
  have e8 : ∀ q, q ≠ r → pl_N (pl_xA A r n f) 9 q 0 = pl_N A 9 q 0 := fun q hq => by
    unfold pl_xA; rw [pl_N_sVr, pl_N_sN, if_neg (by omega)]
  have e8r : pl_N (pl_xA A r n f) 9 r 0 = n := by
    unfold pl_xA; rw [pl_N_sVr, pl_N_sN, if_pos ⟨rfl, rfl, rfl⟩]
  have v8 : ∀ q, q ≠ r → pl_V (pl_xA A r n f) 1 q = pl_V A 1 q := fun q hq => by
    funext j; unfold pl_xA; rw [pl_V_sVr, pl_V_sN, if_neg (by omega)]
  have v8r : pl_V (pl_xA A r n f) 1 r = f := by
    funext j; unfold pl_xA; rw [pl_V_sVr, if_pos ⟨rfl, rfl⟩]
  have v2 : ∀ g, g ≠ 1 → pl_V (pl_xA A r n f) g = pl_V A g := fun g hg => by
    funext i j; unfold pl_xA; rw [pl_V_sVr, pl_V_sN, if_neg (by omega)]
  have eN : ∀ g, g ≠ 9 → pl_N (pl_xA A r n f) g = pl_N A g := fun g hg => by
    funext i k; unfold pl_xA; rw [pl_N_sVr, pl_N_sN, if_neg (by omega)]
  have e0 : ∀ i, pl_N (pl_xA A r n f) 0 i 0 = pl_N A 0 i 0 := fun i => by rw [eN 0 (by decide)]
  have eL : pl_L (pl_xA A r n f) = pl_L A := rfl
  obtain ⟨w1, w2, w3, w4, w5, w6, w7, w8, w9⟩ := hW
  refine ⟨?_, ?_, ?_, ?_, ?_, ?_, ?_, ?_, ?_⟩
  · unfold pl_Wc; rw [eN 0 (by decide)]; exact w1
  · unfold pl_Wl; rw [eN 0 (by decide), eN 1 (by decide)]; exact w2
  · unfold pl_Wt; rw [eN 0 (by decide), eN 2 (by decide)]; exact w3
  · unfold pl_Wp; rw [eN 0 (by decide), eN 3 (by decide)]; exact w4
  · unfold pl_Wi; rw [eN 0 (by decide), eN 4 (by decide)]; exact w5
  · unfold pl_Wn; rw [eN 0 (by decide), eN 5 (by decide)]; exact w6
  · unfold pl_Wb; rw [eN 0 (by decide), eN 6 (by decide)]; exact w7
  · unfold pl_Wk; rw [eN 0 (by decide), eN 7 (by decide), v2 2 (by decide)]; exact w8
  · refine ⟨?_, fun q hq => ?_, fun q j hq hj => ?_⟩
    · rw [eN 8 (by decide)]; exact w9.1
    · by_cases hqr : q = r
      · rw [hqr, e8r]; exact hn121
      · rw [e8 q hqr]; exact w9.2.1 q hq
    · by_cases hqr : q = r
      · rw [hqr, e8r] at hj
        rw [hqr, v8r]; exact hby j hj
      · rw [e8 q hqr] at hj
        rw [v8 q hqr]; exact w9.2.2 q j hq hj
theorem pl_xM {A : pl_A} {m m1 : ml_M} {r n : Nat} {f : Nat → Int32} (hM : pl_M A m) (hW : pl_W A) (h38 : ∀ q, q < 4 → ml_I m1 38 q = if q = r then pl_sz n else ml_I m 38 q) (h39 : ∀ q, q < 4 → q ≠ r → ∀ j, j < 120 → ml_I m1 39 (120 * q + j) = ml_I m 39 (120 * q + j)) (h39r : ∀ j, j + 1 < n → ml_I m1 39 (120 * r + j) = f j)
    (hk : (∀ a ∈ [34, 35, 36, 40, 41, 42, 46, 51, 53, 60], ml_I m1 a = ml_I m a) ∧ (∀ k ∈ [0, 2, 9, 10, 11, 23, 24, 34, 37, 46], ml_I m1 33 k = ml_I m 33 k) ∧ ml_J m1 33 3 = ml_J m 33 3) : pl_M (pl_xA A r n f) m1 := by
  have e8 : ∀ q, q ≠ r → pl_N (pl_xA A r n f) 9 q 0 = pl_N A 9 q 0 := fun q hq => by
    unfold pl_xA; rw [pl_N_sVr, pl_N_sN, if_neg (by omega)]
  have e8r : pl_N (pl_xA A r n f) 9 r 0 = n := by
    unfold pl_xA; rw [pl_N_sVr, pl_N_sN, if_pos ⟨rfl, rfl, rfl⟩]
  have v8 : ∀ q, q ≠ r → pl_V (pl_xA A r n f) 1 q = pl_V A 1 q := fun q hq => by
    funext j; unfold pl_xA; rw [pl_V_sVr, pl_V_sN, if_neg (by omega)]
  have v8r : pl_V (pl_xA A r n f) 1 r = f := by
    funext j; unfold pl_xA; rw [pl_V_sVr, if_pos ⟨rfl, rfl⟩]
  have v2 : ∀ g, g ≠ 1 → pl_V (pl_xA A r n f) g = pl_V A g := fun g hg => by
    funext i j; unfold pl_xA; rw [pl_V_sVr, pl_V_sN, if_neg (by omega)]
  have eN : ∀ g, g ≠ 9 → pl_N (pl_xA A r n f) g = pl_N A g := fun g hg => by
    funext i k; unfold pl_xA; rw [pl_N_sVr, pl_N_sN, if_neg (by omega)]
  have e0 : ∀ i, pl_N (pl_xA A r n f) 0 i 0 = pl_N A 0 i 0 := fun i => by rw [eN 0 (by decide)]
  have eL : pl_L (pl_xA A r n f) = pl_L A := rfl
  obtain ⟨k1, k2, k3⟩ := hk
  obtain ⟨h1, h2, h3, h4, h5, h6⟩ := hM
  have w9 := hW.2.2.2.2.2.2.2.2
  refine ⟨?_, ?_, ?_, ?_, ?_, ?_⟩
  · unfold pl_Mb at *; rw [k2 9 (by decide), k2 10 (by decide), k2 11 (by decide), k2 24 (by decide), k2 34 (by decide), k2 37 (by decide), k2 46 (by decide), k2 23 (by decide), k2 0 (by decide), k2 2 (by decide), k3, k1 34 (by decide), eN 0 (by decide), v2 3 (by decide), v2 4 (by decide), eL]; exact h1
  · unfold pl_Mr; rw [k1 35 (by decide), k1 36 (by decide), eN 8 (by decide), v2 0 (by decide)]; exact h2
  · intro q hq
    by_cases hqr : q = r
    · subst hqr
      rw [e8r, v8r, h38 q hq, if_pos rfl]
      exact ⟨rfl, h39r⟩
    · rw [e8 q hqr, v8 q hqr, h38 q hq, if_neg hqr]
      have := w9.2.1 q hq
      refine ⟨(h3 q hq).1, fun j hj => ?_⟩
      rw [h39 q hq hqr j (by omega)]
      exact (h3 q hq).2 j hj
  · unfold pl_Mh; rw [k1 40 (by decide), k1 41 (by decide), k1 42 (by decide), eN 0 (by decide), eN 1 (by decide), eN 2 (by decide), eN 3 (by decide)]; exact h4
  · unfold pl_Mi; rw [k1 46 (by decide), eN 0 (by decide), eN 4 (by decide)]; exact h5
  · unfold pl_Mn; rw [k1 51 (by decide), k1 53 (by decide), k1 60 (by decide), eN 0 (by decide), eN 5 (by decide), eN 6 (by decide), eN 7 (by decide), v2 2 (by decide)]; exact h6
/-- a text as the class has it -/
theorem pl_Ct.get {A : pl_A} {m : ml_M} (h : pl_Ct A m) {r : Nat} (hr : r < 4) : (pl_N A 9 r 0 = 0 ∧ ml_R m 3 r = 0) ∨ ∃ n, pl_N A 9 r 0 = n + 1 ∧ 60 < ml_R m 3 r ∧ ml_R m 3 r ≤ ml_n m ∧ ¬ ml_R m 3 r = 0 ∧ ml_K m (ml_R m 3 r) = (21, n) ∧ ∀ j, j < n → ml_I m (ml_R m 3 r) j = pl_V A 1 r j := by
  rcases h.1 r hr with h1 | ⟨h1, h2, h3⟩
  · exact Or.inl h1
  · have := h2.1
    refine Or.inr ⟨pl_N A 9 r 0 - 1, by omega, h2.1, h2.2.1, by omega, h2.2.2, fun j hj => h3 j (by omega)⟩

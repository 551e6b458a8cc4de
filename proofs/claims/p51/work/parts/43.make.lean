/-! WHAT IS MADE: lines, bits; groups that stand behind a change in cells that are made once. -/
def pl_fx : List Nat := [1, 2, 3, 8, 9, 10, 11, 12, 13, 14, 15, 16, 17, 18, 19, 20, 21, 22, 23, 24, 25, 26, 27, 28, 29, 30, 31, 32]
theorem pl_fxK {m : ml_M} (hS : pl_Sh m) : ∀ a ∈ pl_fx, ∀ k ∈ [1, 28, 30], (ml_K m a).1 ≠ k := by
  intro a ha
  have h0 : ∀ a ∈ pl_fx, ∃ q ∈ pl_kt, q.1 = a ∧ ∀ k ∈ [1, 28, 30], q.2.1 ≠ k := by decide
  obtain ⟨q, hq, h1, h2⟩ := h0 a ha
  rw [← h1, hS.1 q hq]
  exact h2
theorem pl_fxL : ∀ a ∈ pl_fx, a ≤ 60 := by decide
theorem pl_Cx {A B : pl_A} {m m1 : ml_M} {xs : List Nat} (hS : pl_Sh m) (hC : pl_C A m) (hx : pl_ex xs m m1) (hf : ∀ a ∈ xs, a ∈ pl_fx) (hr : ml_R m1 1 2 = ml_R m 1 2) :
    (2 ∉ xs → pl_N B 8 = pl_N A 8 → pl_V B 0 = pl_V A 0 → pl_Cr B m1) ∧ (3 ∉ xs → pl_N B 9 = pl_N A 9 → pl_V B 1 = pl_V A 1 → pl_Ct B m1) ∧
    (pl_N B 1 = pl_N A 1 → pl_N B 2 = pl_N A 2 → pl_N B 3 = pl_N A 3 → pl_N B 0 0 0 = pl_N A 0 0 0 → pl_N B 0 1 0 = pl_N A 0 1 0 → pl_N B 0 2 0 = pl_N A 0 2 0 → pl_Ch B m1) ∧
    (8 ∉ xs → pl_N B 1 = pl_N A 1 → pl_N B 4 = pl_N A 4 → pl_N B 0 0 0 = pl_N A 0 0 0 → pl_N B 0 3 0 = pl_N A 0 3 0 → pl_Ci B m1) ∧
    (9 ∉ xs → 10 ∉ xs → pl_N B 5 = pl_N A 5 → pl_N B 6 = pl_N A 6 → pl_N B 0 4 0 = pl_N A 0 4 0 → pl_N B 0 5 0 = pl_N A 0 5 0 → pl_Cn B m1) ∧
    (11 ∉ xs → 2 ∉ xs → pl_N B 7 = pl_N A 7 → pl_N B 0 6 0 = pl_N A 0 6 0 → pl_V B 2 = pl_V A 2 → pl_Ck B m1) ∧
    ((∀ a ∈ [12, 13, 14, 15, 17, 18, 19], a ∉ xs) → pl_N B 1 = pl_N A 1 → pl_N B 3 = pl_N A 3 → pl_N B 4 = pl_N A 4 → pl_N B 0 0 0 = pl_N A 0 0 0 → pl_N B 0 1 0 = pl_N A 0 1 0 → pl_N B 0 2 0 = pl_N A 0 2 0 → pl_N B 0 3 0 = pl_N A 0 3 0 → pl_Cs B m1) ∧
    (21 ∉ xs → (22 ∉ xs ∧ 31 ∉ xs) → pl_N B 6 = pl_N A 6 → pl_N B 0 5 0 = pl_N A 0 5 0 → pl_Cy B m1) := by
  obtain ⟨h1, h2, h3, h4, h5, h6, h7, h8, h9⟩ := hC
  have hl : ∀ k a, a ∈ xs → a ≤ 60 ∨ (ml_K m a).1 ≠ k := fun k a ha => Or.inl (pl_fxL a (hf a ha))
  have hk : ∀ k ∈ [1, 28, 30], ∀ a ∈ xs, (ml_K m a).1 ≠ k := fun k hk a ha => pl_fxK hS a (hf a ha) k hk
  exact ⟨fun a e v => h2.fr hS hx a (hl _) e v, fun a e v => h3.fr hS hx a (hl _) e v, fun e1 e2 e3 c0 c1 c2 => h4.fr hx hr hk (fun k _ => hl k) e1 e2 e3 c0 c1 c2, fun a e1 e4 c0 c3 => h5.fr hS hx a (hl _) e1 e4 c0 c3,
    fun a b e5 e6 c4 c5 => h6.fr hS hx a b (fun k _ => hl k) e5 e6 c4 c5, fun a b e7 c6 v => h7.fr2 hS hx a b (fun x hx => Or.inl (pl_fxL x (hf x hx))) e7 c6 v, fun a e1 e3 e4 c0 c1 c2 c3 => h8.fr hS h4.1 hx hr a (hk 1 (by decide)) e1 e3 e4 c0 c1 c2 c3, fun a b e6 c5 => h9.fr hS hx a b e6 c5⟩
/-- what differs between two states: groups of small numbers, counts, groups of ints -/
def pl_dif (gs cs vs : List Nat) (A B : pl_A) : Prop := (∀ g, 0 < g → g ∉ gs → pl_N B g = pl_N A g) ∧ (∀ j, j ∉ cs → pl_N B 0 j 0 = pl_N A 0 j 0) ∧ ∀ g, g ∉ vs → pl_V B g = pl_V A g
theorem pl_Cd {A B : pl_A} {m m1 : ml_M} {xs gs cs vs : List Nat} (d : pl_dif gs cs vs A B) (hS : pl_Sh m) (hC : pl_C A m) (hx : pl_ex xs m m1) (hf : ∀ a ∈ xs, a ∈ pl_fx) (hr : ml_R m1 1 2 = ml_R m 1 2) :
    ((2 ∉ xs ∧ 8 ∉ gs ∧ 0 ∉ vs) → pl_Cr B m1) ∧ ((3 ∉ xs ∧ 9 ∉ gs ∧ 1 ∉ vs) → pl_Ct B m1) ∧ ((1 ∉ gs ∧ 2 ∉ gs ∧ 3 ∉ gs ∧ 0 ∉ cs ∧ 1 ∉ cs ∧ 2 ∉ cs) → pl_Ch B m1) ∧ ((8 ∉ xs ∧ 1 ∉ gs ∧ 4 ∉ gs ∧ 0 ∉ cs ∧ 3 ∉ cs) → pl_Ci B m1) ∧
    ((9 ∉ xs ∧ 10 ∉ xs ∧ 5 ∉ gs ∧ 6 ∉ gs ∧ 4 ∉ cs ∧ 5 ∉ cs) → pl_Cn B m1) ∧ ((11 ∉ xs ∧ 2 ∉ xs ∧ 7 ∉ gs ∧ 6 ∉ cs ∧ 2 ∉ vs) → pl_Ck B m1) ∧
    (((∀ a ∈ [12, 13, 14, 15, 17, 18, 19], a ∉ xs) ∧ 1 ∉ gs ∧ 3 ∉ gs ∧ 4 ∉ gs ∧ 0 ∉ cs ∧ 1 ∉ cs ∧ 2 ∉ cs ∧ 3 ∉ cs) → pl_Cs B m1) ∧ ((21 ∉ xs ∧ (22 ∉ xs ∧ 31 ∉ xs) ∧ 6 ∉ gs ∧ 5 ∉ cs) → pl_Cy B m1) := by
  obtain ⟨fr, ft, fh, fi, fn, fk, fs, fy⟩ := pl_Cx (B := B) hS hC hx hf hr
  obtain ⟨e, c, v⟩ := d
  exact ⟨fun h => fr h.1 (e 8 (by decide) h.2.1) (v 0 h.2.2), fun h => ft h.1 (e 9 (by decide) h.2.1) (v 1 h.2.2), fun h => fh (e 1 (by decide) h.1) (e 2 (by decide) h.2.1) (e 3 (by decide) h.2.2.1) (c 0 h.2.2.2.1) (c 1 h.2.2.2.2.1) (c 2 h.2.2.2.2.2),
    fun h => fi h.1 (e 1 (by decide) h.2.1) (e 4 (by decide) h.2.2.1) (c 0 h.2.2.2.1) (c 3 h.2.2.2.2), fun h => fn h.1 h.2.1 (e 5 (by decide) h.2.2.1) (e 6 (by decide) h.2.2.2.1) (c 4 h.2.2.2.2.1) (c 5 h.2.2.2.2.2),
    fun h => fk h.1 h.2.1 (e 7 (by decide) h.2.2.1) (c 6 h.2.2.2.1) (v 2 h.2.2.2.2), fun h => fs h.1 (e 1 (by decide) h.2.1) (e 3 (by decide) h.2.2.1) (e 4 (by decide) h.2.2.2.1) (c 0 h.2.2.2.2.1) (c 1 h.2.2.2.2.2.1) (c 2 h.2.2.2.2.2.2.1) (c 3 h.2.2.2.2.2.2.2),
    fun h => fy h.1 h.2.1 (e 6 (by decide) h.2.2.1) (c 5 h.2.2.2)⟩
theorem pl_Wd {A B : pl_A} {gs cs vs : List Nat} (d : pl_dif gs cs vs A B) (hW : pl_W A) :
    ((1 ∉ gs ∧ 0 ∉ cs) → pl_Wl B) ∧ ((2 ∉ gs ∧ 1 ∉ cs) → pl_Wt B) ∧ ((3 ∉ gs ∧ 1 ∉ cs ∧ 2 ∉ cs) → pl_Wp B) ∧ ((4 ∉ gs ∧ 1 ∉ cs ∧ 3 ∉ cs) → pl_Wi B) ∧ ((5 ∉ gs ∧ 4 ∉ cs) → pl_Wn B) ∧ ((6 ∉ gs ∧ 5 ∉ cs) → pl_Wb B) ∧ ((7 ∉ gs ∧ 6 ∉ cs ∧ 1 ∉ cs ∧ 2 ∉ vs) → pl_Wk B) ∧ ((8 ∉ gs ∧ 9 ∉ gs ∧ 1 ∉ vs) → pl_Wr B) := by
  obtain ⟨e, c, v⟩ := d
  obtain ⟨w1, w2, w3, w4, w5, w6, w7, w8, w9⟩ := hW
  refine ⟨fun h => ?_, fun h => ?_, fun h => ?_, fun h => ?_, fun h => ?_, fun h => ?_, fun h => ?_, fun h => ?_⟩
  · unfold pl_Wl; rw [e 1 (by decide) h.1, c 0 h.2]; exact w2
  · unfold pl_Wt; rw [e 2 (by decide) h.1, c 1 h.2]; exact w3
  · unfold pl_Wp; rw [e 3 (by decide) h.1, c 1 h.2.1, c 2 h.2.2]; exact w4
  · unfold pl_Wi; rw [e 4 (by decide) h.1, c 1 h.2.1, c 3 h.2.2]; exact w5
  · unfold pl_Wn; rw [e 5 (by decide) h.1, c 4 h.2]; exact w6
  · unfold pl_Wb; rw [e 6 (by decide) h.1, c 5 h.2]; exact w7
  · unfold pl_Wk; rw [e 7 (by decide) h.1, c 6 h.2.1, c 1 h.2.2.1, v 2 h.2.2.2]; exact w8
  · unfold pl_Wr; rw [e 8 (by decide) h.1, e 9 (by decide) h.2.1, v 1 h.2.2]; exact w9
/-- the reference's groups; of lines, bits, claims each its own -/
def pl_Mn1 (A : pl_A) (m : ml_M) : Prop := ∀ l, l < pl_N A 0 4 0 → ∀ k, k < 3 → ml_I m 51 (3 * l + k) = nI (pl_N A 5 l k)
def pl_Mn2 (A : pl_A) (m : ml_M) : Prop := ∀ i, i < pl_N A 0 5 0 → ∀ k, k < 4 → ml_I m 53 (4 * i + k) = nI (pl_N A 6 i k)
def pl_Mn3 (A : pl_A) (m : ml_M) : Prop := ∀ c, c < pl_N A 0 6 0 → (∀ k, k < 3 → ml_I m 60 (51 * c + k) = nI (pl_N A 7 c k)) ∧ ∀ j, j < 2 * pl_N A 7 c 2 → ml_I m 60 (51 * c + (3 + j)) = pl_V A 2 c j
theorem pl_Mxd {A B : pl_A} {m m1 : ml_M} {gs cs vs ys : List Nat} (d : pl_dif gs cs vs A B) (hM : pl_M A m) (hI : ∀ a, 34 < a → a ≤ 60 → a ∉ ys → ml_I m1 a = ml_I m a) :
    ((35 ∉ ys ∧ 36 ∉ ys ∧ 8 ∉ gs ∧ 0 ∉ vs) → pl_Mr B m1) ∧ ((38 ∉ ys ∧ 39 ∉ ys ∧ 9 ∉ gs ∧ 1 ∉ vs) → pl_Mt B m1) ∧ ((40 ∉ ys ∧ 41 ∉ ys ∧ 42 ∉ ys ∧ 1 ∉ gs ∧ 2 ∉ gs ∧ 3 ∉ gs ∧ 0 ∉ cs ∧ 1 ∉ cs ∧ 2 ∉ cs) → pl_Mh B m1) ∧ ((46 ∉ ys ∧ 4 ∉ gs ∧ 3 ∉ cs) → pl_Mi B m1) ∧
    ((51 ∉ ys ∧ 5 ∉ gs ∧ 4 ∉ cs) → pl_Mn1 B m1) ∧ ((53 ∉ ys ∧ 6 ∉ gs ∧ 5 ∉ cs) → pl_Mn2 B m1) ∧ ((60 ∉ ys ∧ 7 ∉ gs ∧ 6 ∉ cs ∧ 2 ∉ vs) → pl_Mn3 B m1) := by
  obtain ⟨e, c, v⟩ := d
  obtain ⟨h1, h2, h3, h4, h5, h6, h7, h8⟩ := hM
  refine ⟨fun h => ?_, fun h => ?_, fun h => ?_, fun h => ?_, fun h => ?_, fun h => ?_, fun h => ?_⟩
  · unfold pl_Mr; rw [hI 35 (by decide) (by decide) h.1, hI 36 (by decide) (by decide) h.2.1, e 8 (by decide) h.2.2.1, v 0 h.2.2.2]; exact h2
  · unfold pl_Mt; rw [hI 38 (by decide) (by decide) h.1, hI 39 (by decide) (by decide) h.2.1, e 9 (by decide) h.2.2.1, v 1 h.2.2.2]; exact h3
  · unfold pl_Mh; rw [hI 40 (by decide) (by decide) h.1, hI 41 (by decide) (by decide) h.2.1, hI 42 (by decide) (by decide) h.2.2.1, e 1 (by decide) h.2.2.2.1, e 2 (by decide) h.2.2.2.2.1, e 3 (by decide) h.2.2.2.2.2.1, c 0 h.2.2.2.2.2.2.1, c 1 h.2.2.2.2.2.2.2.1, c 2 h.2.2.2.2.2.2.2.2]; exact h4
  · unfold pl_Mi; rw [hI 46 (by decide) (by decide) h.1, e 4 (by decide) h.2.1, c 3 h.2.2]; exact h5
  · unfold pl_Mn1; rw [hI 51 (by decide) (by decide) h.1, e 5 (by decide) h.2.1, c 4 h.2.2]; exact h6
  · unfold pl_Mn2; rw [hI 53 (by decide) (by decide) h.1, e 6 (by decide) h.2.1, c 5 h.2.2]; exact h7
  · unfold pl_Mn3; rw [hI 60 (by decide) (by decide) h.1, e 7 (by decide) h.2.1, c 6 h.2.2.1, v 2 h.2.2.2]; exact h8
theorem pl_ex.sh {xs : List Nat} {m m1 : ml_M} (hx : pl_ex xs m m1) (hS : pl_Sh m) (hR : ∀ q ∈ pl_rt, q.1 ∈ xs → ml_R m1 q.1 q.2.1 = ml_R m q.1 q.2.1) : pl_Sh m1 := by
  have hn := hS.2.2
  refine hS.to hx.1 (fun a ha => hx.2.1 a (by omega)) (fun q hq => ?_)
  have h1 : ∀ q ∈ pl_rt, q.1 ≤ 60 := by decide
  have := h1 q hq
  by_cases h : q.1 ∈ xs
  · exact hR q hq h
  · rw [(hx.2.2 q.1 (by omega) h).2]
/-- years as both look at them -/
theorem pl_years (a b : Int32) : (∀ m, fX10_areYears a b m = some 0 ∧ fX11_isYears a b m = some 0) ∨ ∃ x y, a = nI x ∧ b = nI y ∧ x ≤ y ∧ y ≤ 99 ∧ ∀ m, fX10_areYears a b m = some 1 ∧ fX11_isYears a b m = some 1 := by
  by_cases h1 : a < 0
  · refine Or.inl fun m => ⟨by unfold fX10_areYears; rw [if_pos h1], ?_⟩
    simp only [fX11_isYears, pl_inM, ↓pl_let, pl_b1, pl_b2, ↓reduceIte, show ¬ (0 : Int32) ≤ a from Int32.not_le.mpr h1, false_and, if_false, if_true]
  by_cases h2 : b < a
  · refine Or.inl fun m => ⟨by unfold fX10_areYears; rw [if_neg h1, if_pos h2], ?_⟩
    simp only [fX11_isYears, pl_inM, ↓pl_let, pl_b1, pl_b2, ↓reduceIte, show ¬ a ≤ b from Int32.not_le.mpr h2, false_and, if_false, if_true]
    simp
  by_cases h3 : (99 : Int32) < b
  · refine Or.inl fun m => ⟨by unfold fX10_areYears; rw [if_neg h1, if_neg h2, if_pos h3], ?_⟩
    simp only [fX11_isYears, pl_inM, ↓pl_let, pl_b1, pl_b2, ↓reduceIte, show ¬ b ≤ (99 : Int32) from Int32.not_le.mpr h3, and_false, if_false, if_true]
    simp
  · have h4 : 0 ≤ a ∧ a ≤ nI 99 := ⟨Int32.not_lt.mp h1, Int32.le_trans (Int32.not_lt.mp h2) (Int32.not_lt.mp h3)⟩
    have h5 : 0 ≤ b ∧ b ≤ nI 99 := ⟨Int32.le_trans h4.1 (Int32.not_lt.mp h2), Int32.not_lt.mp h3⟩
    obtain ⟨x, hx, rfl⟩ := (pl_rng (by decide)).mp h4
    obtain ⟨y, hy, rfl⟩ := (pl_rng (by decide)).mp h5
    have hxy : x ≤ y := (nI_leI (by omega) (by omega)).mp (Int32.not_lt.mp h2)
    refine Or.inr ⟨x, y, rfl, rfl, hxy, hy, fun m => ⟨by unfold fX10_areYears; rw [if_neg h1, if_neg h2, if_neg h3], ?_⟩⟩
    simp (disch := omega) [fX11_isYears, ↓pl_let, pl_b1, pl_b2, ↓reduceIte, pl_l1, pl_l2, pl_l3, pl_l4, pl_l5, pl_l6, pl_l7, pl_l8, pl_l9, pl_l10, pl_l11, pl_l12, pl_l13, pl_l14, pl_l15, pl_l16, pl_l17, pl_l18, pl_l19, pl_l20, pl_l21, pl_l22, pl_l23, pl_l24, pl_l25, pl_l26, pl_l27, pl_l28, pl_l29, pl_l30, pl_l31, pl_l32, pl_l33, pl_l34, pl_l35, pl_l36, pl_l37, pl_l38, pl_l39, pl_l40, pl_l41, pl_l42, pl_l43, pl_l44, pl_l45, pl_l46, pl_l47, pl_l48, pl_l49, pl_l50, pl_l51, pl_l52, pl_l53, pl_l54, pl_l55, pl_l56, pl_l57, pl_l58, pl_l59, pl_l60, pl_l61, pl_l62, pl_l63, pl_l64, pl_l99, pl_l100, pl_l119, pl_l120, pl_l255, pl_l256, pl_l999, pl_l1000, pl_l1023, pl_l1024, pl_l1111, pl_l5555, pl_l10240, pl_eq0, pl_le0, pl_lt0, pl_neg, pl_leN, pl_ltN, nI_leI, nI_ltI, nI_eq, nI_add, pk_mul, pl_sub, pk_div, pk_rem, nI_clamp, pl_in, pl_ofN, pl_shl1, pl_or, pl_and, pl_le1, pl_sz1, pl_within, pl_inM, pl_isRow, pl_isRowM, pl_isText, pl_isTextM, pl_leZ, pl_0eq, pl_0lt, pl_shl2, pl_shr2, pl_tcE, pl_tcN, pl_ne1, pl_rem3, show ¬ 99 < x by omega, show ¬ (x ≤ y → 99 < y) by omega]
/-- a line more -/
def pl_lA (A : pl_A) (n a b : Nat) : pl_A := pl_sN (pl_sN (pl_sN (pl_sN A 5 (pl_N A 0 4 0) 0 n) 5 (pl_N A 0 4 0) 1 a) 5 (pl_N A 0 4 0) 2 b) 0 4 0 (pl_N A 0 4 0 + 1)
theorem pl_lA_d (A : pl_A) (n a b : Nat) : pl_dif [5] [4] [] A (pl_lA A n a b) ∧ pl_N (pl_lA A n a b) 0 4 0 = pl_N A 0 4 0 + 1 ∧ (∀ l, l ≠ pl_N A 0 4 0 → pl_N (pl_lA A n a b) 5 l = pl_N A 5 l) ∧ pl_N (pl_lA A n a b) 5 (pl_N A 0 4 0) 0 = n ∧ pl_N (pl_lA A n a b) 5 (pl_N A 0 4 0) 1 = a ∧ pl_N (pl_lA A n a b) 5 (pl_N A 0 4 0) 2 = b ∧ pl_L (pl_lA A n a b) = pl_L A := by
  refine ⟨⟨fun g h1 h2 => ?_, fun j h => ?_, fun g _ => ?_⟩, ?_, fun l hl => ?_, ?_, ?_, ?_, ?_⟩
  · have h2 : g ≠ 5 := by simpa using h2
    have h1 : g ≠ 0 := by omega
    funext i k; unfold pl_lA; simp [pl_N_sN, pl_N_sV, pl_N_sVr, pl_N_sL, pl_V_sN, pl_V_sV, pl_V_sVr, pl_V_sL, pl_L_sN, pl_L_sV, pl_L_sVr, pl_L_sL, h1, h2]
  · have h : j ≠ 4 := by simpa using h
    unfold pl_lA; simp [pl_N_sN, pl_N_sV, pl_N_sVr, pl_N_sL, pl_V_sN, pl_V_sV, pl_V_sVr, pl_V_sL, pl_L_sN, pl_L_sV, pl_L_sVr, pl_L_sL, h]
  · funext i k; unfold pl_lA; simp [pl_N_sN, pl_N_sV, pl_N_sVr, pl_N_sL, pl_V_sN, pl_V_sV, pl_V_sVr, pl_V_sL, pl_L_sN, pl_L_sV, pl_L_sVr, pl_L_sL]
  · unfold pl_lA; simp [pl_N_sN, pl_N_sV, pl_N_sVr, pl_N_sL, pl_V_sN, pl_V_sV, pl_V_sVr, pl_V_sL, pl_L_sN, pl_L_sV, pl_L_sVr, pl_L_sL]
  · funext k; unfold pl_lA; simp [pl_N_sN, pl_N_sV, pl_N_sVr, pl_N_sL, pl_V_sN, pl_V_sV, pl_V_sVr, pl_V_sL, pl_L_sN, pl_L_sV, pl_L_sVr, pl_L_sL, hl]
  · unfold pl_lA; simp [pl_N_sN, pl_N_sV, pl_N_sVr, pl_N_sL, pl_V_sN, pl_V_sV, pl_V_sVr, pl_V_sL, pl_L_sN, pl_L_sV, pl_L_sVr, pl_L_sL]
  · unfold pl_lA; simp [pl_N_sN, pl_N_sV, pl_N_sVr, pl_N_sL, pl_V_sN, pl_V_sV, pl_V_sVr, pl_V_sL, pl_L_sN, pl_L_sV, pl_L_sVr, pl_L_sL]
  · unfold pl_lA; simp [pl_N_sN, pl_N_sV, pl_N_sVr, pl_N_sL, pl_V_sN, pl_V_sV, pl_V_sVr, pl_V_sL, pl_L_sN, pl_L_sV, pl_L_sVr, pl_L_sL]
  · unfold pl_lA; simp [pl_N_sN, pl_N_sV, pl_N_sVr, pl_N_sL, pl_V_sN, pl_V_sV, pl_V_sVr, pl_V_sL, pl_L_sN, pl_L_sV, pl_L_sVr, pl_L_sL]
def pl_lC (m : ml_M) (c n a b : Nat) : ml_M := ml_sI (ml_sR (ml_sI (ml_sI (ml_sI (ml_al m 5 0 3) (ml_n m + 1) 0 (nI n)) (ml_n m + 1) 1 (nI a)) (ml_n m + 1) 2 (nI b)) 9 c (ml_n m + 1)) 1 7 (nI (c + 1))
theorem pl_ex.nI {xs : List Nat} {m m1 : ml_M} (h : pl_ex xs m m1) {a k : Nat} {v : Int32} (ha : ml_n m < a) : pl_ex xs m (ml_sI m1 a k v) := by
  rw [pl_sI_w]; exact h.wI (Or.inr ha)
theorem pl_lC_md {A : pl_A} {m : ml_M} (h : pl_Rel A m) {n a b : Nat} (hc : pl_N A 0 4 0 < 8) : pl_Md A (pl_lA A n a b) (pl_lC m (pl_N A 0 4 0) n a b) := by
  obtain ⟨hS, hW, hM, hC⟩ := h
  have hn := hS.2.2
  have hx : pl_ex [1, 9] m (pl_lC m (pl_N A 0 4 0) n a b) := (((((pl_ex.refl [1, 9] m).al.nI (by omega)).nI (by omega)).nI (by omega)).sR (by decide)).sI (by decide)
  obtain ⟨d, z1, z2, z3, z4, z5, z6⟩ := pl_lA_d A n a b
  have hR1 : ml_R (pl_lC m (pl_N A 0 4 0) n a b) 1 = ml_R m 1 := by
    funext j; unfold pl_lC; simp (disch := omega) [pl_I_sI, pl_I_sR, pl_I_sJ, pl_I_alo, pl_I_aln, pl_R_sI, pl_R_sR, pl_R_sJ, pl_R_alo, pl_R_aln, pl_J_sI, pl_J_sR, pl_J_sJ, pl_K_sI, pl_K_sR, pl_K_sJ, pl_K_alo, pl_K_aln, pl_n_sI, pl_n_sR, pl_n_sJ, pl_n_al, pl_n_cp, pl_n_cl, pl_s_sI, pl_s_sR, pl_s_sJ, pl_s_al, pl_s_cp, pl_s_cl]
  have hR9 : ∀ l, ml_R (pl_lC m (pl_N A 0 4 0) n a b) 9 l = if l = pl_N A 0 4 0 then ml_n m + 1 else ml_R m 9 l := fun l => by
    unfold pl_lC; simp (disch := omega) only [pl_I_sI, pl_I_sR, pl_I_sJ, pl_I_alo, pl_I_aln, pl_R_sI, pl_R_sR, pl_R_sJ, pl_R_alo, pl_R_aln, pl_J_sI, pl_J_sR, pl_J_sJ, pl_K_sI, pl_K_sR, pl_K_sJ, pl_K_alo, pl_K_aln, pl_n_sI, pl_n_sR, pl_n_sJ, pl_n_al, pl_n_cp, pl_n_cl, pl_s_sI, pl_s_sR, pl_s_sJ, pl_s_al, pl_s_cp, pl_s_cl, true_and]
  have hI1 : ∀ j, ml_I (pl_lC m (pl_N A 0 4 0) n a b) 1 j = if j = 7 then nI (pl_N A 0 4 0 + 1) else ml_I m 1 j := fun j => by
    unfold pl_lC; simp (disch := omega) only [pl_I_sI, pl_I_sR, pl_I_sJ, pl_I_alo, pl_I_aln, pl_R_sI, pl_R_sR, pl_R_sJ, pl_R_alo, pl_R_aln, pl_J_sI, pl_J_sR, pl_J_sJ, pl_K_sI, pl_K_sR, pl_K_sJ, pl_K_alo, pl_K_aln, pl_n_sI, pl_n_sR, pl_n_sJ, pl_n_al, pl_n_cp, pl_n_cl, pl_s_sI, pl_s_sR, pl_s_sJ, pl_s_al, pl_s_cp, pl_s_cl, true_and]
    rw [if_neg (show ¬ (1 = ml_n m + 1 ∧ j = 2) by omega), if_neg (show ¬ (1 = ml_n m + 1 ∧ j = 1) by omega), if_neg (show ¬ (1 = ml_n m + 1 ∧ j = 0) by omega)]
  have hJ1 : ml_J (pl_lC m (pl_N A 0 4 0) n a b) 1 = ml_J m 1 := by
    funext j; unfold pl_lC; simp only [pl_I_sI, pl_I_sR, pl_I_sJ, pl_I_alo, pl_I_aln, pl_R_sI, pl_R_sR, pl_R_sJ, pl_R_alo, pl_R_aln, pl_J_sI, pl_J_sR, pl_J_sJ, pl_K_sI, pl_K_sR, pl_K_sJ, pl_K_alo, pl_K_aln, pl_n_sI, pl_n_sR, pl_n_sJ, pl_n_al, pl_n_cp, pl_n_cl, pl_s_sI, pl_s_sR, pl_s_sJ, pl_s_al, pl_s_cp, pl_s_cl, pl_J_al]; rw [if_neg (by omega)]
  have hnew : ml_K (pl_lC m (pl_N A 0 4 0) n a b) (ml_n m + 1) = (5, 0) ∧ ml_I (pl_lC m (pl_N A 0 4 0) n a b) (ml_n m + 1) 0 = nI n ∧ ml_I (pl_lC m (pl_N A 0 4 0) n a b) (ml_n m + 1) 1 = nI a ∧ ml_I (pl_lC m (pl_N A 0 4 0) n a b) (ml_n m + 1) 2 = nI b := by
    have : ¬ ml_n m + 1 = 1 := by omega
    unfold pl_lC; simp [pl_I_sI, pl_I_sR, pl_I_sJ, pl_I_alo, pl_I_aln, pl_R_sI, pl_R_sR, pl_R_sJ, pl_R_alo, pl_R_aln, pl_J_sI, pl_J_sR, pl_J_sJ, pl_K_sI, pl_K_sR, pl_K_sJ, pl_K_alo, pl_K_aln, pl_n_sI, pl_n_sR, pl_n_sJ, pl_n_al, pl_n_cp, pl_n_cl, pl_s_sI, pl_s_sR, pl_s_sJ, pl_s_al, pl_s_cp, pl_s_cl, this]
  have hco : pl_co m (pl_lC m (pl_N A 0 4 0) n a b) := (((((pl_co.refl m).al hn).sI (by omega)).sI (by omega)).sI (by omega)).sR.sI (by decide)
  have hsz : ml_n (pl_lC m (pl_N A 0 4 0) n a b) = ml_n m + 1 := rfl
  generalize pl_lC m (pl_N A 0 4 0) n a b = m1 at *
  generalize pl_lA A n a b = B at *
  have hS1 : pl_Sh m1 := hx.sh hS (fun q hq h => by
    have h1 : ∀ q ∈ pl_rt, q.1 ≠ 9 := by decide
    have := h1 q hq
    simp only [List.mem_cons, List.not_mem_nil, or_false] at h
    rw [show q.1 = 1 by omega, hR1])
  obtain ⟨fr, ft, fh, fi, -, fk, fs, fy⟩ := pl_Cd d hS hC hx (by decide) (by rw [hR1])
  refine ⟨hS1, hW, hco.m hM, ?_, fr (by decide), ft (by decide), fh (by decide), fi (by decide), ⟨fun l hl => ?_, fun i hi => ?_⟩, fk (by decide), fs (by decide), fy (by decide)⟩
  · obtain ⟨b1, b2, b3, b4, b5, b6, b7, b8, b9⟩ := hC.1
    have h32 := (hx.2.2 32 (by omega) (by decide)).1
    unfold pl_Cb
    rw [hJ1, h32, d.2.1 7 (by decide), d.2.1 3 (by decide), z1, d.2.1 5 (by decide), d.2.1 6 (by decide), d.2.1 8 (by decide), d.2.2 3 (by decide), d.2.2 4 (by decide), z6]
    have hI : ∀ j, j ≠ 7 → ml_I m1 1 j = ml_I m 1 j := fun j hj => by rw [hI1, if_neg hj]
    rw [hI 3 (by decide), hI 5 (by decide), hI1 7, if_pos rfl, hI 9 (by decide), hI 11 (by decide), hI 17 (by decide), hI 15 (by decide)]
    exact ⟨b1, b2, Eq.refl _, b4, b5, b6, b7, b8, b9⟩
  · rw [z1] at hl
    rw [hR9]
    by_cases hlc : l = pl_N A 0 4 0
    · subst hlc
      rw [if_pos rfl]
      refine ⟨⟨by omega, by omega, hnew.1⟩, fun k hk => ?_⟩
      have hk3 : k = 0 ∨ k = 1 ∨ k = 2 := by omega
      rcases hk3 with rfl | rfl | rfl
      · rw [hnew.2.1, z3]
      · rw [hnew.2.2.1, z4]
      · rw [hnew.2.2.2, z5]
    · have z := hC.2.2.2.2.2.1.1 l (by omega)
      rw [if_neg hlc, z2 l hlc, (hx.2.2 _ z.1.2.1 (by have := z.1.1; simp; omega)).1]
      exact ⟨z.1.fr hx, z.2⟩
  · rw [d.2.1 5 (by decide)] at hi
    have z := hC.2.2.2.2.2.1.2 i hi
    rw [(hx.2.2 10 (by omega) (by decide)).2, (hx.2.2 _ z.1.2.1 (by have := z.1.1; simp; omega)).1, d.1 6 (by decide) (by decide)]
    exact ⟨z.1.fr hx, z.2⟩
theorem pl_lW {A : pl_A} {n a b : Nat} (hW : pl_W A) (hc : pl_N A 0 4 0 < 8) (hn : n ≤ 20) (hab : a ≤ 99) (hb : b ≤ 99) : pl_W (pl_lA A n a b) := by
  obtain ⟨d, z1, z2, z3, z4, z5, z6⟩ := pl_lA_d A n a b
  generalize pl_lA A n a b = B at *
  obtain ⟨f1, f2, f3, f4, -, f6, f7, f8⟩ := pl_Wd d hW
  refine ⟨?_, f1 (by decide), f2 (by decide), f3 (by decide), f4 (by decide), fun l hl => ?_, f6 (by decide), f7 (by decide), f8 (by decide)⟩
  · have hw := hW.1
    unfold pl_Wc at *
    rw [d.2.1 0 (by decide), d.2.1 1 (by decide), d.2.1 2 (by decide), d.2.1 3 (by decide), z1, d.2.1 5 (by decide), d.2.1 6 (by decide), d.2.1 7 (by decide), d.2.1 8 (by decide)]
    omega
  · by_cases hlc : l = pl_N A 0 4 0
    · subst hlc
      rw [z3, z4, z5]
      exact ⟨hn, hab, hb⟩
    · rw [z2 l hlc]
      exact hW.2.2.2.2.2.1 l (by omega)
def pl_lM (M : ml_M) (c n a b : Nat) : ml_M := ml_sI (ml_sI (ml_sI (ml_sI M 51 (3 * c) (nI n)) 51 (3 * c + 1) (nI a)) 51 (3 * c + 2) (nI b)) 33 34 (nI (c + 1))
theorem pl_lM_m {A : pl_A} {M : ml_M} (hM : pl_M A M) {n a b : Nat} : pl_M (pl_lA A n a b) (pl_lM M (pl_N A 0 4 0) n a b) := by
  obtain ⟨d, z1, z2, z3, z4, z5, z6⟩ := pl_lA_d A n a b
  have hI : ∀ x, 34 < x → x ≤ 60 → x ∉ [51] → ml_I (pl_lM M (pl_N A 0 4 0) n a b) x = ml_I M x := fun x h1 h2 h3 => by
    have h3 : x ≠ 51 := by simpa using h3
    have h4 : x ≠ 33 := by omega
    funext j; unfold pl_lM; simp [pl_I_sI, pl_I_sR, pl_I_sJ, pl_I_al, pl_I_cp, pl_I_cl, pl_R_sI, pl_R_sR, pl_R_sJ, pl_R_al, pl_R_cp, pl_R_cl, pl_J_sI, pl_J_sR, pl_J_sJ, pl_J_al, pl_J_cp, pl_J_cl, pl_K_sI, pl_K_sR, pl_K_sJ, pl_K_al, pl_K_cp, pl_K_cl, pl_n_sI, pl_n_sR, pl_n_sJ, pl_n_al, pl_n_cp, pl_n_cl, pl_s_sI, pl_s_sR, pl_s_sJ, pl_s_al, pl_s_cp, pl_s_cl, h3, h4]
  have hI34 : ml_I (pl_lM M (pl_N A 0 4 0) n a b) 34 = ml_I M 34 := by funext j; unfold pl_lM; simp [pl_I_sI, pl_I_sR, pl_I_sJ, pl_I_al, pl_I_cp, pl_I_cl, pl_R_sI, pl_R_sR, pl_R_sJ, pl_R_al, pl_R_cp, pl_R_cl, pl_J_sI, pl_J_sR, pl_J_sJ, pl_J_al, pl_J_cp, pl_J_cl, pl_K_sI, pl_K_sR, pl_K_sJ, pl_K_al, pl_K_cp, pl_K_cl, pl_n_sI, pl_n_sR, pl_n_sJ, pl_n_al, pl_n_cp, pl_n_cl, pl_s_sI, pl_s_sR, pl_s_sJ, pl_s_al, pl_s_cp, pl_s_cl]
  have hI33 : ∀ j, ml_I (pl_lM M (pl_N A 0 4 0) n a b) 33 j = if j = 34 then nI (pl_N A 0 4 0 + 1) else ml_I M 33 j := fun j => by unfold pl_lM; simp [pl_I_sI, pl_I_sR, pl_I_sJ, pl_I_al, pl_I_cp, pl_I_cl, pl_R_sI, pl_R_sR, pl_R_sJ, pl_R_al, pl_R_cp, pl_R_cl, pl_J_sI, pl_J_sR, pl_J_sJ, pl_J_al, pl_J_cp, pl_J_cl, pl_K_sI, pl_K_sR, pl_K_sJ, pl_K_al, pl_K_cp, pl_K_cl, pl_n_sI, pl_n_sR, pl_n_sJ, pl_n_al, pl_n_cp, pl_n_cl, pl_s_sI, pl_s_sR, pl_s_sJ, pl_s_al, pl_s_cp, pl_s_cl]
  have hJ : ml_J (pl_lM M (pl_N A 0 4 0) n a b) = ml_J M := rfl
  have h51 : ∀ l k, k < 3 → ml_I (pl_lM M (pl_N A 0 4 0) n a b) 51 (3 * l + k) = if l = pl_N A 0 4 0 then (if k = 0 then nI n else if k = 1 then nI a else nI b) else ml_I M 51 (3 * l + k) := fun l k hk => by
    unfold pl_lM
    simp only [pl_I_sI, pl_I_sR, pl_I_sJ, pl_I_al, pl_I_cp, pl_I_cl, pl_R_sI, pl_R_sR, pl_R_sJ, pl_R_al, pl_R_cp, pl_R_cl, pl_J_sI, pl_J_sR, pl_J_sJ, pl_J_al, pl_J_cp, pl_J_cl, pl_K_sI, pl_K_sR, pl_K_sJ, pl_K_al, pl_K_cp, pl_K_cl, pl_n_sI, pl_n_sR, pl_n_sJ, pl_n_al, pl_n_cp, pl_n_cl, pl_s_sI, pl_s_sR, pl_s_sJ, pl_s_al, pl_s_cp, pl_s_cl]
    by_cases hl : l = pl_N A 0 4 0
    · subst hl
      have hk3 : k = 0 ∨ k = 1 ∨ k = 2 := by omega
      rcases hk3 with rfl | rfl | rfl <;> simp
    · rw [if_neg (by omega), if_neg (by omega), if_neg (by omega), if_neg (by omega), if_neg hl]
  generalize pl_lM M (pl_N A 0 4 0) n a b = m1 at *
  generalize pl_lA A n a b = B at *
  obtain ⟨g1, g2, g3, g4, -, g6, g7⟩ := pl_Mxd d hM hI
  refine ⟨?_, g1 (by decide), g2 (by decide), g3 (by decide), g4 (by decide), fun l hl k hk => ?_, g6 (by decide), g7 (by decide)⟩
  · obtain ⟨b1, b2, b3, b4, b5, b6, b7, b8, b9, b10, b11, b12⟩ := hM.1
    unfold pl_Mb
    rw [hJ, hI34, d.2.1 0 (by decide), d.2.1 1 (by decide), d.2.1 2 (by decide), d.2.1 3 (by decide), z1, d.2.1 5 (by decide), d.2.1 6 (by decide), d.2.1 7 (by decide), d.2.1 8 (by decide), d.2.2 3 (by decide), d.2.2 4 (by decide), z6]
    have hI3 : ∀ j, j ≠ 34 → ml_I m1 33 j = ml_I M 33 j := fun j hj => by rw [hI33, if_neg hj]
    rw [hI3 9 (by decide), hI3 10 (by decide), hI3 11 (by decide), hI3 24 (by decide), hI33 34, if_pos rfl, hI3 37 (by decide), hI3 46 (by decide), hI3 23 (by decide), hI3 0 (by decide), hI3 2 (by decide)]
    exact ⟨b1, b2, b3, b4, Eq.refl _, b6, b7, b8, b9, b10, b11, b12⟩
  · rw [h51 l k hk]
    by_cases hlc : l = pl_N A 0 4 0
    · subst hlc
      rw [if_pos rfl]
      have hk3 : k = 0 ∨ k = 1 ∨ k = 2 := by omega
      rcases hk3 with rfl | rfl | rfl
      · rw [z3, if_pos rfl]
      · rw [z4, if_neg (by decide), if_pos rfl]
      · rw [z5, if_neg (by decide), if_neg (by decide)]
    · rw [if_neg hlc, z2 l hlc]
      exact hM.2.2.2.2.2.1 l (by omega) k hk
theorem pl_op_line (n a b : Int32) : pl_Ok (fX10_line 1 n a b) (fX11_line 33 n a b) := by
  intro A m h
  have hS := h.1
  have hw := h.2.1.1
  unfold pl_Wc at hw
  have hC := h.2.2.2
  have hM := h.2.2.1
  have hn60 := hS.2.2
  rcases pl_rng0 (x := n) 20 (by decide) with hn | ⟨n, hn, rfl⟩
  · refine pl_Ok.same h (-1) ?_ ?_ <;> simp [fX10_line, fX11_line, ↓pl_let, pl_b1, pl_b2, ↓reduceIte, pl_l1, pl_l2, pl_l3, pl_l4, pl_l5, pl_l6, pl_l7, pl_l8, pl_l9, pl_l10, pl_l11, pl_l12, pl_l13, pl_l14, pl_l15, pl_l16, pl_l17, pl_l18, pl_l19, pl_l20, pl_l21, pl_l22, pl_l23, pl_l24, pl_l25, pl_l26, pl_l27, pl_l28, pl_l29, pl_l30, pl_l31, pl_l32, pl_l33, pl_l34, pl_l35, pl_l36, pl_l37, pl_l38, pl_l39, pl_l40, pl_l41, pl_l42, pl_l43, pl_l44, pl_l45, pl_l46, pl_l47, pl_l48, pl_l49, pl_l50, pl_l51, pl_l52, pl_l53, pl_l54, pl_l55, pl_l56, pl_l57, pl_l58, pl_l59, pl_l60, pl_l61, pl_l62, pl_l63, pl_l64, pl_l99, pl_l100, pl_l119, pl_l120, pl_l255, pl_l256, pl_l999, pl_l1000, pl_l1023, pl_l1024, pl_l1111, pl_l5555, pl_l10240, pl_eq0, pl_le0, pl_lt0, pl_neg, pl_leN, pl_ltN, nI_leI, nI_ltI, nI_eq, nI_add, pk_mul, pl_sub, pk_div, pk_rem, nI_clamp, pl_in, pl_ofN, pl_shl1, pl_or, pl_and, pl_le1, pl_sz1, pl_within, pl_inM, pl_isRow, pl_isRowM, pl_isText, pl_isTextM, hn]
  rcases pl_years a b with y | ⟨a, b, rfl, rfl, hab, hb, y⟩
  · refine pl_Ok.same h (-1) ?_ ?_ <;> simp (disch := omega) [fX10_line, fX11_line, ↓pl_let, pl_b1, pl_b2, ↓reduceIte, pl_l1, pl_l2, pl_l3, pl_l4, pl_l5, pl_l6, pl_l7, pl_l8, pl_l9, pl_l10, pl_l11, pl_l12, pl_l13, pl_l14, pl_l15, pl_l16, pl_l17, pl_l18, pl_l19, pl_l20, pl_l21, pl_l22, pl_l23, pl_l24, pl_l25, pl_l26, pl_l27, pl_l28, pl_l29, pl_l30, pl_l31, pl_l32, pl_l33, pl_l34, pl_l35, pl_l36, pl_l37, pl_l38, pl_l39, pl_l40, pl_l41, pl_l42, pl_l43, pl_l44, pl_l45, pl_l46, pl_l47, pl_l48, pl_l49, pl_l50, pl_l51, pl_l52, pl_l53, pl_l54, pl_l55, pl_l56, pl_l57, pl_l58, pl_l59, pl_l60, pl_l61, pl_l62, pl_l63, pl_l64, pl_l99, pl_l100, pl_l119, pl_l120, pl_l255, pl_l256, pl_l999, pl_l1000, pl_l1023, pl_l1024, pl_l1111, pl_l5555, pl_l10240, pl_eq0, pl_le0, pl_lt0, pl_neg, pl_leN, pl_ltN, nI_leI, nI_ltI, nI_eq, nI_add, pk_mul, pl_sub, pk_div, pk_rem, nI_clamp, pl_in, pl_ofN, pl_shl1, pl_or, pl_and, pl_le1, pl_sz1, pl_within, pl_inM, pl_isRow, pl_isRowM, pl_isText, pl_isTextM, pl_leZ, pl_0eq, pl_0lt, pl_shl2, pl_shr2, pl_tcE, pl_tcN, pl_ne1, pl_rem3, y, show ¬ 20 < n by omega]
  by_cases hc : pl_N A 0 4 0 < 8
  · refine pl_Ok.mk (v := nI (pl_N A 0 4 0)) (pl_lC_md h (n := n) (a := a) (b := b) hc) ?_ (by show ml_n m + 1 ≤ _; omega) (by show ml_s m + 3 ≤ _; omega) (pl_lW h.2.1 hc hn (by omega) hb) fun M hS hM => ⟨pl_lM M (pl_N A 0 4 0) n a b, ?_, ((((pl_mo.refl M).sI (by decide)).sI (by decide)).sI (by decide)).sI (by decide), pl_lM_m hM⟩
    · simp (disch := omega) [fX10_line, fX5_init, ↓pl_let, pl_b1, pl_b2, ↓reduceIte, pl_k1 hS, pl_k2 hS, pl_k3 hS, pl_k8 hS, pl_k9 hS, pl_k10 hS, pl_k11 hS, pl_k12 hS, pl_k13 hS, pl_k14 hS, pl_k15 hS, pl_k16 hS, pl_k17 hS, pl_k18 hS, pl_k19 hS, pl_k20 hS, pl_k21 hS, pl_k22 hS, pl_k23 hS, pl_k24 hS, pl_k25 hS, pl_k26 hS, pl_k27 hS, pl_k28 hS, pl_k29 hS, pl_k30 hS, pl_k31 hS, pl_k32 hS, pl_r1_0 hS, pl_r1_1 hS, pl_r1_4 hS, pl_r1_6 hS, pl_r1_8 hS, pl_r1_10 hS, pl_r1_12 hS, pl_r1_13 hS, pl_r1_14 hS, pl_r1_18 hS, pl_r12_2 hS, pl_r12_3 hS, pl_r12_4 hS, pl_r12_8 hS, pl_r12_9 hS, pl_r12_10 hS, pl_r12_11 hS, pl_r12_12 hS, pl_r21_3 hS, pl_r21_5 hS, pl_r21_6 hS, pl_r21_7 hS, pl_r26_0 hS, pl_r26_2 hS, pl_r26_3 hS, pl_r26_4 hS, pl_r26_5 hS, pl_I_sI, pl_I_sR, pl_I_sJ, pl_I_alo, pl_I_aln, pl_R_sI, pl_R_sR, pl_R_sJ, pl_R_alo, pl_R_aln, pl_J_sI, pl_J_sR, pl_J_sJ, pl_K_sI, pl_K_sR, pl_K_sJ, pl_K_alo, pl_K_aln, pl_n_sI, pl_n_sR, pl_n_sJ, pl_n_al, pl_n_cp, pl_n_cl, pl_s_sI, pl_s_sR, pl_s_sJ, pl_s_al, pl_s_cp, pl_s_cl, pl_l1, pl_l2, pl_l3, pl_l4, pl_l5, pl_l6, pl_l7, pl_l8, pl_l9, pl_l10, pl_l11, pl_l12, pl_l13, pl_l14, pl_l15, pl_l16, pl_l17, pl_l18, pl_l19, pl_l20, pl_l21, pl_l22, pl_l23, pl_l24, pl_l25, pl_l26, pl_l27, pl_l28, pl_l29, pl_l30, pl_l31, pl_l32, pl_l33, pl_l34, pl_l35, pl_l36, pl_l37, pl_l38, pl_l39, pl_l40, pl_l41, pl_l42, pl_l43, pl_l44, pl_l45, pl_l46, pl_l47, pl_l48, pl_l49, pl_l50, pl_l51, pl_l52, pl_l53, pl_l54, pl_l55, pl_l56, pl_l57, pl_l58, pl_l59, pl_l60, pl_l61, pl_l62, pl_l63, pl_l64, pl_l99, pl_l100, pl_l119, pl_l120, pl_l255, pl_l256, pl_l999, pl_l1000, pl_l1023, pl_l1024, pl_l1111, pl_l5555, pl_l10240, pl_eq0, pl_le0, pl_lt0, pl_neg, pl_leN, pl_ltN, nI_leI, nI_ltI, nI_eq, nI_add, pk_mul, pl_sub, pk_div, pk_rem, nI_clamp, pl_in, pl_ofN, pl_shl1, pl_or, pl_and, pl_le1, pl_sz1, pl_within, pl_inM, pl_isRow, pl_isRowM, pl_isText, pl_isTextM, pl_leZ, pl_0eq, pl_0lt, pl_shl2, pl_shr2, pl_tcE, pl_tcN, pl_ne1, pl_rem3, hC.1.1, hC.1.2.1, hC.1.2.2.1, hC.1.2.2.2.1, hC.1.2.2.2.2.1, y, hc, show ¬ 20 < n by omega, show ¬ 1 = ml_n m + 1 by omega, pl_lC]
    · have hc3 : 3 * pl_N A 0 4 0 + 2 < 24 := by omega
      simp (disch := omega) [fX11_line, ↓pl_let, pl_b1, pl_b2, ↓reduceIte, pl_k33 hS, pl_k34 hS, pl_k35 hS, pl_k36 hS, pl_k37 hS, pl_k38 hS, pl_k39 hS, pl_k40 hS, pl_k41 hS, pl_k42 hS, pl_k43 hS, pl_k44 hS, pl_k45 hS, pl_k46 hS, pl_k47 hS, pl_k48 hS, pl_k49 hS, pl_k50 hS, pl_k51 hS, pl_k52 hS, pl_k53 hS, pl_k54 hS, pl_k55 hS, pl_k56 hS, pl_k57 hS, pl_k58 hS, pl_k59 hS, pl_k60 hS, pl_r33_1 hS, pl_r33_4 hS, pl_r33_5 hS, pl_r33_6 hS, pl_r33_7 hS, pl_r33_8 hS, pl_r33_12 hS, pl_r33_13 hS, pl_r33_14 hS, pl_r33_20 hS, pl_r33_21 hS, pl_r33_22 hS, pl_r33_25 hS, pl_r33_26 hS, pl_r33_27 hS, pl_r33_29 hS, pl_r33_31 hS, pl_r33_35 hS, pl_r33_36 hS, pl_r33_38 hS, pl_r33_39 hS, pl_r33_40 hS, pl_r33_42 hS, pl_r33_43 hS, pl_r33_44 hS, pl_r33_45 hS, pl_r33_47 hS, pl_I_sI, pl_I_sR, pl_I_sJ, pl_I_al, pl_I_cp, pl_I_cl, pl_R_sI, pl_R_sR, pl_R_sJ, pl_R_al, pl_R_cp, pl_R_cl, pl_J_sI, pl_J_sR, pl_J_sJ, pl_J_al, pl_J_cp, pl_J_cl, pl_K_sI, pl_K_sR, pl_K_sJ, pl_K_al, pl_K_cp, pl_K_cl, pl_n_sI, pl_n_sR, pl_n_sJ, pl_n_al, pl_n_cp, pl_n_cl, pl_s_sI, pl_s_sR, pl_s_sJ, pl_s_al, pl_s_cp, pl_s_cl, pl_l1, pl_l2, pl_l3, pl_l4, pl_l5, pl_l6, pl_l7, pl_l8, pl_l9, pl_l10, pl_l11, pl_l12, pl_l13, pl_l14, pl_l15, pl_l16, pl_l17, pl_l18, pl_l19, pl_l20, pl_l21, pl_l22, pl_l23, pl_l24, pl_l25, pl_l26, pl_l27, pl_l28, pl_l29, pl_l30, pl_l31, pl_l32, pl_l33, pl_l34, pl_l35, pl_l36, pl_l37, pl_l38, pl_l39, pl_l40, pl_l41, pl_l42, pl_l43, pl_l44, pl_l45, pl_l46, pl_l47, pl_l48, pl_l49, pl_l50, pl_l51, pl_l52, pl_l53, pl_l54, pl_l55, pl_l56, pl_l57, pl_l58, pl_l59, pl_l60, pl_l61, pl_l62, pl_l63, pl_l64, pl_l99, pl_l100, pl_l119, pl_l120, pl_l255, pl_l256, pl_l999, pl_l1000, pl_l1023, pl_l1024, pl_l1111, pl_l5555, pl_l10240, pl_eq0, pl_le0, pl_lt0, pl_neg, pl_leN, pl_ltN, nI_leI, nI_ltI, nI_eq, nI_add, pk_mul, pl_sub, pk_div, pk_rem, nI_clamp, pl_in, pl_ofN, pl_shl1, pl_or, pl_and, pl_le1, pl_sz1, pl_within, pl_inM, pl_isRow, pl_isRowM, pl_isText, pl_isTextM, pl_leZ, pl_0eq, pl_0lt, pl_shl2, pl_shr2, pl_tcE, pl_tcN, pl_ne1, pl_rem3, hM.1.1, hM.1.2.1, hM.1.2.2.1, hM.1.2.2.2.1, hM.1.2.2.2.2.1, hM.1.2.2.2.2.2.1, hM.1.2.2.2.2.2.2.1, hM.1.2.2.2.2.2.2.2.1, y, show ¬ pl_N A 0 4 0 = 8 by omega, show ¬ 20 < n by omega, show 3 * pl_N A 0 4 0 < 24 by omega, show 3 * pl_N A 0 4 0 + 1 < 24 by omega, hc3, pl_lM]
  · refine pl_Ok.same h (-2) ?_ ?_
    · simp (disch := omega) [fX10_line, ↓pl_let, pl_b1, pl_b2, ↓reduceIte, pl_k1 hS, pl_k2 hS, pl_k3 hS, pl_k8 hS, pl_k9 hS, pl_k10 hS, pl_k11 hS, pl_k12 hS, pl_k13 hS, pl_k14 hS, pl_k15 hS, pl_k16 hS, pl_k17 hS, pl_k18 hS, pl_k19 hS, pl_k20 hS, pl_k21 hS, pl_k22 hS, pl_k23 hS, pl_k24 hS, pl_k25 hS, pl_k26 hS, pl_k27 hS, pl_k28 hS, pl_k29 hS, pl_k30 hS, pl_k31 hS, pl_k32 hS, pl_r1_0 hS, pl_r1_1 hS, pl_r1_4 hS, pl_r1_6 hS, pl_r1_8 hS, pl_r1_10 hS, pl_r1_12 hS, pl_r1_13 hS, pl_r1_14 hS, pl_r1_18 hS, pl_r12_2 hS, pl_r12_3 hS, pl_r12_4 hS, pl_r12_8 hS, pl_r12_9 hS, pl_r12_10 hS, pl_r12_11 hS, pl_r12_12 hS, pl_r21_3 hS, pl_r21_5 hS, pl_r21_6 hS, pl_r21_7 hS, pl_r26_0 hS, pl_r26_2 hS, pl_r26_3 hS, pl_r26_4 hS, pl_r26_5 hS, pl_l1, pl_l2, pl_l3, pl_l4, pl_l5, pl_l6, pl_l7, pl_l8, pl_l9, pl_l10, pl_l11, pl_l12, pl_l13, pl_l14, pl_l15, pl_l16, pl_l17, pl_l18, pl_l19, pl_l20, pl_l21, pl_l22, pl_l23, pl_l24, pl_l25, pl_l26, pl_l27, pl_l28, pl_l29, pl_l30, pl_l31, pl_l32, pl_l33, pl_l34, pl_l35, pl_l36, pl_l37, pl_l38, pl_l39, pl_l40, pl_l41, pl_l42, pl_l43, pl_l44, pl_l45, pl_l46, pl_l47, pl_l48, pl_l49, pl_l50, pl_l51, pl_l52, pl_l53, pl_l54, pl_l55, pl_l56, pl_l57, pl_l58, pl_l59, pl_l60, pl_l61, pl_l62, pl_l63, pl_l64, pl_l99, pl_l100, pl_l119, pl_l120, pl_l255, pl_l256, pl_l999, pl_l1000, pl_l1023, pl_l1024, pl_l1111, pl_l5555, pl_l10240, pl_eq0, pl_le0, pl_lt0, pl_neg, pl_leN, pl_ltN, nI_leI, nI_ltI, nI_eq, nI_add, pk_mul, pl_sub, pk_div, pk_rem, nI_clamp, pl_in, pl_ofN, pl_shl1, pl_or, pl_and, pl_le1, pl_sz1, pl_within, pl_inM, pl_isRow, pl_isRowM, pl_isText, pl_isTextM, pl_leZ, pl_0eq, pl_0lt, pl_shl2, pl_shr2, pl_tcE, pl_tcN, pl_ne1, pl_rem3, hC.1.1, hC.1.2.1, hC.1.2.2.1, hC.1.2.2.2.1, hC.1.2.2.2.2.1, y, hc, show ¬ 20 < n by omega]
    · simp (disch := omega) [fX11_line, ↓pl_let, pl_b1, pl_b2, ↓reduceIte, pl_k33 hS, pl_k34 hS, pl_k35 hS, pl_k36 hS, pl_k37 hS, pl_k38 hS, pl_k39 hS, pl_k40 hS, pl_k41 hS, pl_k42 hS, pl_k43 hS, pl_k44 hS, pl_k45 hS, pl_k46 hS, pl_k47 hS, pl_k48 hS, pl_k49 hS, pl_k50 hS, pl_k51 hS, pl_k52 hS, pl_k53 hS, pl_k54 hS, pl_k55 hS, pl_k56 hS, pl_k57 hS, pl_k58 hS, pl_k59 hS, pl_k60 hS, pl_r33_1 hS, pl_r33_4 hS, pl_r33_5 hS, pl_r33_6 hS, pl_r33_7 hS, pl_r33_8 hS, pl_r33_12 hS, pl_r33_13 hS, pl_r33_14 hS, pl_r33_20 hS, pl_r33_21 hS, pl_r33_22 hS, pl_r33_25 hS, pl_r33_26 hS, pl_r33_27 hS, pl_r33_29 hS, pl_r33_31 hS, pl_r33_35 hS, pl_r33_36 hS, pl_r33_38 hS, pl_r33_39 hS, pl_r33_40 hS, pl_r33_42 hS, pl_r33_43 hS, pl_r33_44 hS, pl_r33_45 hS, pl_r33_47 hS, pl_l1, pl_l2, pl_l3, pl_l4, pl_l5, pl_l6, pl_l7, pl_l8, pl_l9, pl_l10, pl_l11, pl_l12, pl_l13, pl_l14, pl_l15, pl_l16, pl_l17, pl_l18, pl_l19, pl_l20, pl_l21, pl_l22, pl_l23, pl_l24, pl_l25, pl_l26, pl_l27, pl_l28, pl_l29, pl_l30, pl_l31, pl_l32, pl_l33, pl_l34, pl_l35, pl_l36, pl_l37, pl_l38, pl_l39, pl_l40, pl_l41, pl_l42, pl_l43, pl_l44, pl_l45, pl_l46, pl_l47, pl_l48, pl_l49, pl_l50, pl_l51, pl_l52, pl_l53, pl_l54, pl_l55, pl_l56, pl_l57, pl_l58, pl_l59, pl_l60, pl_l61, pl_l62, pl_l63, pl_l64, pl_l99, pl_l100, pl_l119, pl_l120, pl_l255, pl_l256, pl_l999, pl_l1000, pl_l1023, pl_l1024, pl_l1111, pl_l5555, pl_l10240, pl_eq0, pl_le0, pl_lt0, pl_neg, pl_leN, pl_ltN, nI_leI, nI_ltI, nI_eq, nI_add, pk_mul, pl_sub, pk_div, pk_rem, nI_clamp, pl_in, pl_ofN, pl_shl1, pl_or, pl_and, pl_le1, pl_sz1, pl_within, pl_inM, pl_isRow, pl_isRowM, pl_isText, pl_isTextM, pl_leZ, pl_0eq, pl_0lt, pl_shl2, pl_shr2, pl_tcE, pl_tcN, pl_ne1, pl_rem3, hM.1.1, hM.1.2.1, hM.1.2.2.1, hM.1.2.2.2.1, hM.1.2.2.2.2.1, hM.1.2.2.2.2.2.1, hM.1.2.2.2.2.2.2.1, hM.1.2.2.2.2.2.2.2.1, y, show pl_N A 0 4 0 = 8 by omega, show ¬ 20 < n by omega]

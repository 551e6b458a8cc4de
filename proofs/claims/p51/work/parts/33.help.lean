/-! HELPS: ranges, the small calls, what a told or found answer changes. -/
theorem pl_within (v a b : Int32) (m : ml_M) : fX10_within v a b m = some (if a ≤ v ∧ v ≤ b then 1 else 0) := by
  unfold fX10_within
  by_cases h1 : v < a
  · rw [if_pos h1, if_neg (fun h => absurd h1 (Int32.not_lt.mpr h.1))]
  · rw [if_neg h1]
    by_cases h2 : b < v
    · rw [if_pos h2, if_neg (fun h => absurd h2 (Int32.not_lt.mpr h.2))]
    · rw [if_neg h2, if_pos ⟨Int32.not_lt.mp h1, Int32.not_lt.mp h2⟩]
theorem pl_inM (v a b : Int32) (m : ml_M) : fX11_in v a b m = some (if a ≤ v ∧ v ≤ b then 1 else 0) := pl_within v a b m
theorem pl_b01 (p : Prop) [Decidable p] : (if (if p then (1 : Int32) else 0) = 0 ∨ (if p then (1 : Int32) else 0) = 1 then some (if p then (1 : Int32) else 0) else none) = some (if p then 1 else 0) := by
  by_cases h : p <;> simp [h]
theorem pl_rng {x : Int32} {n : Nat} (hn : n < 2 ^ 31) : (0 ≤ x ∧ x ≤ nI n) ↔ ∃ j, j ≤ n ∧ x = nI j := by
  constructor
  · rintro ⟨h1, h2⟩
    exact nI_of2 (nI_toInt hn) (Int32.not_lt.mpr h1) h2
  · rintro ⟨j, hj, rfl⟩
    exact ⟨nI_pos' (by omega), nI_le hj hn⟩
/-- in a range that begins at 0: an int of it -/
theorem pl_rng0 {x : Int32} (n : Nat) (hn : n < 2 ^ 31) : (¬ (0 ≤ x ∧ x ≤ nI n)) ∨ ∃ j, j ≤ n ∧ x = nI j := by
  by_cases h : 0 ≤ x ∧ x ≤ nI n
  · exact Or.inr ((pl_rng hn).mp h)
  · exact Or.inl h
theorem pl_ri {j a b : Nat} (ha : a < 2 ^ 31) (hb : b < 2 ^ 31) (hj : j < 2 ^ 31) : (nI a ≤ nI j ∧ nI j ≤ nI b) ↔ (a ≤ j ∧ j ≤ b) := by
  rw [nI_leI ha hj, nI_leI hj hb]
theorem pl_isRow (r : Int32) (m : ml_M) : fX10_isRow r m = some (if 0 ≤ r ∧ r ≤ nI 5 then 1 else 0) := by
  unfold fX10_isRow
  rw [pl_within, pl_b1, pl_b01, pl_l5]
theorem pl_isRowM (r : Int32) (m : ml_M) : fX11_isRow r m = some (if 0 ≤ r ∧ r ≤ nI 5 then 1 else 0) := by
  unfold fX11_isRow
  rw [pl_inM, pl_b1, pl_b01, pl_l5]
theorem pl_isText (r : Int32) (m : ml_M) : fX10_isText r m = some (if 0 ≤ r ∧ r ≤ nI 3 then 1 else 0) := by
  unfold fX10_isText
  rw [pl_within, pl_b1, pl_b01, pl_l3]
theorem pl_isTextM (r : Int32) (m : ml_M) : fX11_isText r m = some (if 0 ≤ r ∧ r ≤ nI 3 then 1 else 0) := by
  unfold fX11_isText
  rw [pl_inM, pl_b1, pl_b01, pl_l3]
theorem pl_isKind (r : Int32) (m : ml_M) : fX10_isKind r m = some (if nI 1 ≤ r ∧ r ≤ nI 5 then 1 else 0) := by
  unfold fX10_isKind
  rw [pl_within, pl_b1, pl_b01, pl_l5, pl_l1]
theorem pl_tell {m : ml_M} (hS : pl_Sh m) (v : Int32) : fX10_tell 1 v m = some (1, ml_sI m 1 15 v) := by
  unfold fX10_tell
  rw [pl_k1 hS, if_pos rfl, pl_let]
theorem pl_tellM {m : ml_M} (hS : pl_Sh m) (v a : Int32) : fX11_tells 33 v a m = some (a, ml_sI m 33 2 v) := by
  unfold fX11_tells
  rw [pl_k33 hS, if_pos rfl, pl_let]
/-- the class has met finding f -/
def pl_fC (m : ml_M) (f : Nat) : ml_M := ml_sI (ml_sI m 1 17 (nI f)) 32 f (ml_I m 32 f + 1)
def pl_fM (m : ml_M) (f : Nat) : ml_M := ml_sI (ml_sI m 33 0 (nI f)) 34 f (ml_I m 34 f + 1)
def pl_fA (A : pl_A) (f : Nat) : pl_A := pl_sV (pl_sN A 0 8 0 f) 4 0 f (pl_V A 4 0 f + 1)
def pl_tA (A : pl_A) (v : Int32) : pl_A := pl_sV A 3 0 0 v
theorem pl_found {m : ml_M} (hS : pl_Sh m) (f : Nat) (hf : f < 6) : fX10_found 1 (nI f) m = some (-3, pl_fC m f) := by
  unfold fX10_found
  simp (disch := omega) only [↓pl_let, pl_b1, pl_b2, ↓reduceIte, pl_I_sI, pl_I_sR, pl_I_sJ, pl_I_al, pl_I_cp, pl_I_cl, pl_R_sI, pl_R_sR, pl_R_sJ, pl_R_al, pl_R_cp, pl_R_cl, pl_J_sI, pl_J_sR, pl_J_sJ, pl_J_al, pl_J_cp, pl_J_cl, pl_K_sI, pl_K_sR, pl_K_sJ, pl_K_al, pl_K_cp, pl_K_cl, pl_n_sI, pl_n_sR, pl_n_sJ, pl_n_al, pl_n_cp, pl_n_cl, pl_s_sI, pl_s_sR, pl_s_sJ, pl_s_al, pl_s_cp, pl_s_cl, pl_k1 hS, pl_k2 hS, pl_k3 hS, pl_k8 hS, pl_k9 hS, pl_k10 hS, pl_k11 hS, pl_k12 hS, pl_k13 hS, pl_k14 hS, pl_k15 hS, pl_k16 hS, pl_k17 hS, pl_k18 hS, pl_k19 hS, pl_k20 hS, pl_k21 hS, pl_k22 hS, pl_k23 hS, pl_k24 hS, pl_k25 hS, pl_k26 hS, pl_k27 hS, pl_k28 hS, pl_k29 hS, pl_k30 hS, pl_k31 hS, pl_k32 hS, pl_r1_0 hS, pl_r1_1 hS, pl_r1_4 hS, pl_r1_6 hS, pl_r1_8 hS, pl_r1_10 hS, pl_r1_12 hS, pl_r1_13 hS, pl_r1_14 hS, pl_r1_18 hS, pl_r12_2 hS, pl_r12_3 hS, pl_r12_4 hS, pl_r12_8 hS, pl_r12_9 hS, pl_r12_10 hS, pl_r12_11 hS, pl_r12_12 hS, pl_r21_3 hS, pl_r21_5 hS, pl_r21_6 hS, pl_r21_7 hS, pl_r26_0 hS, pl_r26_2 hS, pl_r26_3 hS, pl_r26_4 hS, pl_r26_5 hS, pl_in, nI_clamp, hf, and_self, if_true]
  rw [if_neg (by omega)]; rfl
theorem pl_meets {m : ml_M} (hS : pl_Sh m) (f : Nat) (hf : f < 6) : fX11_meets 33 (nI f) m = some (-3, pl_fM m f) := by
  unfold fX11_meets
  simp (disch := omega) only [↓pl_let, pl_b1, pl_b2, ↓reduceIte, pl_I_sI, pl_I_sR, pl_I_sJ, pl_I_al, pl_I_cp, pl_I_cl, pl_R_sI, pl_R_sR, pl_R_sJ, pl_R_al, pl_R_cp, pl_R_cl, pl_J_sI, pl_J_sR, pl_J_sJ, pl_J_al, pl_J_cp, pl_J_cl, pl_K_sI, pl_K_sR, pl_K_sJ, pl_K_al, pl_K_cp, pl_K_cl, pl_n_sI, pl_n_sR, pl_n_sJ, pl_n_al, pl_n_cp, pl_n_cl, pl_s_sI, pl_s_sR, pl_s_sJ, pl_s_al, pl_s_cp, pl_s_cl, pl_k33 hS, pl_k34 hS, pl_k35 hS, pl_k36 hS, pl_k37 hS, pl_k38 hS, pl_k39 hS, pl_k40 hS, pl_k41 hS, pl_k42 hS, pl_k43 hS, pl_k44 hS, pl_k45 hS, pl_k46 hS, pl_k47 hS, pl_k48 hS, pl_k49 hS, pl_k50 hS, pl_k51 hS, pl_k52 hS, pl_k53 hS, pl_k54 hS, pl_k55 hS, pl_k56 hS, pl_k57 hS, pl_k58 hS, pl_k59 hS, pl_k60 hS, pl_r33_1 hS, pl_r33_4 hS, pl_r33_5 hS, pl_r33_6 hS, pl_r33_7 hS, pl_r33_8 hS, pl_r33_12 hS, pl_r33_13 hS, pl_r33_14 hS, pl_r33_20 hS, pl_r33_21 hS, pl_r33_22 hS, pl_r33_25 hS, pl_r33_26 hS, pl_r33_27 hS, pl_r33_29 hS, pl_r33_31 hS, pl_r33_35 hS, pl_r33_36 hS, pl_r33_38 hS, pl_r33_39 hS, pl_r33_40 hS, pl_r33_42 hS, pl_r33_43 hS, pl_r33_44 hS, pl_r33_45 hS, pl_r33_47 hS, pl_in, nI_clamp, hf, and_self, if_true]
  rw [if_neg (by omega)]; rfl
/-- between the class's call and the reference's -/
def pl_Md (A B : pl_A) (m : ml_M) : Prop := pl_Sh m ∧ pl_W A ∧ pl_M A m ∧ pl_C B m
theorem pl_Rel.md {A : pl_A} {m : ml_M} (h : pl_Rel A m) : pl_Md A A m := h
/-- the same state but for wear, finding, asked, findings, many -/
def pl_nr (A B : pl_A) : Prop := (∀ g, 0 < g → pl_N B g = pl_N A g) ∧ (∀ j, j < 7 → pl_N B 0 j 0 = pl_N A 0 j 0) ∧ ∀ g, g < 3 → pl_V B g = pl_V A g
theorem pl_nr.refl (A : pl_A) : pl_nr A A := ⟨fun _ _ => rfl, fun _ _ => rfl, fun _ _ => rfl⟩
theorem pl_nr.C {A B : pl_A} {m m1 : ml_M} (e : pl_nr A B) (hS : pl_Sh m) (hC : pl_C A m) (hx : pl_ex [1, 32] m m1) (hr : ml_R m1 1 2 = ml_R m 1 2) (hb : pl_Cb B m1) : pl_C B m1 := by
  obtain ⟨h1, h2, h3, h4, h5, h6, h7, h8, h9⟩ := hC
  obtain ⟨e1, e2, e3⟩ := e
  have hk : ∀ a ∈ [1, 32], (ml_K m a).1 = 10 ∨ (ml_K m a).1 = 20 := by
    intro a ha
    simp only [List.mem_cons, List.not_mem_nil, or_false] at ha
    rcases ha with rfl | rfl
    · rw [pl_k1 hS]; exact Or.inl rfl
    · rw [pl_k32 hS]; exact Or.inr rfl
  have hl : ∀ k a, a ∈ [1, 32] → a ≤ 60 ∨ (ml_K m a).1 ≠ k := fun k a ha => by
    simp only [List.mem_cons, List.not_mem_nil, or_false] at ha
    exact Or.inl (by omega)
  have hne : ∀ k, k ≠ 10 → k ≠ 20 → ∀ a ∈ [1, 32], (ml_K m a).1 ≠ k := fun k _ _ a ha => by have := hk a ha; omega
  refine ⟨hb, h2.fr hS hx (by decide) (hl _) (e1 8 (by decide)) (e3 0 (by decide)), h3.fr hS hx (by decide) (hl _) (e1 9 (by decide)) (e3 1 (by decide)), h4.fr hx hr ?_ (fun k _ => hl k) (e1 1 (by decide)) (e1 2 (by decide)) (e1 3 (by decide)) (e2 0 (by decide)) (e2 1 (by decide)) (e2 2 (by decide)),
    h5.fr hS hx (by decide) (hl _) (e1 1 (by decide)) (e1 4 (by decide)) (e2 0 (by decide)) (e2 3 (by decide)), h6.fr hS hx (by decide) (by decide) (fun k _ => hl k) (e1 5 (by decide)) (e1 6 (by decide)) (e2 4 (by decide)) (e2 5 (by decide)),
    h7.fr2 hS hx (by decide) (by decide) (fun a ha => ?_) (e1 7 (by decide)) (e2 6 (by decide)) (e3 2 (by decide)), h8.fr hS h4.1 hx hr (by decide) (hne 1 (by decide) (by decide)) (e1 1 (by decide)) (e1 3 (by decide)) (e1 4 (by decide)) (e2 0 (by decide)) (e2 1 (by decide)) (e2 2 (by decide)) (e2 3 (by decide)), h9.fr hS hx (by decide) (by decide) (e1 6 (by decide)) (e2 5 (by decide))⟩
  · intro k hk
    simp only [List.mem_cons, List.not_mem_nil, or_false] at hk
    exact hne k (by omega) (by omega)
  · simp only [List.mem_cons, List.not_mem_nil, or_false] at ha
    exact Or.inl (by omega)
theorem pl_nr.M {A B : pl_A} {m m1 : ml_M} (e : pl_nr A B) (hM : pl_M A m) (hx : ∀ a, 34 < a → a ≤ 60 → ml_I m1 a = ml_I m a) (hb : pl_Mb B m1) : pl_M B m1 := by
  obtain ⟨h1, h2, h3, h4, h5, h6⟩ := hM
  obtain ⟨e1, e2, e3⟩ := e
  refine ⟨hb, ?_, ?_, ?_, ?_, ?_⟩
  · unfold pl_Mr; rw [e1 8 (by decide), e3 0 (by decide), hx 35 (by decide) (by decide), hx 36 (by decide) (by decide)]; exact h2
  · unfold pl_Mt; rw [e1 9 (by decide), e3 1 (by decide), hx 38 (by decide) (by decide), hx 39 (by decide) (by decide)]; exact h3
  · unfold pl_Mh; rw [e1 1 (by decide), e1 2 (by decide), e1 3 (by decide), e2 0 (by decide), e2 1 (by decide), e2 2 (by decide), hx 40 (by decide) (by decide), hx 41 (by decide) (by decide), hx 42 (by decide) (by decide)]; exact h4
  · unfold pl_Mi; rw [e1 4 (by decide), e2 3 (by decide), hx 46 (by decide) (by decide)]; exact h5
  · unfold pl_Mn; rw [e1 5 (by decide), e1 6 (by decide), e1 7 (by decide), e2 4 (by decide), e2 5 (by decide), e2 6 (by decide), e3 2 (by decide), hx 51 (by decide) (by decide), hx 53 (by decide) (by decide), hx 60 (by decide) (by decide)]; exact h6
theorem pl_nr.W {A B : pl_A} (e : pl_nr A B) (hW : pl_W A) (hc : pl_N B 0 7 0 ≤ 4 ∧ pl_N B 0 8 0 ≤ 5) : pl_W B := by
  obtain ⟨h1, h2, h3, h4, h5, h6, h7, h8, h9⟩ := hW
  obtain ⟨e1, e2, e3⟩ := e
  refine ⟨?_, ?_, ?_, ?_, ?_, ?_, ?_, ?_, ?_⟩
  · unfold pl_Wc at *; rw [e2 0 (by decide), e2 1 (by decide), e2 2 (by decide), e2 3 (by decide), e2 4 (by decide), e2 5 (by decide), e2 6 (by decide)]; exact ⟨h1.1, h1.2.1, h1.2.2.1, h1.2.2.2.1, h1.2.2.2.2.1, h1.2.2.2.2.2.1, h1.2.2.2.2.2.2.1, hc⟩
  · unfold pl_Wl; rw [e1 1 (by decide), e2 0 (by decide)]; exact h2
  · unfold pl_Wt; rw [e1 2 (by decide), e2 1 (by decide)]; exact h3
  · unfold pl_Wp; rw [e1 3 (by decide), e2 1 (by decide), e2 2 (by decide)]; exact h4
  · unfold pl_Wi; rw [e1 4 (by decide), e2 1 (by decide), e2 3 (by decide)]; exact h5
  · unfold pl_Wn; rw [e1 5 (by decide), e2 4 (by decide)]; exact h6
  · unfold pl_Wb; rw [e1 6 (by decide), e2 5 (by decide)]; exact h7
  · unfold pl_Wk; rw [e1 7 (by decide), e2 6 (by decide), e2 1 (by decide), e3 2 (by decide)]; exact h8
  · unfold pl_Wr; rw [e1 8 (by decide), e1 9 (by decide), e3 1 (by decide)]; exact h9
theorem pl_ex.sI {xs : List Nat} {m m1 : ml_M} (h : pl_ex xs m m1) {a k : Nat} {v : Int32} (ha : a ∈ xs) : pl_ex xs m (ml_sI m1 a k v) := by
  refine ⟨h.1, h.2.1, fun b hb hn => ⟨?_, (h.2.2 b hb hn).2⟩⟩
  rw [← (h.2.2 b hb hn).1]
  funext j
  rw [pl_I_sI, if_neg (fun z => by rcases z with ⟨rfl, -⟩; exact hn ha)]
theorem pl_ex.sR {xs : List Nat} {m m1 : ml_M} (h : pl_ex xs m m1) {a k : Nat} {v : Nat} (ha : a ∈ xs) : pl_ex xs m (ml_sR m1 a k v) := by
  refine ⟨h.1, h.2.1, fun b hb hn => ⟨(h.2.2 b hb hn).1, ?_⟩⟩
  rw [← (h.2.2 b hb hn).2]
  funext j
  rw [pl_R_sR, if_neg (fun z => by rcases z with ⟨rfl, -⟩; exact hn ha)]
theorem pl_ex.sJ {xs : List Nat} {m m1 : ml_M} (h : pl_ex xs m m1) {a k : Nat} {v : Int64} : pl_ex xs m (ml_sJ m1 a k v) := ⟨h.1, h.2.1, fun b hb hn => h.2.2 b hb hn⟩
theorem pl_ex.refl (xs : List Nat) (m : ml_M) : pl_ex xs m m := ⟨Nat.le_refl _, fun _ _ => rfl, fun _ _ _ => ⟨rfl, rfl⟩⟩
theorem pl_ex.al {xs : List Nat} {m m1 : ml_M} (h : pl_ex xs m m1) {kd ln sz : Nat} : pl_ex xs m (ml_al m1 kd ln sz) := by
  have h1 := h.1
  refine ⟨by rw [pl_n_al]; omega, fun b hb => ?_, fun b hb hn => ⟨?_, ?_⟩⟩
  · rw [pl_K_al, if_neg (by omega)]; exact h.2.1 b hb
  · rw [← (h.2.2 b hb hn).1]; funext j; rw [pl_I_al, if_neg (by omega)]
  · rw [← (h.2.2 b hb hn).2]; funext j; rw [pl_R_al, if_neg (by omega)]
theorem pl_ex.cl {xs : List Nat} {m m1 : ml_M} (h : pl_ex xs m m1) {a : Nat} : pl_ex xs m (ml_cl2 m1 a) := by
  have h1 := h.1
  refine ⟨by rw [pl_n_cl]; omega, fun b hb => ?_, fun b hb hn => ⟨?_, ?_⟩⟩
  · rw [pl_K_cl, if_neg (by omega)]; exact h.2.1 b hb
  · rw [← (h.2.2 b hb hn).1]; funext j; rw [pl_I_cl, if_neg (by omega)]
  · rw [← (h.2.2 b hb hn).2]; funext j; rw [pl_R_cl, if_neg (by omega)]
theorem pl_ex.cp {xs : List Nat} {m m1 : ml_M} (h : pl_ex xs m m1) {sa sp da dp n : Nat} (ha : da ∈ xs) : pl_ex xs m (ml_cp m1 sa sp da dp n) := by
  refine ⟨h.1, h.2.1, fun b hb hn => ⟨?_, (h.2.2 b hb hn).2⟩⟩
  rw [← (h.2.2 b hb hn).1]
  funext j
  rw [pl_I_cp, if_neg (fun z => by rcases z with ⟨rfl, -⟩; exact hn ha)]
theorem pl_co.sI {m m1 : ml_M} (h : pl_co m m1) {a k : Nat} {v : Int32} (ha : a < 33 ∨ 60 < a) : pl_co m (ml_sI m1 a k v) := fun b h1 h2 => ⟨by rw [← (h b h1 h2).1]; funext j; rw [pl_I_sI, if_neg (by omega)], (h b h1 h2).2⟩
theorem pl_co.sR {m m1 : ml_M} (h : pl_co m m1) {a k v : Nat} : pl_co m (ml_sR m1 a k v) := h
theorem pl_co.sJ {m m1 : ml_M} (h : pl_co m m1) {a k : Nat} {v : Int64} (ha : a < 33 ∨ 60 < a) : pl_co m (ml_sJ m1 a k v) := fun b h1 h2 => ⟨(h b h1 h2).1, by rw [← (h b h1 h2).2]; funext j; rw [pl_J_sJ, if_neg (by omega)]⟩
theorem pl_co.al {m m1 : ml_M} (h : pl_co m m1) {kd ln sz : Nat} (hn : 60 ≤ ml_n m1) : pl_co m (ml_al m1 kd ln sz) := fun b h1 h2 => ⟨by rw [← (h b h1 h2).1]; funext j; rw [pl_I_al, if_neg (by omega)], by rw [← (h b h1 h2).2]; funext j; rw [pl_J_al, if_neg (by omega)]⟩
theorem pl_co.cl {m m1 : ml_M} (h : pl_co m m1) {a : Nat} (hn : 60 ≤ ml_n m1) : pl_co m (ml_cl2 m1 a) := fun b h1 h2 => ⟨by rw [← (h b h1 h2).1]; funext j; rw [pl_I_cl, if_neg (by omega)], by rw [← (h b h1 h2).2]; funext j; rw [pl_J_cl, if_neg (by omega)]⟩
theorem pl_co.cp {m m1 : ml_M} (h : pl_co m m1) {sa sp da dp n : Nat} (ha : da < 33 ∨ 60 < da) : pl_co m (ml_cp m1 sa sp da dp n) := fun b h1 h2 => ⟨by rw [← (h b h1 h2).1]; funext j; rw [pl_I_cp, if_neg (by omega)], (h b h1 h2).2⟩
theorem pl_nr.t (A : pl_A) (v : Int32) : pl_nr A (pl_tA A v) := by
  refine ⟨fun g _ => rfl, fun j _ => rfl, fun g hg => ?_⟩
  funext i j
  unfold pl_tA
  rw [pl_V_sV, if_neg (by omega)]
theorem pl_nr.f (A : pl_A) (f : Nat) : pl_nr A (pl_fA A f) := by
  refine ⟨fun g hg => ?_, fun j hj => ?_, fun g hg => ?_⟩
  · funext i k
    unfold pl_fA
    rw [pl_N_sV, pl_N_sN, if_neg (by omega)]
  · unfold pl_fA
    rw [pl_N_sV, pl_N_sN, if_neg (by omega)]
  · funext i j
    unfold pl_fA
    rw [pl_V_sV, if_neg (by omega), pl_V_sN]
theorem pl_Rel.tC {A : pl_A} {m : ml_M} (h : pl_Rel A m) (v : Int32) : pl_Md A (pl_tA A v) (ml_sI m 1 15 v) := by
  obtain ⟨hS, hW, hM, hC⟩ := h
  refine ⟨hS, hW, ((pl_co.refl m).sI (by decide)).m hM, (pl_nr.t A v).C hS hC ((pl_ex.refl _ m).sI (by decide)) rfl ?_⟩
  have hb := hC.1
  unfold pl_Cb at *
  simp only [pl_tA, pl_I_sI, pl_I_sR, pl_I_sJ, pl_I_al, pl_I_cp, pl_I_cl, pl_R_sI, pl_R_sR, pl_R_sJ, pl_R_al, pl_R_cp, pl_R_cl, pl_J_sI, pl_J_sR, pl_J_sJ, pl_J_al, pl_J_cp, pl_J_cl, pl_K_sI, pl_K_sR, pl_K_sJ, pl_K_al, pl_K_cp, pl_K_cl, pl_n_sI, pl_n_sR, pl_n_sJ, pl_n_al, pl_n_cp, pl_n_cl, pl_s_sI, pl_s_sR, pl_s_sJ, pl_s_al, pl_s_cp, pl_s_cl, pl_N_sN, pl_N_sV, pl_N_sVr, pl_N_sL, pl_V_sN, pl_V_sV, pl_V_sVr, pl_V_sL, pl_L_sN, pl_L_sV, pl_L_sVr, pl_L_sL]
  grind
theorem pl_Md.tM {A : pl_A} {m : ml_M} {v : Int32} (h : pl_Md A (pl_tA A v) m) : pl_Rel (pl_tA A v) (ml_sI m 33 2 v) := by
  obtain ⟨hS, hW, hM, hC⟩ := h
  have hmo : pl_mo m (ml_sI m 33 2 v) := (pl_mo.refl m).sI (by decide)
  refine ⟨hmo.sh hS, (pl_nr.t A v).W hW ⟨hW.1.2.2.2.2.2.2.2.1, hW.1.2.2.2.2.2.2.2.2⟩, (pl_nr.t A v).M hM (fun a h1 h2 => ?_) ?_, hmo.c hS hC⟩
  · funext j; rw [pl_I_sI, if_neg (by omega)]
  · have hb := hM.1
    unfold pl_Mb at *
    simp only [pl_tA, pl_I_sI, pl_I_sR, pl_I_sJ, pl_I_al, pl_I_cp, pl_I_cl, pl_R_sI, pl_R_sR, pl_R_sJ, pl_R_al, pl_R_cp, pl_R_cl, pl_J_sI, pl_J_sR, pl_J_sJ, pl_J_al, pl_J_cp, pl_J_cl, pl_K_sI, pl_K_sR, pl_K_sJ, pl_K_al, pl_K_cp, pl_K_cl, pl_n_sI, pl_n_sR, pl_n_sJ, pl_n_al, pl_n_cp, pl_n_cl, pl_s_sI, pl_s_sR, pl_s_sJ, pl_s_al, pl_s_cp, pl_s_cl, pl_N_sN, pl_N_sV, pl_N_sVr, pl_N_sL, pl_V_sN, pl_V_sV, pl_V_sVr, pl_V_sL, pl_L_sN, pl_L_sV, pl_L_sVr, pl_L_sL]
    grind
theorem pl_Rel.fC {A : pl_A} {m : ml_M} (h : pl_Rel A m) (f : Nat) (hf : f < 6) : pl_Md A (pl_fA A f) (pl_fC m f) := by
  obtain ⟨hS, hW, hM, hC⟩ := h
  refine ⟨hS, hW, (((pl_co.refl m).sI (by decide)).sI (by decide)).m hM, (pl_nr.f A f).C hS hC (((pl_ex.refl _ m).sI (by decide)).sI (by decide)) rfl ?_⟩
  have hb := hC.1
  unfold pl_Cb at *
  simp only [pl_fC, pl_fA, pl_I_sI, pl_I_sR, pl_I_sJ, pl_I_al, pl_I_cp, pl_I_cl, pl_R_sI, pl_R_sR, pl_R_sJ, pl_R_al, pl_R_cp, pl_R_cl, pl_J_sI, pl_J_sR, pl_J_sJ, pl_J_al, pl_J_cp, pl_J_cl, pl_K_sI, pl_K_sR, pl_K_sJ, pl_K_al, pl_K_cp, pl_K_cl, pl_n_sI, pl_n_sR, pl_n_sJ, pl_n_al, pl_n_cp, pl_n_cl, pl_s_sI, pl_s_sR, pl_s_sJ, pl_s_al, pl_s_cp, pl_s_cl, pl_N_sN, pl_N_sV, pl_N_sVr, pl_N_sL, pl_V_sN, pl_V_sV, pl_V_sVr, pl_V_sL, pl_L_sN, pl_L_sV, pl_L_sVr, pl_L_sL]
  grind
theorem pl_Md.fM {A : pl_A} {m : ml_M} {f : Nat} (h : pl_Md A (pl_fA A f) m) (hf : f < 6) : pl_Rel (pl_fA A f) (pl_fM m f) := by
  obtain ⟨hS, hW, hM, hC⟩ := h
  have hmo : pl_mo m (pl_fM m f) := ((pl_mo.refl m).sI (by decide)).sI (by decide)
  refine ⟨hmo.sh hS, (pl_nr.f A f).W hW ⟨hW.1.2.2.2.2.2.2.2.1, ?_⟩, (pl_nr.f A f).M hM (fun a h1 h2 => ?_) ?_, hmo.c hS hC⟩
  · show f ≤ 5
    omega
  · funext j; unfold pl_fM; rw [pl_I_sI, if_neg (by omega), pl_I_sI, if_neg (by omega)]
  · have hb := hM.1
    unfold pl_Mb at *
    simp only [pl_fM, pl_fA, pl_I_sI, pl_I_sR, pl_I_sJ, pl_I_al, pl_I_cp, pl_I_cl, pl_R_sI, pl_R_sR, pl_R_sJ, pl_R_al, pl_R_cp, pl_R_cl, pl_J_sI, pl_J_sR, pl_J_sJ, pl_J_al, pl_J_cp, pl_J_cl, pl_K_sI, pl_K_sR, pl_K_sJ, pl_K_al, pl_K_cp, pl_K_cl, pl_n_sI, pl_n_sR, pl_n_sJ, pl_n_al, pl_n_cp, pl_n_cl, pl_s_sI, pl_s_sR, pl_s_sJ, pl_s_al, pl_s_cp, pl_s_cl, pl_N_sN, pl_N_sV, pl_N_sVr, pl_N_sL, pl_V_sN, pl_V_sV, pl_V_sVr, pl_V_sL, pl_L_sN, pl_L_sV, pl_L_sVr, pl_L_sL]
    grind
/-- a scratch change of the reference -/
theorem pl_Md.mo {A B : pl_A} {m m1 : ml_M} (h : pl_Md A B m) (hm : pl_mo m m1) (hM : pl_M A m1) : pl_Md A B m1 := ⟨hm.sh h.1, h.2.1, hM, hm.c h.1 h.2.2.2⟩
/-- a pair of calls, of the class and of the reference -/
def pl_Ok {α : Type} (c r : ml_M → Option (α × ml_M)) : Prop := ∀ A m, pl_Rel A m → ∃ v m1 m2 B, c m = some (v, m1) ∧ r m1 = some (v, m2) ∧ ml_n m2 ≤ ml_n m + 1000 ∧ ml_s m2 ≤ ml_s m + 14000 ∧ (ml_K m1 33).1 = 11 ∧ pl_Rel B m2
theorem pl_Ok.same {α : Type} {c r : ml_M → Option (α × ml_M)} {A : pl_A} {m : ml_M} (h : pl_Rel A m) (v : α) (h1 : c m = some (v, m)) (h2 : r m = some (v, m)) : ∃ v m1 m2 B, c m = some (v, m1) ∧ r m1 = some (v, m2) ∧ ml_n m2 ≤ ml_n m + 1000 ∧ ml_s m2 ≤ ml_s m + 14000 ∧ (ml_K m1 33).1 = 11 ∧ pl_Rel B m2 :=
  ⟨v, m, m, A, h1, h2, by omega, by omega, by rw [pl_k33 h.1], h⟩
theorem pl_Ok.tell {α : Type} {c r : ml_M → Option (α × ml_M)} {A : pl_A} {m : ml_M} (h : pl_Rel A m) (v : α) (x : Int32) (h1 : c m = some (v, ml_sI m 1 15 x)) (h2 : ∀ m1, pl_Sh m1 → pl_M A m1 → ∃ m2, r m1 = some (v, ml_sI m2 33 2 x) ∧ pl_mo m1 m2 ∧ pl_M A m2) : ∃ v m1 m2 B, c m = some (v, m1) ∧ r m1 = some (v, m2) ∧ ml_n m2 ≤ ml_n m + 1000 ∧ ml_s m2 ≤ ml_s m + 14000 ∧ (ml_K m1 33).1 = 11 ∧ pl_Rel B m2 := by
  have hd := h.tC x
  obtain ⟨m2, e1, e2, e3⟩ := h2 _ hd.1 hd.2.2.1
  exact ⟨v, _, _, _, h1, e1, by rw [pl_n_sI, e2.1]; exact Nat.le_add_right _ _, by rw [pl_s_sI, e2.2.1]; exact Nat.le_add_right _ _, by rw [pl_k33 hd.1], (hd.mo e2 e3).tM⟩
theorem pl_Ok.found {α : Type} {c r : ml_M → Option (α × ml_M)} {A : pl_A} {m : ml_M} (h : pl_Rel A m) (v : α) (f : Nat) (hf : f < 6) (h1 : c m = some (v, pl_fC m f)) (h2 : ∀ m1, pl_Sh m1 → pl_M A m1 → ∃ m2, r m1 = some (v, pl_fM m2 f) ∧ pl_mo m1 m2 ∧ pl_M A m2) : ∃ v m1 m2 B, c m = some (v, m1) ∧ r m1 = some (v, m2) ∧ ml_n m2 ≤ ml_n m + 1000 ∧ ml_s m2 ≤ ml_s m + 14000 ∧ (ml_K m1 33).1 = 11 ∧ pl_Rel B m2 := by
  have hd := h.fC f hf
  obtain ⟨m2, e1, e2, e3⟩ := h2 _ hd.1 hd.2.2.1
  exact ⟨v, _, _, _, h1, e1, by show ml_n m2 ≤ _; rw [e2.1]; exact Nat.le_add_right _ _, by show ml_s m2 ≤ _; rw [e2.2.1]; exact Nat.le_add_right _ _, by rw [pl_k33 hd.1], (hd.mo e2 e3).fM hf⟩
/-- the reference's call changes nothing but scratch -/
theorem pl_Ok.scr {α : Type} {c r : ml_M → Option (α × ml_M)} {A : pl_A} {m : ml_M} (h : pl_Rel A m) (v : α) (h1 : c m = some (v, m)) (h2 : ∀ m1, pl_Sh m1 → pl_M A m1 → ∃ m2, r m1 = some (v, m2) ∧ pl_mo m1 m2 ∧ pl_M A m2) : ∃ v m1 m2 B, c m = some (v, m1) ∧ r m1 = some (v, m2) ∧ ml_n m2 ≤ ml_n m + 1000 ∧ ml_s m2 ≤ ml_s m + 14000 ∧ (ml_K m1 33).1 = 11 ∧ pl_Rel B m2 := by
  obtain ⟨m2, e1, e2, e3⟩ := h2 _ h.1 h.2.2.1
  exact ⟨v, _, _, _, h1, e1, by rw [e2.1]; exact Nat.le_add_right _ _, by rw [e2.2.1]; exact Nat.le_add_right _ _, by rw [pl_k33 h.1], h.md.mo e2 e3⟩
theorem pl_Ok.st {P : Prop} {m : ml_M} {A : pl_A} (hM : pl_M A m) (h : P) : P ∧ pl_mo m m ∧ pl_M A m := ⟨h, pl_mo.refl m, hM⟩
/-- all ints of a cell anew -/
def pl_wI (m : ml_M) (a : Nat) (g : Nat → Int32) : ml_M := (ml_n m, ml_s m, ml_K m, fun b => if b = a then g else ml_I m b, ml_R m, ml_J m)
theorem pl_I_wI (m : ml_M) (a : Nat) (g : Nat → Int32) (b : Nat) : ml_I (pl_wI m a g) b = if b = a then g else ml_I m b := by
  have h : ml_I (pl_wI m a g) b = if b = a then g else ml_I m b := rfl
  exact h
theorem pl_R_wI (m : ml_M) (a : Nat) (g : Nat → Int32) : ml_R (pl_wI m a g) = ml_R m := by
  have h : ml_R (pl_wI m a g) = ml_R m := rfl
  exact h
theorem pl_J_wI (m : ml_M) (a : Nat) (g : Nat → Int32) : ml_J (pl_wI m a g) = ml_J m := by
  have h : ml_J (pl_wI m a g) = ml_J m := rfl
  exact h
theorem pl_K_wI (m : ml_M) (a : Nat) (g : Nat → Int32) : ml_K (pl_wI m a g) = ml_K m := by
  have h : ml_K (pl_wI m a g) = ml_K m := rfl
  exact h
theorem pl_n_wI (m : ml_M) (a : Nat) (g : Nat → Int32) : ml_n (pl_wI m a g) = ml_n m := by
  have h : ml_n (pl_wI m a g) = ml_n m := rfl
  exact h
theorem pl_s_wI (m : ml_M) (a : Nat) (g : Nat → Int32) : ml_s (pl_wI m a g) = ml_s m := by
  have h : ml_s (pl_wI m a g) = ml_s m := rfl
  exact h
theorem pl_wI_0 (m : ml_M) (a : Nat) : pl_wI m a (ml_I m a) = m := by
  have : (fun b => if b = a then ml_I m a else ml_I m b) = ml_I m := by
    funext b
    by_cases h : b = a
    · rw [if_pos h, h]
    · rw [if_neg h]
  unfold pl_wI
  rw [this]; rfl
theorem pl_wI_sI (m : ml_M) (a k : Nat) (v : Int32) (g : Nat → Int32) : ml_sI (pl_wI m a g) a k v = pl_wI m a (fun j => if j = k then v else g j) := by
  have : (fun b j => if b = a ∧ j = k then v else (if b = a then g else ml_I m b) j) = fun b => if b = a then (fun j => if j = k then v else g j) else ml_I m b := by
    funext b j
    by_cases h : b = a
    · rw [if_pos h, if_pos h]
      by_cases h2 : j = k
      · rw [if_pos ⟨h, h2⟩, if_pos h2]
      · rw [if_neg (fun z => h2 z.2), if_neg h2]
    · rw [if_neg h, if_neg h, if_neg (fun z => h z.1)]
  show (_, _, _, _, _, _) = (_, _, _, _, _, _)
  rw [show (ml_u2 (ml_I (pl_wI m a g)) a k v) = _ from this]; rfl
theorem pl_sI_w (m : ml_M) (a k : Nat) (v : Int32) : ml_sI m a k v = pl_wI m a (fun j => if j = k then v else ml_I m a j) := by
  rw [← pl_wI_sI, pl_wI_0]
theorem pl_mo.wI {m m1 : ml_M} (h : pl_mo m m1) {a : Nat} {g : Nat → Int32} (ha : 33 ≤ a ∧ a ≤ 60) : pl_mo m (pl_wI m1 a g) := by
  refine h.trans ⟨rfl, rfl, rfl, rfl, fun b hb => ⟨?_, rfl⟩⟩
  rw [pl_I_wI, if_neg (by omega)]
theorem pl_Sh.wI {m : ml_M} (h : pl_Sh m) (a : Nat) (g : Nat → Int32) : pl_Sh (pl_wI m a g) := h
theorem pl_Sh.sI {m : ml_M} (h : pl_Sh m) (a k : Nat) (v : Int32) : pl_Sh (ml_sI m a k v) := h
theorem pl_Sh.sJ {m : ml_M} (h : pl_Sh m) (a k : Nat) (v : Int64) : pl_Sh (ml_sJ m a k v) := h
theorem pl_Sh.al {m : ml_M} (h : pl_Sh m) (kd ln sz : Nat) : pl_Sh (ml_al m kd ln sz) := by
  have hn := h.2.2
  refine h.to (by rw [pl_n_al]; omega) (fun a ha => by rw [pl_K_al, if_neg (by omega)]) (fun q hq => ?_)
  have h1 : ∀ q ∈ pl_rt, q.1 ≤ 60 := by decide
  have := h1 q hq
  rw [pl_R_al, if_neg (by omega)]
/-- what the reference's scratch leaves as it was -/
def pl_kp (m m1 : ml_M) : Prop := (∀ a ∈ [34, 35, 36, 38, 39, 40, 41, 42, 46, 51, 53, 60], ml_I m1 a = ml_I m a) ∧ (∀ k ∈ [0, 2, 9, 10, 11, 23, 24, 34, 37, 46], ml_I m1 33 k = ml_I m 33 k) ∧ ml_J m1 33 3 = ml_J m 33 3
theorem pl_kp.M {A : pl_A} {m m1 : ml_M} (h : pl_kp m m1) (hM : pl_M A m) : pl_M A m1 := by
  obtain ⟨k1, k2, k3⟩ := h
  obtain ⟨h1, h2, h3, h4, h5, h6⟩ := hM
  refine ⟨?_, ?_, ?_, ?_, ?_, ?_⟩
  · unfold pl_Mb at *; rw [k2 9 (by decide), k2 10 (by decide), k2 11 (by decide), k2 24 (by decide), k2 34 (by decide), k2 37 (by decide), k2 46 (by decide), k2 23 (by decide), k2 0 (by decide), k2 2 (by decide), k3, k1 34 (by decide)]; exact h1
  · unfold pl_Mr; rw [k1 35 (by decide), k1 36 (by decide)]; exact h2
  · unfold pl_Mt; rw [k1 38 (by decide), k1 39 (by decide)]; exact h3
  · unfold pl_Mh; rw [k1 40 (by decide), k1 41 (by decide), k1 42 (by decide)]; exact h4
  · unfold pl_Mi; rw [k1 46 (by decide)]; exact h5
  · unfold pl_Mn; rw [k1 51 (by decide), k1 53 (by decide), k1 60 (by decide)]; exact h6
theorem pl_kp.refl (m : ml_M) : pl_kp m m := ⟨fun _ _ => rfl, fun _ _ => rfl, rfl⟩
theorem pl_kp.wI {m m1 : ml_M} (h : pl_kp m m1) {a : Nat} {g : Nat → Int32} (ha : a ∉ [33, 34, 35, 36, 38, 39, 40, 41, 42, 46, 51, 53, 60]) : pl_kp m (pl_wI m1 a g) := by
  refine ⟨fun b hb => ?_, fun k hk => ?_, h.2.2⟩
  · rw [← h.1 b hb, pl_I_wI, if_neg]
    rintro rfl
    exact ha (List.mem_cons_of_mem _ hb)
  · rw [← h.2.1 k hk, pl_I_wI, if_neg]
    rintro rfl
    exact ha List.mem_cons_self
theorem pl_kp.s33 {m m1 : ml_M} (h : pl_kp m m1) {k : Nat} {v : Int32} (ha : k ∉ [0, 2, 9, 10, 11, 23, 24, 34, 37, 46]) : pl_kp m (ml_sI m1 33 k v) := by
  refine ⟨fun b hb => ?_, fun j hj => ?_, h.2.2⟩
  · rw [← h.1 b hb]
    funext j
    rw [pl_I_sI, if_neg]
    rintro ⟨rfl, -⟩
    revert hb; decide
  · rw [← h.2.1 j hj, pl_I_sI, if_neg]
    rintro ⟨-, rfl⟩
    exact ha hj
theorem pl_kp.sI {m m1 : ml_M} (h : pl_kp m m1) {a k : Nat} {v : Int32} (ha : a ∉ [33, 34, 35, 36, 38, 39, 40, 41, 42, 46, 51, 53, 60]) : pl_kp m (ml_sI m1 a k v) := by
  rw [pl_sI_w]; exact h.wI ha
/-- row r anew: its size + 1 (or 0), its ints -/
def pl_rA (A : pl_A) (r n : Nat) (f : Nat → Int32) : pl_A := pl_sVr (pl_sN A 8 r 0 n) 0 r f
theorem pl_Rel.rC {A : pl_A} {m m1 : ml_M} {r n b : Nat} {f : Nat → Int32} (h : pl_Rel A m) (hr : r < 6) (hb : b = 0 ∨ b = ml_R m 2 r) (hx : pl_ex [2, b] m m1) (hco : pl_co m m1) (hJ : ml_J m1 1 16 = ml_J m 1 16) (hq : ∀ q, q < 6 → q ≠ r → ml_R m1 2 q = ml_R m 2 q)
    (hn : (n = 0 ∧ ml_R m1 2 r = 0) ∨ (0 < n ∧ pl_dy m1 (ml_R m1 2 r) (20, n - 1) ∧ ∀ j, j + 1 < n → ml_I m1 (ml_R m1 2 r) j = f j)) (ho : ml_R m1 2 r = 0 ∨ ml_R m1 2 r = ml_R m 2 r ∨ ml_n m < ml_R m1 2 r) : pl_Md A (pl_rA A r n f) m1 := by
  obtain ⟨hS, hW, hM, h1, h2, h3, h4, h5, h6, h7, h8, h9⟩ := h
  have hn60 := hS.2.2
  have hold : ∀ q, q < 6 → ml_R m 2 q = 0 ∨ (60 < ml_R m 2 q ∧ ml_R m 2 q ≤ ml_n m ∧ (ml_K m (ml_R m 2 q)).1 = 20) := by
    intro q hq
    rcases h2.1 q hq with h1 | h1
    · exact Or.inl h1.2
    · exact Or.inr ⟨h1.2.1.1, h1.2.1.2.1, by rw [h1.2.1.2.2]⟩
  have hb' : b = 0 ∨ (60 < b ∧ b = ml_R m 2 r ∧ (ml_K m b).1 = 20) := by
    rcases hb with hb | hb
    · exact Or.inl hb
    · rcases hold r hr with h1 | h1
      · exact Or.inl (by omega)
      · exact Or.inr ⟨by omega, hb, by rw [hb]; exact h1.2.2⟩
  have hK : ∀ a ∈ [2, b], (ml_K m a).1 = 23 ∨ (ml_K m a).1 = 99 ∨ (ml_K m a).1 = 20 := fun a ha => by
    simp only [List.mem_cons, List.not_mem_nil, or_false] at ha
    rcases ha with rfl | rfl
    · rw [pl_k2 hS]; exact Or.inl rfl
    · rcases hb' with h1 | h1
      · rw [h1, pl_k0 hS]; exact Or.inr (Or.inl rfl)
      · exact Or.inr (Or.inr h1.2.2)
  have hne : ∀ k, k ≠ 23 → k ≠ 99 → k ≠ 20 → ∀ a ∈ [2, b], (ml_K m a).1 ≠ k := fun k _ _ _ a ha => by have := hK a ha; omega
  have hl : ∀ k, k ≠ 23 → k ≠ 99 → k ≠ 20 → ∀ a ∈ [2, b], a ≤ 60 ∨ (ml_K m a).1 ≠ k := fun k z1 z2 z3 a ha => Or.inr (hne k z1 z2 z3 a ha)
  have hnin : ∀ a, a ≠ 2 → 0 < a → a ≤ 60 → a ∉ [2, b] := fun a h1 h2 h3 => by
    simp only [List.mem_cons, List.not_mem_nil, or_false]
    omega
  have hR1 : ml_R m1 1 2 = ml_R m 1 2 := by rw [(hx.2.2 1 (by omega) (hnin 1 (by decide) (by decide) (by decide))).2]
  have hSh : pl_Sh m1 := hS.to hx.1 (fun a ha => hx.2.1 a (by omega)) (fun q hq => by
    have h1 : ∀ q ∈ pl_rt, q.1 ≤ 60 ∧ q.1 ≠ 2 ∧ 0 < q.1 := by decide
    have h2 := h1 q hq
    rw [(hx.2.2 q.1 (by omega) (hnin q.1 h2.2.1 h2.2.2 h2.1)).2])
  have hI : ∀ a, a ≠ 2 → 0 < a → a ≤ 60 → ml_I m1 a = ml_I m a := fun a h1 h2 h3 => (hx.2.2 a (by omega) (hnin a h1 h2 h3)).1
  have e8 : ∀ q, q ≠ r → pl_N (pl_rA A r n f) 8 q 0 = pl_N A 8 q 0 := fun q hq => by
    unfold pl_rA; rw [pl_N_sVr, pl_N_sN, if_neg (by omega)]
  have e8r : pl_N (pl_rA A r n f) 8 r 0 = n := by
    unfold pl_rA; rw [pl_N_sVr, pl_N_sN, if_pos ⟨rfl, rfl, rfl⟩]
  have v8 : ∀ q, q ≠ r → pl_V (pl_rA A r n f) 0 q = pl_V A 0 q := fun q hq => by
    funext j; unfold pl_rA; rw [pl_V_sVr, pl_V_sN, if_neg (by omega)]
  have v8r : pl_V (pl_rA A r n f) 0 r = f := by
    funext j; unfold pl_rA; rw [pl_V_sVr, if_pos ⟨rfl, rfl⟩]
  have v2 : pl_V (pl_rA A r n f) 2 = pl_V A 2 := by
    funext i j; unfold pl_rA; rw [pl_V_sVr, pl_V_sN, if_neg (by omega)]
  have v1 : pl_V (pl_rA A r n f) 1 = pl_V A 1 := by
    funext i j; unfold pl_rA; rw [pl_V_sVr, pl_V_sN, if_neg (by omega)]
  have eN : ∀ g, g ≠ 8 → pl_N (pl_rA A r n f) g = pl_N A g := fun g hg => by
    funext i k; unfold pl_rA; rw [pl_N_sVr, pl_N_sN, if_neg (by omega)]
  have e0 : ∀ i, pl_N (pl_rA A r n f) 0 i 0 = pl_N A 0 i 0 := fun i => by rw [eN 0 (by decide)]
  refine ⟨hSh, hW, hco.m hM, ?_, ⟨?_, ?_⟩, h3.fr hS hx (hnin 3 (by decide) (by decide) (by decide)) (hl 21 (by decide) (by decide) (by decide)) (eN 9 (by decide)) v1,
    h4.fr hx hR1 ?_ ?_ (eN 1 (by decide)) (eN 2 (by decide)) (eN 3 (by decide)) (e0 0) (e0 1) (e0 2),
    h5.fr hS hx (hnin 8 (by decide) (by decide) (by decide)) (hl 8 (by decide) (by decide) (by decide)) (eN 1 (by decide)) (eN 4 (by decide)) (e0 0) (e0 3),
    h6.fr hS hx (hnin 9 (by decide) (by decide) (by decide)) (hnin 10 (by decide) (by decide) (by decide)) ?_ (eN 5 (by decide)) (eN 6 (by decide)) (e0 4) (e0 5),
    h7.fr hS hx (hnin 11 (by decide) (by decide) (by decide)) ?_ (hl 2 (by decide) (by decide) (by decide)) ?_ (eN 7 (by decide)) (e0 6) v2,
    h8.fr hS h4.1 hx hR1 ?_ (hne 1 (by decide) (by decide) (by decide)) (eN 1 (by decide)) (eN 3 (by decide)) (eN 4 (by decide)) (e0 0) (e0 1) (e0 2) (e0 3),
    h9.fr hS hx (hnin 21 (by decide) (by decide) (by decide)) ⟨hnin 22 (by decide) (by decide) (by decide), hnin 31 (by decide) (by decide) (by decide)⟩ (eN 6 (by decide)) (e0 5)⟩
  · unfold pl_Cb
    rw [hI 1 (by decide) (by decide) (by decide), hI 32 (by decide) (by decide) (by decide), hJ, eN 0 (by decide)]
    exact h1
  · intro q hq6
    by_cases hqr : q = r
    · subst hqr
      rw [e8r, v8r]; exact hn
    · rw [e8 q hqr, v8 q hqr, hq q hq6 hqr]
      rcases h2.1 q hq6 with z | ⟨z1, z2, z3⟩
      · exact Or.inl z
      · refine Or.inr ⟨z1, z2.fr hx, fun j hj => ?_⟩
        rw [(hx.2.2 _ z2.2.1 ?_).1]
        · exact z3 j hj
        · simp only [List.mem_cons, List.not_mem_nil, or_false]
          have := z2.1
          rintro (z | z)
          · omega
          · rcases hb' with y | y
            · omega
            · exact hqr (h2.2 q r hq6 hr (by omega) (by rw [z, y.2.1]))
  · intro q p hq6 hp6 h0 he
    have ho' := hold r hr
    by_cases hqr : q = r
    · by_cases hpr : p = r
      · omega
      · exfalso
        rw [hqr] at h0 he
        rw [hq p hp6 hpr] at he
        rcases ho with z | z | z
        · exact h0 z
        · exact hpr ((h2.2 r p hr hp6 (by rw [← z]; exact h0) (by rw [← z]; exact he)).symm)
        · have := hold p hp6; omega
    · rw [hq q hq6 hqr] at h0 he
      by_cases hpr : p = r
      · exfalso
        rw [hpr] at he
        rcases ho with z | z | z
        · exact h0 (he.trans z)
        · exact hqr (h2.2 q r hq6 hr h0 (he.trans z))
        · have := hold q hq6; omega
      · rw [hq p hp6 hpr] at he
        exact h2.2 q p hq6 hp6 h0 he
  · intro k hk
    simp only [List.mem_cons, List.not_mem_nil, or_false] at hk
    exact hne k (by omega) (by omega) (by omega)
  · intro k hk
    simp only [List.mem_cons, List.not_mem_nil, or_false] at hk
    exact hl k (by omega) (by omega) (by omega)
  · intro k hk
    simp only [List.mem_cons, List.not_mem_nil, or_false] at hk
    exact hl k (by omega) (by omega) (by omega)
  · intro c hc q hq6
    have z := h7 c hc
    by_cases hqr : q = r
    · subst hqr
      have z4 := z.2.2.2.1
      have := z4.1
      have := z4.2.1
      rcases ho with y | y | y
      · omega
      · rw [y]; exact z.2.2.2.2.1 q hq6
      · omega
    · rw [hq q hq6 hqr]; exact z.2.2.2.2.1 q hq6
  · intro c hc
    have z := h7 c hc
    have := z.2.2.2.1.1
    simp only [List.mem_cons, List.not_mem_nil, or_false]
    rintro (y | y)
    · omega
    · rcases hb' with x | x
      · omega
      · exact z.2.2.2.2.1 r hr (by rw [y, x.2.1])
  · intro a ha
    simp only [List.mem_cons, List.not_mem_nil, or_false] at ha
    exact hnin a (by omega) (by omega) (by omega)
theorem pl_rW {A : pl_A} {r n : Nat} {f : Nat → Int32} (hW : pl_W A) (hn49 : n ≤ 49) : pl_W (pl_rA A r n f) := by
  have e8 : ∀ q, q ≠ r → pl_N (pl_rA A r n f) 8 q 0 = pl_N A 8 q 0 := fun q hq => by
    unfold pl_rA; rw [pl_N_sVr, pl_N_sN, if_neg (by omega)]
  have e8r : pl_N (pl_rA A r n f) 8 r 0 = n := by
    unfold pl_rA; rw [pl_N_sVr, pl_N_sN, if_pos ⟨rfl, rfl, rfl⟩]
  have v8 : ∀ q, q ≠ r → pl_V (pl_rA A r n f) 0 q = pl_V A 0 q := fun q hq => by
    funext j; unfold pl_rA; rw [pl_V_sVr, pl_V_sN, if_neg (by omega)]
  have v8r : pl_V (pl_rA A r n f) 0 r = f := by
    funext j; unfold pl_rA; rw [pl_V_sVr, if_pos ⟨rfl, rfl⟩]
  have v2 : ∀ g, g ≠ 0 → pl_V (pl_rA A r n f) g = pl_V A g := fun g hg => by
    funext i j; unfold pl_rA; rw [pl_V_sVr, pl_V_sN, if_neg (by omega)]
  have eN : ∀ g, g ≠ 8 → pl_N (pl_rA A r n f) g = pl_N A g := fun g hg => by
    funext i k; unfold pl_rA; rw [pl_N_sVr, pl_N_sN, if_neg (by omega)]
  have e0 : ∀ i, pl_N (pl_rA A r n f) 0 i 0 = pl_N A 0 i 0 := fun i => by rw [eN 0 (by decide)]
  have eL : pl_L (pl_rA A r n f) = pl_L A := rfl
  obtain ⟨w1, w2, w3, w4, w5, w6, w7, w8, w9⟩ := hW
  refine ⟨?_, ?_, ?_, ?_, ?_, ?_, ?_, ?_, ?_⟩
  · unfold pl_Wc; rw [eN 0 (by decide)]; exact w1
  · unfold pl_Wl; rw [eN 0 (by decide), eN 1 (by decide)]; exact w2
  · unfold pl_Wt; rw [eN 0 (by decide), eN 2 (by decide)]; exact w3
  · unfold pl_Wp; rw [eN 0 (by decide), eN 3 (by decide)]; exact w4
  · unfold pl_Wi; rw [eN 0 (by decide), eN 4 (by decide)]; exact w5
  · unfold pl_Wn; rw [eN 0 (by decide), eN 5 (by decide)]; exact w6
  · unfold pl_Wb; rw [eN 0 (by decide), eN 6 (by decide)]; exact w7
  · unfold pl_Wk; rw [eN 0 (by decide), eN 7 (by decide), v2 2 (by decide)]; exact w8
  · refine ⟨fun q hq => ?_, ?_⟩
    · by_cases hqr : q = r
      · rw [hqr, e8r]; exact hn49
      · rw [e8 q hqr]; exact w9.1 q hq
    · rw [eN 9 (by decide), v2 1 (by decide)]; exact w9.2
theorem pl_rM {A : pl_A} {m m1 : ml_M} {r n : Nat} {f : Nat → Int32} (hM : pl_M A m) (hW : pl_W A) (h35 : ∀ q, q < 6 → ml_I m1 35 q = if q = r then pl_sz n else ml_I m 35 q) (h36 : ∀ q, q < 6 → q ≠ r → ∀ j, j < 48 → ml_I m1 36 (48 * q + j) = ml_I m 36 (48 * q + j)) (h36r : ∀ j, j + 1 < n → ml_I m1 36 (48 * r + j) = f j)
    (hk : (∀ a ∈ [34, 38, 39, 40, 41, 42, 46, 51, 53, 60], ml_I m1 a = ml_I m a) ∧ (∀ k ∈ [0, 2, 9, 10, 11, 23, 24, 34, 37, 46], ml_I m1 33 k = ml_I m 33 k) ∧ ml_J m1 33 3 = ml_J m 33 3) : pl_M (pl_rA A r n f) m1 := by
  have e8 : ∀ q, q ≠ r → pl_N (pl_rA A r n f) 8 q 0 = pl_N A 8 q 0 := fun q hq => by
    unfold pl_rA; rw [pl_N_sVr, pl_N_sN, if_neg (by omega)]
  have e8r : pl_N (pl_rA A r n f) 8 r 0 = n := by
    unfold pl_rA; rw [pl_N_sVr, pl_N_sN, if_pos ⟨rfl, rfl, rfl⟩]
  have v8 : ∀ q, q ≠ r → pl_V (pl_rA A r n f) 0 q = pl_V A 0 q := fun q hq => by
    funext j; unfold pl_rA; rw [pl_V_sVr, pl_V_sN, if_neg (by omega)]
  have v8r : pl_V (pl_rA A r n f) 0 r = f := by
    funext j; unfold pl_rA; rw [pl_V_sVr, if_pos ⟨rfl, rfl⟩]
  have v2 : ∀ g, g ≠ 0 → pl_V (pl_rA A r n f) g = pl_V A g := fun g hg => by
    funext i j; unfold pl_rA; rw [pl_V_sVr, pl_V_sN, if_neg (by omega)]
  have eN : ∀ g, g ≠ 8 → pl_N (pl_rA A r n f) g = pl_N A g := fun g hg => by
    funext i k; unfold pl_rA; rw [pl_N_sVr, pl_N_sN, if_neg (by omega)]
  have e0 : ∀ i, pl_N (pl_rA A r n f) 0 i 0 = pl_N A 0 i 0 := fun i => by rw [eN 0 (by decide)]
  have eL : pl_L (pl_rA A r n f) = pl_L A := rfl
  obtain ⟨k1, k2, k3⟩ := hk
  obtain ⟨h1, h2, h3, h4, h5, h6⟩ := hM
  have w9 := hW.2.2.2.2.2.2.2.2
  refine ⟨?_, ?_, ?_, ?_, ?_, ?_⟩
  · unfold pl_Mb at *; rw [k2 9 (by decide), k2 10 (by decide), k2 11 (by decide), k2 24 (by decide), k2 34 (by decide), k2 37 (by decide), k2 46 (by decide), k2 23 (by decide), k2 0 (by decide), k2 2 (by decide), k3, k1 34 (by decide), eN 0 (by decide), v2 3 (by decide), v2 4 (by decide), eL]; exact h1
  · intro q hq
    by_cases hqr : q = r
    · subst hqr
      rw [e8r, v8r, h35 q hq, if_pos rfl]
      exact ⟨rfl, h36r⟩
    · rw [e8 q hqr, v8 q hqr, h35 q hq, if_neg hqr]
      have := w9.1 q hq
      refine ⟨(h2 q hq).1, fun j hj => ?_⟩
      rw [h36 q hq hqr j (by omega)]
      exact (h2 q hq).2 j hj
  · unfold pl_Mt; rw [k1 38 (by decide), k1 39 (by decide), eN 9 (by decide), v2 1 (by decide)]; exact h3
  · unfold pl_Mh; rw [k1 40 (by decide), k1 41 (by decide), k1 42 (by decide), eN 0 (by decide), eN 1 (by decide), eN 2 (by decide), eN 3 (by decide)]; exact h4
  · unfold pl_Mi; rw [k1 46 (by decide), eN 0 (by decide), eN 4 (by decide)]; exact h5
  · unfold pl_Mn; rw [k1 51 (by decide), k1 53 (by decide), k1 60 (by decide), eN 0 (by decide), eN 5 (by decide), eN 6 (by decide), eN 7 (by decide), v2 2 (by decide)]; exact h6
theorem pl_Md.rM {A : pl_A} {m m1 : ml_M} {r n : Nat} {f : Nat → Int32} (h : pl_Md A (pl_rA A r n f) m) (hr : r < 6) (hn49 : n ≤ 49) (hmo : pl_mo m m1) (h35 : ∀ q, q < 6 → ml_I m1 35 q = if q = r then pl_sz n else ml_I m 35 q) (h36 : ∀ q, q < 6 → q ≠ r → ∀ j, j < 48 → ml_I m1 36 (48 * q + j) = ml_I m 36 (48 * q + j)) (h36r : ∀ j, j + 1 < n → ml_I m1 36 (48 * r + j) = f j)
    (hk : (∀ a ∈ [34, 38, 39, 40, 41, 42, 46, 51, 53, 60], ml_I m1 a = ml_I m a) ∧ (∀ k ∈ [0, 2, 9, 10, 11, 23, 24, 34, 37, 46], ml_I m1 33 k = ml_I m 33 k) ∧ ml_J m1 33 3 = ml_J m 33 3) : pl_Rel (pl_rA A r n f) m1 := by
  obtain ⟨hS, hW, hM, hC⟩ := h
  exact ⟨hmo.sh hS, pl_rW hW hn49, pl_rM hM hW h35 h36 h36r hk, hmo.c hS hC⟩
theorem pl_tC {A : pl_A} {m : ml_M} (hS : pl_Sh m) (hC : pl_C A m) (v : Int32) : pl_C (pl_tA A v) (ml_sI m 1 15 v) := by
  refine (pl_nr.t A v).C hS hC ((pl_ex.refl _ m).sI (by decide)) rfl ?_
  have hb := hC.1
  unfold pl_Cb at *
  simp only [pl_tA, pl_I_sI, pl_I_sR, pl_I_sJ, pl_I_al, pl_I_cp, pl_I_cl, pl_R_sI, pl_R_sR, pl_R_sJ, pl_R_al, pl_R_cp, pl_R_cl, pl_J_sI, pl_J_sR, pl_J_sJ, pl_J_al, pl_J_cp, pl_J_cl, pl_K_sI, pl_K_sR, pl_K_sJ, pl_K_al, pl_K_cp, pl_K_cl, pl_n_sI, pl_n_sR, pl_n_sJ, pl_n_al, pl_n_cp, pl_n_cl, pl_s_sI, pl_s_sR, pl_s_sJ, pl_s_al, pl_s_cp, pl_s_cl, pl_N_sN, pl_N_sV, pl_N_sVr, pl_N_sL, pl_V_sN, pl_V_sV, pl_V_sVr, pl_V_sL, pl_L_sN, pl_L_sV, pl_L_sVr, pl_L_sL]
  grind
theorem pl_tM {A : pl_A} {m : ml_M} (hM : pl_M A m) (v : Int32) : pl_M (pl_tA A v) (ml_sI m 33 2 v) := by
  refine (pl_nr.t A v).M hM (fun a h1 h2 => ?_) ?_
  · funext j; rw [pl_I_sI, if_neg (by omega)]
  · have hb := hM.1
    unfold pl_Mb at *
    simp only [pl_tA, pl_I_sI, pl_I_sR, pl_I_sJ, pl_I_al, pl_I_cp, pl_I_cl, pl_R_sI, pl_R_sR, pl_R_sJ, pl_R_al, pl_R_cp, pl_R_cl, pl_J_sI, pl_J_sR, pl_J_sJ, pl_J_al, pl_J_cp, pl_J_cl, pl_K_sI, pl_K_sR, pl_K_sJ, pl_K_al, pl_K_cp, pl_K_cl, pl_n_sI, pl_n_sR, pl_n_sJ, pl_n_al, pl_n_cp, pl_n_cl, pl_s_sI, pl_s_sR, pl_s_sJ, pl_s_al, pl_s_cp, pl_s_cl, pl_N_sN, pl_N_sV, pl_N_sVr, pl_N_sL, pl_V_sN, pl_V_sV, pl_V_sVr, pl_V_sL, pl_L_sN, pl_L_sV, pl_L_sVr, pl_L_sL]
    grind
theorem pl_tW {A : pl_A} (hW : pl_W A) (v : Int32) : pl_W (pl_tA A v) := (pl_nr.t A v).W hW ⟨hW.1.2.2.2.2.2.2.2.1, hW.1.2.2.2.2.2.2.2.2⟩
theorem pl_kp.mo {m m1 : ml_M} (h : pl_kp m m1) : pl_kp m m1 := h

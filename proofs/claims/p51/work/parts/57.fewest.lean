/-! FEWEST. -/
theorem pl_ownAll {A : pl_A} {m : ml_M} (hS : pl_Sh m) (hW : pl_W A) (hC : pl_C A m) {s : Nat} : fX10_ownAll 1 (nI s) m = some (if pl_cov A s then 1 else 0) := by
  have hw := hW.1
  unfold pl_Wc at hw
  unfold fX10_ownAll
  have hsr := pl_srch (F := fun fu i => fX10_ownAll_2 fu 1 (nI s) (nI i) m) (R0 := some 1) (R1 := fun _ => some 0) (pl_N A 0 3 0) (fun i => !decide (pl_own A i &&& s ≠ 0)) (fun fu i hi hp => ?_) (fun fu i hi hp => ?_) (fun fu => ?_) ml_fu (by rw [pl_fu]; omega)
  · refine hsr.trans ?_
    unfold pl_cov
    rw [pl_all_lst]
    by_cases h : pl_lst (fun i => !decide (pl_own A i &&& s ≠ 0)) (pl_N A 0 3 0) < pl_N A 0 3 0
    · rw [if_pos h, decide_eq_false (by simpa using h)]; rfl
    · rw [if_neg h, decide_eq_true h]; rfl
  · obtain ⟨k1, -, -, -, -, -, k7, -⟩ := pl_thg hC hi
    have hp : pl_own A i &&& s ≠ 0 := by simpa using hp
    have hlt : pl_own A i &&& s < 2 ^ 31 := Nat.lt_of_le_of_lt Nat.and_le_left (by have := pl_own_lt hW i; omega)
    simp (disch := omega) only [fX10_ownAll_2, ↓pl_let, pl_b1, pl_b2, ↓reduceIte, pl_k1 hS, pl_k2 hS, pl_k3 hS, pl_k8 hS, pl_k9 hS, pl_k10 hS, pl_k11 hS, pl_k12 hS, pl_k13 hS, pl_k14 hS, pl_k15 hS, pl_k16 hS, pl_k17 hS, pl_k18 hS, pl_k19 hS, pl_k20 hS, pl_k21 hS, pl_k22 hS, pl_k23 hS, pl_k24 hS, pl_k25 hS, pl_k26 hS, pl_k27 hS, pl_k28 hS, pl_k29 hS, pl_k30 hS, pl_k31 hS, pl_k32 hS, pl_r1_0 hS, pl_r1_1 hS, pl_r1_4 hS, pl_r1_6 hS, pl_r1_8 hS, pl_r1_10 hS, pl_r1_12 hS, pl_r1_13 hS, pl_r1_14 hS, pl_r1_18 hS, pl_r12_2 hS, pl_r12_3 hS, pl_r12_4 hS, pl_r12_8 hS, pl_r12_9 hS, pl_r12_10 hS, pl_r12_11 hS, pl_r12_12 hS, pl_r21_3 hS, pl_r21_5 hS, pl_r21_6 hS, pl_r21_7 hS, pl_r26_0 hS, pl_r26_2 hS, pl_r26_3 hS, pl_r26_4 hS, pl_r26_5 hS, hC.1.1, hC.1.2.1, hC.1.2.2.1, hC.1.2.2.2.1, hC.1.2.2.2.2.1, nI_leI, show ¬ pl_N A 0 3 0 ≤ i by omega, if_false, pl_in, nI_clamp, show i < 20 by omega, and_self, if_true, k1, k7, pl_and, pl_eq0, hp, pl_l1, nI_add]
  · obtain ⟨k1, -, -, -, -, -, k7, -⟩ := pl_thg hC hi
    have hp : pl_own A i &&& s = 0 := by simpa using hp
    simp (disch := omega) only [fX10_ownAll_2, ↓pl_let, pl_b1, pl_b2, ↓reduceIte, pl_k1 hS, pl_k2 hS, pl_k3 hS, pl_k8 hS, pl_k9 hS, pl_k10 hS, pl_k11 hS, pl_k12 hS, pl_k13 hS, pl_k14 hS, pl_k15 hS, pl_k16 hS, pl_k17 hS, pl_k18 hS, pl_k19 hS, pl_k20 hS, pl_k21 hS, pl_k22 hS, pl_k23 hS, pl_k24 hS, pl_k25 hS, pl_k26 hS, pl_k27 hS, pl_k28 hS, pl_k29 hS, pl_k30 hS, pl_k31 hS, pl_k32 hS, pl_r1_0 hS, pl_r1_1 hS, pl_r1_4 hS, pl_r1_6 hS, pl_r1_8 hS, pl_r1_10 hS, pl_r1_12 hS, pl_r1_13 hS, pl_r1_14 hS, pl_r1_18 hS, pl_r12_2 hS, pl_r12_3 hS, pl_r12_4 hS, pl_r12_8 hS, pl_r12_9 hS, pl_r12_10 hS, pl_r12_11 hS, pl_r12_12 hS, pl_r21_3 hS, pl_r21_5 hS, pl_r21_6 hS, pl_r21_7 hS, pl_r26_0 hS, pl_r26_2 hS, pl_r26_3 hS, pl_r26_4 hS, pl_r26_5 hS, hC.1.1, hC.1.2.1, hC.1.2.2.1, hC.1.2.2.2.1, hC.1.2.2.2.2.1, nI_leI, show ¬ pl_N A 0 3 0 ≤ i by omega, if_false, pl_in, nI_clamp, show i < 20 by omega, and_self, if_true, k1, k7, pl_and, hp, nI_0]
  · simp (disch := omega) only [fX10_ownAll_2, ↓pl_let, pl_b1, pl_b2, ↓reduceIte, pl_k1 hS, pl_k2 hS, pl_k3 hS, pl_k8 hS, pl_k9 hS, pl_k10 hS, pl_k11 hS, pl_k12 hS, pl_k13 hS, pl_k14 hS, pl_k15 hS, pl_k16 hS, pl_k17 hS, pl_k18 hS, pl_k19 hS, pl_k20 hS, pl_k21 hS, pl_k22 hS, pl_k23 hS, pl_k24 hS, pl_k25 hS, pl_k26 hS, pl_k27 hS, pl_k28 hS, pl_k29 hS, pl_k30 hS, pl_k31 hS, pl_k32 hS, pl_r1_0 hS, pl_r1_1 hS, pl_r1_4 hS, pl_r1_6 hS, pl_r1_8 hS, pl_r1_10 hS, pl_r1_12 hS, pl_r1_13 hS, pl_r1_14 hS, pl_r1_18 hS, pl_r12_2 hS, pl_r12_3 hS, pl_r12_4 hS, pl_r12_8 hS, pl_r12_9 hS, pl_r12_10 hS, pl_r12_11 hS, pl_r12_12 hS, pl_r21_3 hS, pl_r21_5 hS, pl_r21_6 hS, pl_r21_7 hS, pl_r26_0 hS, pl_r26_2 hS, pl_r26_3 hS, pl_r26_4 hS, pl_r26_5 hS, hC.1.1, hC.1.2.1, hC.1.2.2.1, hC.1.2.2.2.1, hC.1.2.2.2.2.1, nI_leI, Nat.le_refl, if_true]
theorem pl_covM {A : pl_A} {m : ml_M} (hS : pl_Sh m) (hW : pl_W A) (hM : pl_M A m) {s : Nat} : fX11_coversAll 33 (nI s) m = some (if pl_cov A s then 1 else 0) := by
  have hw := hW.1
  unfold pl_Wc at hw
  unfold fX11_coversAll
  have hmono : ∀ i, i ≤ pl_N A 0 3 0 → pl_all (fun i => decide (pl_own A i &&& s ≠ 0)) i = false → pl_cov A s = false := fun i hi ha => by
    cases hc : pl_cov A s with
    | false => rfl
    | true =>
      unfold pl_cov at hc
      have := (pl_all_iff _ _).mp hc
      have h2 : pl_all (fun i => decide (pl_own A i &&& s ≠ 0)) i = true := (pl_all_iff _ _).mpr fun j hj => this j (by omega)
      rw [ha] at h2; cases h2
  refine pl_forE (F := fun fu i g => fX11_coversAll_4 fu 33 (nI s) g (nI i) m) (R := some (if pl_cov A s then 1 else 0)) (pl_N A 0 3 0) (fun i => if pl_all (fun i => decide (pl_own A i &&& s ≠ 0)) i then 1 else 0) (fun fu i hi => ?_) (fun fu => ?_) ml_fu (by rw [pl_fu]; omega)
  · have k := pl_ownM hS hW hM hi
    have hlt : pl_own A i &&& s < 2 ^ 31 := Nat.lt_of_le_of_lt Nat.and_le_left (by have := pl_own_lt hW i; omega)
    have e : pl_all (fun i => decide (pl_own A i &&& s ≠ 0)) (i + 1) = (pl_all (fun i => decide (pl_own A i &&& s ≠ 0)) i && decide (pl_own A i &&& s ≠ 0)) := rfl
    by_cases ha : pl_all (fun i => decide (pl_own A i &&& s ≠ 0)) i = true
    · refine Or.inl ?_
      rw [e]
      simp (disch := omega) only [fX11_coversAll_4, fX11_coversAll_31, ↓pl_let, pl_b1, pl_b2, ↓reduceIte, pl_k33 hS, pl_k34 hS, pl_k35 hS, pl_k36 hS, pl_k37 hS, pl_k38 hS, pl_k39 hS, pl_k40 hS, pl_k41 hS, pl_k42 hS, pl_k43 hS, pl_k44 hS, pl_k45 hS, pl_k46 hS, pl_k47 hS, pl_k48 hS, pl_k49 hS, pl_k50 hS, pl_k51 hS, pl_k52 hS, pl_k53 hS, pl_k54 hS, pl_k55 hS, pl_k56 hS, pl_k57 hS, pl_k58 hS, pl_k59 hS, pl_k60 hS, pl_r33_1 hS, pl_r33_4 hS, pl_r33_5 hS, pl_r33_6 hS, pl_r33_7 hS, pl_r33_8 hS, pl_r33_12 hS, pl_r33_13 hS, pl_r33_14 hS, pl_r33_20 hS, pl_r33_21 hS, pl_r33_22 hS, pl_r33_25 hS, pl_r33_26 hS, pl_r33_27 hS, pl_r33_29 hS, pl_r33_31 hS, pl_r33_35 hS, pl_r33_36 hS, pl_r33_38 hS, pl_r33_39 hS, pl_r33_40 hS, pl_r33_42 hS, pl_r33_43 hS, pl_r33_44 hS, pl_r33_45 hS, pl_r33_47 hS, hM.1.1, hM.1.2.1, hM.1.2.2.1, hM.1.2.2.2.1, hM.1.2.2.2.2.1, hM.1.2.2.2.2.2.1, hM.1.2.2.2.2.2.2.1, hM.1.2.2.2.2.2.2.2.1, nI_leI, show ¬ pl_N A 0 3 0 ≤ i by omega, if_false, ha, if_true, pl_l1, pl_eq0, Nat.reduceEqDiff, k, pl_and, Bool.true_and, nI_add]
      by_cases hz : pl_own A i &&& s = 0
      · simp only [hz, if_true, ne_eq, not_true, decide_false, Bool.false_eq_true, if_false]
      · simp only [hz, if_false, ne_eq, not_false_iff, decide_true, if_true]
    · refine Or.inr ?_
      have ha : pl_all (fun i => decide (pl_own A i &&& s ≠ 0)) i = false := by simpa using ha
      rw [hmono i (by omega) ha]
      simp (disch := omega) only [fX11_coversAll_4, ↓pl_let, pl_b1, pl_b2, ↓reduceIte, pl_k33 hS, pl_k34 hS, pl_k35 hS, pl_k36 hS, pl_k37 hS, pl_k38 hS, pl_k39 hS, pl_k40 hS, pl_k41 hS, pl_k42 hS, pl_k43 hS, pl_k44 hS, pl_k45 hS, pl_k46 hS, pl_k47 hS, pl_k48 hS, pl_k49 hS, pl_k50 hS, pl_k51 hS, pl_k52 hS, pl_k53 hS, pl_k54 hS, pl_k55 hS, pl_k56 hS, pl_k57 hS, pl_k58 hS, pl_k59 hS, pl_k60 hS, pl_r33_1 hS, pl_r33_4 hS, pl_r33_5 hS, pl_r33_6 hS, pl_r33_7 hS, pl_r33_8 hS, pl_r33_12 hS, pl_r33_13 hS, pl_r33_14 hS, pl_r33_20 hS, pl_r33_21 hS, pl_r33_22 hS, pl_r33_25 hS, pl_r33_26 hS, pl_r33_27 hS, pl_r33_29 hS, pl_r33_31 hS, pl_r33_35 hS, pl_r33_36 hS, pl_r33_38 hS, pl_r33_39 hS, pl_r33_40 hS, pl_r33_42 hS, pl_r33_43 hS, pl_r33_44 hS, pl_r33_45 hS, pl_r33_47 hS, hM.1.1, hM.1.2.1, hM.1.2.2.1, hM.1.2.2.2.1, hM.1.2.2.2.2.1, hM.1.2.2.2.2.2.1, hM.1.2.2.2.2.2.2.1, hM.1.2.2.2.2.2.2.2.1, nI_leI, show ¬ pl_N A 0 3 0 ≤ i by omega, if_false, ha, Bool.false_eq_true, if_true, true_or]
  · simp (disch := omega) only [fX11_coversAll_4, ↓pl_let, pl_b1, pl_b2, ↓reduceIte, pl_k33 hS, pl_k34 hS, pl_k35 hS, pl_k36 hS, pl_k37 hS, pl_k38 hS, pl_k39 hS, pl_k40 hS, pl_k41 hS, pl_k42 hS, pl_k43 hS, pl_k44 hS, pl_k45 hS, pl_k46 hS, pl_k47 hS, pl_k48 hS, pl_k49 hS, pl_k50 hS, pl_k51 hS, pl_k52 hS, pl_k53 hS, pl_k54 hS, pl_k55 hS, pl_k56 hS, pl_k57 hS, pl_k58 hS, pl_k59 hS, pl_k60 hS, pl_r33_1 hS, pl_r33_4 hS, pl_r33_5 hS, pl_r33_6 hS, pl_r33_7 hS, pl_r33_8 hS, pl_r33_12 hS, pl_r33_13 hS, pl_r33_14 hS, pl_r33_20 hS, pl_r33_21 hS, pl_r33_22 hS, pl_r33_25 hS, pl_r33_26 hS, pl_r33_27 hS, pl_r33_29 hS, pl_r33_31 hS, pl_r33_35 hS, pl_r33_36 hS, pl_r33_38 hS, pl_r33_39 hS, pl_r33_40 hS, pl_r33_42 hS, pl_r33_43 hS, pl_r33_44 hS, pl_r33_45 hS, pl_r33_47 hS, hM.1.1, hM.1.2.1, hM.1.2.2.1, hM.1.2.2.2.1, hM.1.2.2.2.2.1, hM.1.2.2.2.2.2.1, hM.1.2.2.2.2.2.2.1, hM.1.2.2.2.2.2.2.2.1, nI_leI, Nat.le_refl, if_true]
    have : pl_all (fun i => decide (pl_own A i &&& s ≠ 0)) (pl_N A 0 3 0) = pl_cov A s := rfl
    rw [this]
    exact pl_b01 _
/-- the least of the smallest sets that cover all, from below and from above -/
def pl_fb (A : pl_A) : Nat → Nat
  | 0 => 999
  | s + 1 => if pl_cov A s = true ∧ (pl_fb A s = 999 ∨ pl_pc s < pl_pc (pl_fb A s)) then s else pl_fb A s
def pl_gb (A : pl_A) (N : Nat) : Nat → Nat
  | 0 => N - 1
  | j + 1 => if pl_pc (N - 1 - j) ≤ pl_pc (pl_gb A N j) ∧ pl_cov A (N - 1 - j) = true then N - 1 - j else pl_gb A N j
theorem pl_fb1 (A : pl_A) (s : Nat) : pl_fb A (s + 1) = if pl_cov A s = true ∧ (pl_fb A s = 999 ∨ pl_pc s < pl_pc (pl_fb A s)) then s else pl_fb A s := rfl
theorem pl_gb1 (A : pl_A) (N j : Nat) : pl_gb A N (j + 1) = if pl_pc (N - 1 - j) ≤ pl_pc (pl_gb A N j) ∧ pl_cov A (N - 1 - j) = true then N - 1 - j else pl_gb A N j := rfl
theorem pl_fb_ok (A : pl_A) : ∀ s, s ≤ 256 → (pl_fb A s = 999 ∧ ∀ x, x < s → pl_cov A x = false) ∨ (pl_fb A s < s ∧ pl_cov A (pl_fb A s) = true ∧ ∀ x, x < s → pl_cov A x = true → pl_pc (pl_fb A s) < pl_pc x ∨ (pl_pc (pl_fb A s) = pl_pc x ∧ pl_fb A s ≤ x)) := by
  intro s
  induction s with
  | zero => intro _; exact Or.inl ⟨rfl, fun x hx => by omega⟩
  | succ s ih =>
    intro hs
    have ih := ih (by omega)
    rw [pl_fb1]
    by_cases hc : pl_cov A s = true
    · rcases ih with ⟨h1, h2⟩ | ⟨h1, h2, h3⟩
      · rw [if_pos ⟨hc, Or.inl h1⟩]
        refine Or.inr ⟨by omega, hc, fun x hx hx2 => ?_⟩
        by_cases hxs : x = s
        · rw [hxs]; exact Or.inr ⟨rfl, Nat.le_refl _⟩
        · rw [h2 x (by omega)] at hx2; cases hx2
      · by_cases hl : pl_pc s < pl_pc (pl_fb A s)
        · rw [if_pos ⟨hc, Or.inr hl⟩]
          refine Or.inr ⟨by omega, hc, fun x hx hx2 => ?_⟩
          by_cases hxs : x = s
          · rw [hxs]; exact Or.inr ⟨rfl, Nat.le_refl _⟩
          · have := h3 x (by omega) hx2
            exact Or.inl (by omega)
        · rw [if_neg (fun z => by rcases z.2 with y | y <;> omega)]
          refine Or.inr ⟨by omega, h2, fun x hx hx2 => ?_⟩
          by_cases hxs : x = s
          · rw [hxs]; omega
          · exact h3 x (by omega) hx2
    · have hc : pl_cov A s = false := by simpa using hc
      rw [if_neg (fun z => by rw [hc] at z; cases z.1)]
      rcases ih with ⟨h1, h2⟩ | ⟨h1, h2, h3⟩
      · refine Or.inl ⟨h1, fun x hx => ?_⟩
        by_cases hxs : x = s
        · rw [hxs]; exact hc
        · exact h2 x (by omega)
      · refine Or.inr ⟨by omega, h2, fun x hx hx2 => ?_⟩
        by_cases hxs : x = s
        · rw [hxs, hc] at hx2; cases hx2
        · exact h3 x (by omega) hx2
theorem pl_gb_ok (A : pl_A) (N : Nat) (hN : 1 ≤ N) (hc : pl_cov A (N - 1) = true) : ∀ j, j ≤ N → pl_gb A N j < N ∧ pl_cov A (pl_gb A N j) = true ∧ ∀ x, N ≤ x + j → x < N → pl_cov A x = true → pl_pc (pl_gb A N j) < pl_pc x ∨ (pl_pc (pl_gb A N j) = pl_pc x ∧ pl_gb A N j ≤ x) := by
  intro j
  induction j with
  | zero => intro _; exact ⟨by show N - 1 < N; omega, hc, fun x h1 h2 => by omega⟩
  | succ j ih =>
    intro hj
    obtain ⟨h1, h3, h4⟩ := ih (by omega)
    rw [pl_gb1]
    by_cases hx : pl_pc (N - 1 - j) ≤ pl_pc (pl_gb A N j) ∧ pl_cov A (N - 1 - j) = true
    · rw [if_pos hx]
      refine ⟨by omega, hx.2, fun x y1 y2 y3 => ?_⟩
      by_cases hxj : x = N - 1 - j
      · rw [hxj]; exact Or.inr ⟨rfl, Nat.le_refl _⟩
      · have := h4 x (by omega) y2 y3
        omega
    · rw [if_neg hx]
      refine ⟨h1, h3, fun x y1 y2 y3 => ?_⟩
      by_cases hxj : x = N - 1 - j
      · by_cases hcx : pl_cov A (N - 1 - j) = true
        · have : ¬ pl_pc (N - 1 - j) ≤ pl_pc (pl_gb A N j) := fun z => hx ⟨z, hcx⟩
          rw [hxj]; exact Or.inl (by omega)
        · rw [hxj] at y3; exact absurd y3 hcx
      · exact h4 x (by omega) y2 y3
theorem pl_fgb (A : pl_A) {N : Nat} (hN : 1 ≤ N) (hN2 : N ≤ 256) (hc : pl_cov A (N - 1) = true) : pl_gb A N N = pl_fb A N ∧ pl_fb A N < N := by
  obtain ⟨h1, h3, h4⟩ := pl_gb_ok A N hN hc N (Nat.le_refl _)
  rcases pl_fb_ok A N hN2 with ⟨-, g2⟩ | ⟨g1, g2, g3⟩
  · rw [g2 (N - 1) (by omega)] at hc; cases hc
  · have y1 := h4 (pl_fb A N) (by omega) g1 g2
    have y2 := g3 (pl_gb A N N) h1 h3
    exact ⟨by omega, g1⟩
theorem pl_cov_up {A : pl_A} {s : Nat} (h : pl_cov A s = true) : pl_cov A (2 ^ pl_N A 0 0 0 - 1) = true := by
  unfold pl_cov at *
  rw [pl_all_iff] at h ⊢
  intro i hi
  have := h i hi
  simp only [decide_eq_true_eq] at this ⊢
  have hlt : pl_own A i < 2 ^ pl_N A 0 0 0 := pl_set_lt _ _
  rw [Nat.and_two_pow_sub_one_eq_mod, Nat.mod_eq_of_lt hlt]
  intro h0
  rw [h0, Nat.zero_and] at this
  exact this rfl
theorem pl_pown {n : Nat} (h : n ≤ 8) : 1 ≤ 2 ^ n ∧ 2 ^ n ≤ 256 := ⟨Nat.one_le_two_pow, Nat.le_trans (Nat.pow_le_pow_right (by decide) h) (by decide)⟩
theorem pl_fewC {A : pl_A} {m : ml_M} (hS : pl_Sh m) (hW : pl_W A) (hC : pl_C A m) : fX10_fewest 1 m = if pl_fb A (2 ^ pl_N A 0 0 0) = 999 then some (-3, pl_fC m 4) else some (nI (pl_pc (pl_fb A (2 ^ pl_N A 0 0 0))), ml_sI m 1 15 (nI (pl_fb A (2 ^ pl_N A 0 0 0)))) := by
  have hw := hW.1
  unfold pl_Wc at hw
  obtain ⟨p1, p2⟩ := pl_pown (show pl_N A 0 0 0 ≤ 8 by omega)
  unfold fX10_fewest
  refine pl_for (F := fun fu s (_ : Unit) => fX10_fewest_5 fu 1 (if pl_fb A s = 999 then -9 else nI (pl_fb A s)) (nI s) m) (R := if pl_fb A (2 ^ pl_N A 0 0 0) = 999 then some (-3, pl_fC m 4) else some (nI (pl_pc (pl_fb A (2 ^ pl_N A 0 0 0))), ml_sI m 1 15 (nI (pl_fb A (2 ^ pl_N A 0 0 0))))) (2 ^ pl_N A 0 0 0) (fun _ => ()) (fun fu s hs => ?_) (fun fu => ?_) ml_fu (by rw [pl_fu]; omega)
  · have ho := pl_ownAll hS hW hC (s := s)
    have hfb := pl_fb_ok A s (by omega)
    rw [pl_fb1]
    by_cases h9 : pl_fb A s = 999
    · simp (disch := omega) only [fX10_fewest_5, fX10_fewest_35, fX10_fewest_40, fX10_fewest_55, ↓pl_let, pl_b1, pl_b2, ↓reduceIte, pl_k1 hS, pl_k2 hS, pl_k3 hS, pl_k8 hS, pl_k9 hS, pl_k10 hS, pl_k11 hS, pl_k12 hS, pl_k13 hS, pl_k14 hS, pl_k15 hS, pl_k16 hS, pl_k17 hS, pl_k18 hS, pl_k19 hS, pl_k20 hS, pl_k21 hS, pl_k22 hS, pl_k23 hS, pl_k24 hS, pl_k25 hS, pl_k26 hS, pl_k27 hS, pl_k28 hS, pl_k29 hS, pl_k30 hS, pl_k31 hS, pl_k32 hS, pl_r1_0 hS, pl_r1_1 hS, pl_r1_4 hS, pl_r1_6 hS, pl_r1_8 hS, pl_r1_10 hS, pl_r1_12 hS, pl_r1_13 hS, pl_r1_14 hS, pl_r1_18 hS, pl_r12_2 hS, pl_r12_3 hS, pl_r12_4 hS, pl_r12_8 hS, pl_r12_9 hS, pl_r12_10 hS, pl_r12_11 hS, pl_r12_12 hS, pl_r21_3 hS, pl_r21_5 hS, pl_r21_6 hS, pl_r21_7 hS, pl_r26_0 hS, pl_r26_2 hS, pl_r26_3 hS, pl_r26_4 hS, pl_r26_5 hS, hC.2.2.2.1.1.2.2, hC.2.2.2.1.2.1.2.2, hC.2.2.2.1.2.2.1.2.2, hC.2.2.2.1.2.2.2.1, hC.2.2.2.1.2.2.2.2.1, pl_shl1, nI_leI, show ¬ 2 ^ pl_N A 0 0 0 ≤ s by omega, if_false, h9, if_true, pl_l1, pl_eq0, Nat.reduceEqDiff, ho, nI_add, true_or, and_true, pl_shl2, pl_l31, pl_and]
      by_cases hc : pl_cov A s = true
      · simp (disch := omega) only [hc, if_true, pl_eq0, Nat.reduceEqDiff, if_false, show ¬ s = 999 by omega]
      · simp only [hc, if_false, if_true, Bool.false_eq_true, h9]
    · have hlt : pl_fb A s < s := by omega
      simp (disch := omega) only [fX10_fewest_5, ↓pl_let, pl_b1, pl_b2, ↓reduceIte, pl_k1 hS, pl_k2 hS, pl_k3 hS, pl_k8 hS, pl_k9 hS, pl_k10 hS, pl_k11 hS, pl_k12 hS, pl_k13 hS, pl_k14 hS, pl_k15 hS, pl_k16 hS, pl_k17 hS, pl_k18 hS, pl_k19 hS, pl_k20 hS, pl_k21 hS, pl_k22 hS, pl_k23 hS, pl_k24 hS, pl_k25 hS, pl_k26 hS, pl_k27 hS, pl_k28 hS, pl_k29 hS, pl_k30 hS, pl_k31 hS, pl_k32 hS, pl_r1_0 hS, pl_r1_1 hS, pl_r1_4 hS, pl_r1_6 hS, pl_r1_8 hS, pl_r1_10 hS, pl_r1_12 hS, pl_r1_13 hS, pl_r1_14 hS, pl_r1_18 hS, pl_r12_2 hS, pl_r12_3 hS, pl_r12_4 hS, pl_r12_8 hS, pl_r12_9 hS, pl_r12_10 hS, pl_r12_11 hS, pl_r12_12 hS, pl_r21_3 hS, pl_r21_5 hS, pl_r21_6 hS, pl_r21_7 hS, pl_r26_0 hS, pl_r26_2 hS, pl_r26_3 hS, pl_r26_4 hS, pl_r26_5 hS, hC.2.2.2.1.1.2.2, hC.2.2.2.1.2.1.2.2, hC.2.2.2.1.2.2.1.2.2, hC.2.2.2.1.2.2.2.1, hC.2.2.2.1.2.2.2.2.1, pl_shl1, nI_leI, show ¬ 2 ^ pl_N A 0 0 0 ≤ s by omega, if_false, h9, pl_n9, pl_bitC (show s < 256 by omega) m, pl_bitC (show pl_fb A s < 256 by omega) m, false_or, pl_shl2, pl_l31, pl_and, pl_l1]
      have q1 := pl_pc_le s
      have q2 := pl_pc_le (pl_fb A s)
      by_cases hle : pl_pc (pl_fb A s) ≤ pl_pc s
      · simp (disch := omega) only [nI_leI, hle, if_true, fX10_fewest_40, fX10_fewest_55, nI_add, show ¬ pl_pc s < pl_pc (pl_fb A s) by omega, and_false, if_false, h9, pl_l1]
      · simp (disch := omega) only [nI_leI, hle, if_false, fX10_fewest_35, fX10_fewest_40, fX10_fewest_55, ↓pl_let, pl_b1, pl_b2, ↓reduceIte, pl_k1 hS, if_true, pl_l1, pl_eq0, Nat.reduceEqDiff, ho, nI_add, show pl_pc s < pl_pc (pl_fb A s) by omega, and_true]
        by_cases hc : pl_cov A s = true
        · simp (disch := omega) only [hc, if_true, pl_eq0, Nat.reduceEqDiff, if_false, show ¬ s = 999 by omega]
        · simp only [hc, if_false, if_true, Bool.false_eq_true, h9]
  · have hfb := pl_fb_ok A (2 ^ pl_N A 0 0 0) p2
    by_cases h9 : pl_fb A (2 ^ pl_N A 0 0 0) = 999
    · simp (disch := omega) only [fX10_fewest_5, fX10_fewest_61, ↓pl_let, pl_b1, pl_b2, ↓reduceIte, pl_k1 hS, pl_k2 hS, pl_k3 hS, pl_k8 hS, pl_k9 hS, pl_k10 hS, pl_k11 hS, pl_k12 hS, pl_k13 hS, pl_k14 hS, pl_k15 hS, pl_k16 hS, pl_k17 hS, pl_k18 hS, pl_k19 hS, pl_k20 hS, pl_k21 hS, pl_k22 hS, pl_k23 hS, pl_k24 hS, pl_k25 hS, pl_k26 hS, pl_k27 hS, pl_k28 hS, pl_k29 hS, pl_k30 hS, pl_k31 hS, pl_k32 hS, pl_r1_0 hS, pl_r1_1 hS, pl_r1_4 hS, pl_r1_6 hS, pl_r1_8 hS, pl_r1_10 hS, pl_r1_12 hS, pl_r1_13 hS, pl_r1_14 hS, pl_r1_18 hS, pl_r12_2 hS, pl_r12_3 hS, pl_r12_4 hS, pl_r12_8 hS, pl_r12_9 hS, pl_r12_10 hS, pl_r12_11 hS, pl_r12_12 hS, pl_r21_3 hS, pl_r21_5 hS, pl_r21_6 hS, pl_r21_7 hS, pl_r26_0 hS, pl_r26_2 hS, pl_r26_3 hS, pl_r26_4 hS, pl_r26_5 hS, hC.2.2.2.1.1.2.2, hC.2.2.2.1.2.1.2.2, hC.2.2.2.1.2.2.1.2.2, hC.2.2.2.1.2.2.2.1, hC.2.2.2.1.2.2.2.2.1, pl_shl1, nI_leI, Nat.le_refl, h9, if_true, pl_l1, pl_l4, pl_shl2, pl_l31, pl_and, pl_found hS]
    · simp (disch := omega) only [fX10_fewest_5, fX10_fewest_61, ↓pl_let, pl_b1, pl_b2, ↓reduceIte, pl_k1 hS, pl_k2 hS, pl_k3 hS, pl_k8 hS, pl_k9 hS, pl_k10 hS, pl_k11 hS, pl_k12 hS, pl_k13 hS, pl_k14 hS, pl_k15 hS, pl_k16 hS, pl_k17 hS, pl_k18 hS, pl_k19 hS, pl_k20 hS, pl_k21 hS, pl_k22 hS, pl_k23 hS, pl_k24 hS, pl_k25 hS, pl_k26 hS, pl_k27 hS, pl_k28 hS, pl_k29 hS, pl_k30 hS, pl_k31 hS, pl_k32 hS, pl_r1_0 hS, pl_r1_1 hS, pl_r1_4 hS, pl_r1_6 hS, pl_r1_8 hS, pl_r1_10 hS, pl_r1_12 hS, pl_r1_13 hS, pl_r1_14 hS, pl_r1_18 hS, pl_r12_2 hS, pl_r12_3 hS, pl_r12_4 hS, pl_r12_8 hS, pl_r12_9 hS, pl_r12_10 hS, pl_r12_11 hS, pl_r12_12 hS, pl_r21_3 hS, pl_r21_5 hS, pl_r21_6 hS, pl_r21_7 hS, pl_r26_0 hS, pl_r26_2 hS, pl_r26_3 hS, pl_r26_4 hS, pl_r26_5 hS, hC.2.2.2.1.1.2.2, hC.2.2.2.1.2.1.2.2, hC.2.2.2.1.2.2.1.2.2, hC.2.2.2.1.2.2.2.1, hC.2.2.2.1.2.2.2.2.1, pl_shl1, nI_leI, Nat.le_refl, if_true, h9, if_false, pl_n9, pl_bitC (show pl_fb A (2 ^ pl_N A 0 0 0) < 256 by omega), pl_l1, pl_shl2, pl_l31, pl_and]
theorem pl_op_fewest : pl_Ok (fX10_fewest 1) (fX11_fewest 33) := by
  intro A m h
  have hS := h.1
  have hW := h.2.1
  have hw := hW.1
  unfold pl_Wc at hw
  have hC := h.2.2.2
  obtain ⟨p1, p2⟩ := pl_pown (show pl_N A 0 0 0 ≤ 8 by omega)
  have eC := pl_fewC hS hW hC
  have hfb := pl_fb_ok A (2 ^ pl_N A 0 0 0) p2
  have eM : ∀ {M : ml_M}, pl_Sh M → pl_M A M → fX11_fewest 33 M = if pl_cov A (2 ^ pl_N A 0 0 0 - 1) = true then fX11_fewest_27 ml_fu 33 (nI (2 ^ pl_N A 0 0 0 - 1)) (nI (2 ^ pl_N A 0 0 0 - 1)) M else some (-3, pl_fM M 4) := fun {M} hS hM => by
    have hcm := pl_covM hS hW hM (s := 2 ^ pl_N A 0 0 0 - 1)
    simp (disch := omega) only [fX11_fewest, ↓pl_let, pl_b1, pl_b2, ↓reduceIte, pl_k33 hS, pl_k34 hS, pl_k35 hS, pl_k36 hS, pl_k37 hS, pl_k38 hS, pl_k39 hS, pl_k40 hS, pl_k41 hS, pl_k42 hS, pl_k43 hS, pl_k44 hS, pl_k45 hS, pl_k46 hS, pl_k47 hS, pl_k48 hS, pl_k49 hS, pl_k50 hS, pl_k51 hS, pl_k52 hS, pl_k53 hS, pl_k54 hS, pl_k55 hS, pl_k56 hS, pl_k57 hS, pl_k58 hS, pl_k59 hS, pl_k60 hS, pl_r33_1 hS, pl_r33_4 hS, pl_r33_5 hS, pl_r33_6 hS, pl_r33_7 hS, pl_r33_8 hS, pl_r33_12 hS, pl_r33_13 hS, pl_r33_14 hS, pl_r33_20 hS, pl_r33_21 hS, pl_r33_22 hS, pl_r33_25 hS, pl_r33_26 hS, pl_r33_27 hS, pl_r33_29 hS, pl_r33_31 hS, pl_r33_35 hS, pl_r33_36 hS, pl_r33_38 hS, pl_r33_39 hS, pl_r33_40 hS, pl_r33_42 hS, pl_r33_43 hS, pl_r33_44 hS, pl_r33_45 hS, pl_r33_47 hS, hM.1.1, hM.1.2.1, hM.1.2.2.1, hM.1.2.2.2.1, hM.1.2.2.2.2.1, hM.1.2.2.2.2.2.1, hM.1.2.2.2.2.2.2.1, hM.1.2.2.2.2.2.2.2.1, pl_shl1, pl_l1, pl_l4, pl_l31, pl_and, pl_shl2, pl_sub, hcm]
    by_cases hc : pl_cov A (2 ^ pl_N A 0 0 0 - 1) = true
    · simp (disch := omega) only [hc, if_true, pl_l1, pl_eq0, Nat.reduceEqDiff, if_false]
    · simp only [hc, if_false, if_true, Bool.false_eq_true, pl_meets hS (4) (by decide), pl_b2]
  by_cases hc : pl_cov A (2 ^ pl_N A 0 0 0 - 1) = true
  · obtain ⟨e1, e2⟩ := pl_fgb A p1 p2 hc
    rw [if_neg (by omega)] at eC
    refine pl_Ok.tell h _ _ eC fun M hS1 hM1 => ⟨_, pl_Ok.st hM1 ?_⟩
    rw [eM hS1 hM1, if_pos hc]
    have hh := pl_for (F := fun fu j (g : Nat) => fX11_fewest_27 fu 33 (nI g) (pl_sz (2 ^ pl_N A 0 0 0 - j)) M) (R := some (nI (pl_pc (pl_fb A (2 ^ pl_N A 0 0 0))), ml_sI M 33 2 (nI (pl_fb A (2 ^ pl_N A 0 0 0))))) (2 ^ pl_N A 0 0 0) (pl_gb A (2 ^ pl_N A 0 0 0)) (fun fu j hj => ?_) (fun fu => ?_) ml_fu (by rw [pl_fu]; omega)
    · have z : pl_sz (2 ^ pl_N A 0 0 0 - 0) = nI (2 ^ pl_N A 0 0 0 - 1) := by unfold pl_sz; rw [if_neg (by omega), Nat.sub_zero]
      rw [z] at hh
      exact hh
    · obtain ⟨r, hr⟩ : ∃ r, 2 ^ pl_N A 0 0 0 - j = r + 1 := ⟨2 ^ pl_N A 0 0 0 - j - 1, by omega⟩
      have hr2 : 2 ^ pl_N A 0 0 0 - (j + 1) = r := by omega
      have hr3 : 2 ^ pl_N A 0 0 0 - 1 - j = r := by omega
      have hg := (pl_gb_ok A (2 ^ pl_N A 0 0 0) p1 hc j (by omega)).1
      have hm1 : nI r + (-1) = pl_sz r := by
        unfold pl_sz
        cases r with
        | zero => rfl
        | succ r => rw [pk_m1, if_neg (by omega), Nat.add_sub_cancel]
      have hcm := pl_covM hS1 hW hM1 (s := r)
      have q1 := pl_pc_le r
      have q2 := pl_pc_le (pl_gb A (2 ^ pl_N A 0 0 0) j)
      rw [hr, pl_sz1, hr2, pl_gb1, hr3]
      simp (disch := omega) only [fX11_fewest_27, fX11_fewest_54, fX11_fewest_55, ↓pl_let, pl_b1, pl_b2, ↓reduceIte, pl_lt0, if_false, pl_bitsM (show r < 256 by omega), pl_bitsM (show pl_gb A (2 ^ pl_N A 0 0 0) j < 256 by omega), nI_ltI, hm1]
      by_cases hlt : pl_pc (pl_gb A (2 ^ pl_N A 0 0 0) j) < pl_pc r
      · rw [if_pos hlt, if_neg (fun z => by omega)]
      · rw [if_neg hlt, pl_k33 hS1, if_pos rfl, hcm, pl_b1]
        by_cases hcr : pl_cov A r = true
        · rw [if_pos hcr, if_neg (by decide), if_pos ⟨by omega, hcr⟩]
        · rw [if_neg hcr, if_pos rfl, if_neg (fun z => hcr z.2)]
    · rw [e1, Nat.sub_self]
      have z : pl_sz 0 < 0 := by decide
      simp only [fX11_fewest_27, fX11_fewest_62, ↓pl_let, pl_b1, pl_b2, ↓reduceIte, z, if_true, pl_bitsM (show pl_fb A (2 ^ pl_N A 0 0 0) < 256 by omega), pl_k33 hS1, pl_tellM hS1]
  · have h9 : pl_fb A (2 ^ pl_N A 0 0 0) = 999 := by
      rcases hfb with z | z
      · exact z.1
      · exact absurd (pl_cov_up z.2.1) hc
    rw [if_pos h9] at eC
    refine pl_Ok.found h (-3) 4 (by decide) eC fun M hS1 hM1 => ⟨_, pl_Ok.st hM1 ?_⟩
    rw [eM hS1 hM1, if_neg hc]

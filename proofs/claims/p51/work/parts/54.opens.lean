/-! KEYS: opens, strange. -/
theorem pl_has {s t : Nat} (hs : s < 2 ^ 31) (ht : t < 31) (m : ml_M) : fX10_has (nI s) (nI t) m = some (if s.testBit t then 1 else 0) ∧ fX11_has (nI s) (nI t) m = some (if s.testBit t then 1 else 0) := by
  have h1 : (nI s >>> (nI t &&& 31)) &&& (1 : Int32) = nI (s / 2 ^ t % 2) := by
    have e : (31 : Int32) = nI 31 := rfl
    rw [e, pl_and, pl_shr2 hs ht]
    have e1 : (1 : Int32) = nI 1 := rfl
    rw [e1, pl_and, Nat.and_one_is_mod]
  have h2 : s.testBit t = decide (s / 2 ^ t % 2 = 1) := Nat.testBit_eq_decide_div_mod_eq
  refine ⟨?_, ?_⟩
  · unfold fX10_has
    rw [h1, h2]
    by_cases h : s / 2 ^ t % 2 = 1
    · rw [h]; rfl
    · rw [show s / 2 ^ t % 2 = 0 by omega]; rfl
  · unfold fX11_has
    rw [h1, h2]
    by_cases h : s / 2 ^ t % 2 = 1
    · rw [h]; rfl
    · rw [show s / 2 ^ t % 2 = 0 by omega]; rfl
/-- how far a key is off a lock in figure k; together in the first figures; whether it opens -/
def pl_of2 (x y k : Nat) : Nat := if y / 10 ^ k % 10 ≤ x / 10 ^ k % 10 then x / 10 ^ k % 10 - y / 10 ^ k % 10 else y / 10 ^ k % 10 - x / 10 ^ k % 10
def pl_sm (x y : Nat) : Nat → Nat
  | 0 => 0
  | k + 1 => pl_sm x y k + pl_of2 x y k
def pl_do (w x y : Nat) : Bool := pl_all (fun k => decide (pl_of2 x y k ≤ 1)) 4 && decide (pl_sm x y 4 ≤ w)
theorem pl_of2_le (x y k : Nat) : pl_of2 x y k ≤ 9 := by
  unfold pl_of2; split <;> omega
theorem pl_sm_le (x y : Nat) : ∀ k, pl_sm x y k ≤ 9 * k := by
  intro k
  induction k with
  | zero => exact Nat.le_refl _
  | succ k ih => unfold pl_sm; have := pl_of2_le x y k; omega
theorem pl_all_iff (p : Nat → Bool) (n : Nat) : pl_all p n = true ↔ ∀ i, i < n → p i = true := by
  induction n with
  | zero => simp [pl_all]
  | succ n ih =>
    unfold pl_all
    rw [Bool.and_eq_true, ih]
    constructor
    · rintro ⟨h1, h2⟩ i hi
      by_cases h : i = n
      · exact h ▸ h2
      · exact h1 i (by omega)
    · intro h
      exact ⟨fun i hi => h i (by omega), h n (by omega)⟩
theorem pl_all_lst (p : Nat → Bool) (n : Nat) : pl_all p n = decide (¬ pl_lst (fun i => !p i) n < n) := by
  have h := pl_lst_p (fun i => !p i) n
  by_cases hl : pl_lst (fun i => !p i) n < n
  · rw [decide_eq_false (by simpa using hl)]
    cases ha : pl_all p n with
    | false => rfl
    | true =>
      have h1 := (pl_all_iff p n).mp ha _ hl
      have h2 := h.1 hl
      rw [h1] at h2
      cases h2
  · rw [decide_eq_true hl, pl_all_iff]
    intro i hi
    have := h.2 i (by have := pl_lst_le (fun i => !p i) n; omega)
    simpa using this
theorem pl_turns {A : pl_A} {m : ml_M} (hS : pl_Sh m) (hw : ml_I m 1 3 = nI (pl_N A 0 7 0)) (hw4 : pl_N A 0 7 0 ≤ 4) {x y : Nat} (hx : x < 10000) (hy : y < 10000) : fX10_turns 1 (nI x) (nI y) m = some (if pl_do (pl_N A 0 7 0) x y then 1 else 0) := by
  unfold fX10_turns
  have hsr := pl_srch (F := fun fu k => fX10_turns_5 fu 1 (nI x) (nI y) (nI (pl_sm x y k)) (nI (10 ^ k)) m) (R0 := some (if pl_sm x y 4 ≤ pl_N A 0 7 0 then 1 else 0)) (R1 := fun _ => some 0) 4 (fun k => !decide (pl_of2 x y k ≤ 1)) (fun fu k hk hp => ?_) (fun fu k hk hp => ?_) (fun fu => ?_) ml_fu (by rw [pl_fu]; omega)
  · have e0 : fX10_turns_5 ml_fu 1 (nI x) (nI y) 0 1 m = fX10_turns_5 ml_fu 1 (nI x) (nI y) (nI (pl_sm x y 0)) (nI (10 ^ 0)) m := rfl
    rw [e0]
    refine hsr.trans ?_
    unfold pl_do
    rw [pl_all_lst]
    by_cases h : pl_lst (fun k => !decide (pl_of2 x y k ≤ 1)) 4 < 4
    · rw [if_pos h, decide_eq_false (by simpa using h), Bool.false_and]; rfl
    · rw [if_neg h, decide_eq_true h, Bool.true_and]
      by_cases h2 : pl_sm x y 4 ≤ pl_N A 0 7 0 <;> simp [h2]
  · have hp : pl_of2 x y k ≤ 1 := by simpa using hp
    have hs := pl_sm_le x y k
    have hk4 : k = 0 ∨ k = 1 ∨ k = 2 ∨ k = 3 := by omega
    have hp1 : ∀ a : Nat, a = 10 ^ k → 0 < a ∧ a ≤ 1000 := by
      rcases hk4 with rfl | rfl | rfl | rfl <;> intro a ha <;> omega
    obtain ⟨a, ha⟩ : ∃ a, a = 10 ^ k := ⟨_, rfl⟩
    obtain ⟨a1, a2⟩ := hp1 a ha
    have hof : pl_of2 x y k = if y / a % 10 ≤ x / a % 10 then x / a % 10 - y / a % 10 else y / a % 10 - x / a % 10 := by rw [ha]; rfl
    have ha1 : 10 ^ (k + 1) = a * 10 := by rw [Nat.pow_succ, ha]
    have hq1 : x / a < 2 ^ 31 := Nat.lt_of_le_of_lt (Nat.div_le_self _ _) (by omega)
    have hq2 : y / a < 2 ^ 31 := Nat.lt_of_le_of_lt (Nat.div_le_self _ _) (by omega)
    show fX10_turns_5 (fu + 1) 1 (nI x) (nI y) (nI (pl_sm x y k)) (nI (10 ^ k)) m = fX10_turns_5 fu 1 (nI x) (nI y) (nI (pl_sm x y k + pl_of2 x y k)) (nI (10 ^ (k + 1))) m
    rw [ha1, ← ha]
    simp (disch := omega) only [fX10_turns_5, ↓pl_let, pl_b1, pl_b2, ↓reduceIte, pl_l1, pl_l2, pl_l3, pl_l4, pl_l5, pl_l6, pl_l7, pl_l8, pl_l9, pl_l10, pl_l11, pl_l12, pl_l13, pl_l14, pl_l15, pl_l16, pl_l17, pl_l18, pl_l19, pl_l20, pl_l21, pl_l22, pl_l23, pl_l24, pl_l25, pl_l26, pl_l27, pl_l28, pl_l29, pl_l30, pl_l31, pl_l32, pl_l33, pl_l34, pl_l35, pl_l36, pl_l37, pl_l38, pl_l39, pl_l40, pl_l41, pl_l42, pl_l43, pl_l44, pl_l45, pl_l46, pl_l47, pl_l48, pl_l49, pl_l50, pl_l51, pl_l52, pl_l53, pl_l54, pl_l55, pl_l56, pl_l57, pl_l58, pl_l59, pl_l60, pl_l61, pl_l62, pl_l63, pl_l64, pl_l99, pl_l100, pl_l119, pl_l120, pl_l255, pl_l256, pl_l999, pl_l1000, pl_l1023, pl_l1024, pl_l1111, pl_l5555, pl_l10240, pl_l1000, nI_ltI, show ¬ 1000 < a by omega, if_false, pl_eq0, show ¬ a = 0 by omega, not_false_iff, if_true, pk_div, pk_mul, pl_rem3, pl_absI, ← hof, nI_leI, hp, nI_add]
  · have hp : ¬ pl_of2 x y k ≤ 1 := by simpa using hp
    have hk4 : k = 0 ∨ k = 1 ∨ k = 2 ∨ k = 3 := by omega
    have hp1 : ∀ a : Nat, a = 10 ^ k → 0 < a ∧ a ≤ 1000 := by
      rcases hk4 with rfl | rfl | rfl | rfl <;> intro a ha <;> omega
    obtain ⟨a, ha⟩ : ∃ a, a = 10 ^ k := ⟨_, rfl⟩
    obtain ⟨a1, a2⟩ := hp1 a ha
    have hof : pl_of2 x y k = if y / a % 10 ≤ x / a % 10 then x / a % 10 - y / a % 10 else y / a % 10 - x / a % 10 := by rw [ha]; rfl
    have hq1 : x / a < 2 ^ 31 := Nat.lt_of_le_of_lt (Nat.div_le_self _ _) (by omega)
    have hq2 : y / a < 2 ^ 31 := Nat.lt_of_le_of_lt (Nat.div_le_self _ _) (by omega)
    have hle := pl_of2_le x y k
    rw [← ha]
    simp (disch := omega) only [fX10_turns_5, ↓pl_let, pl_b1, pl_b2, ↓reduceIte, pl_l1, pl_l2, pl_l3, pl_l4, pl_l5, pl_l6, pl_l7, pl_l8, pl_l9, pl_l10, pl_l11, pl_l12, pl_l13, pl_l14, pl_l15, pl_l16, pl_l17, pl_l18, pl_l19, pl_l20, pl_l21, pl_l22, pl_l23, pl_l24, pl_l25, pl_l26, pl_l27, pl_l28, pl_l29, pl_l30, pl_l31, pl_l32, pl_l33, pl_l34, pl_l35, pl_l36, pl_l37, pl_l38, pl_l39, pl_l40, pl_l41, pl_l42, pl_l43, pl_l44, pl_l45, pl_l46, pl_l47, pl_l48, pl_l49, pl_l50, pl_l51, pl_l52, pl_l53, pl_l54, pl_l55, pl_l56, pl_l57, pl_l58, pl_l59, pl_l60, pl_l61, pl_l62, pl_l63, pl_l64, pl_l99, pl_l100, pl_l119, pl_l120, pl_l255, pl_l256, pl_l999, pl_l1000, pl_l1023, pl_l1024, pl_l1111, pl_l5555, pl_l10240, pl_l1000, nI_ltI, show ¬ 1000 < a by omega, if_false, pl_eq0, show ¬ a = 0 by omega, not_false_iff, if_true, pk_div, pk_mul, pl_rem3, pl_absI, ← hof, nI_leI, hp]
  · have hs := pl_sm_le x y 4
    have h4 : (10 : Nat) ^ 4 = 10000 := by decide
    rw [h4]
    simp (disch := omega) only [fX10_turns_5, fX10_turns_56, ↓pl_let, pl_b1, pl_b2, ↓reduceIte, pl_l1000, nI_ltI, show 1000 < 10000 by decide, if_true, pl_k1 hS, hw]
    by_cases h : pl_N A 0 7 0 < pl_sm x y 4
    · rw [if_pos h, if_neg (by omega)]
    · rw [if_neg h, if_pos (by omega)]
theorem pl_doM {A : pl_A} {m : ml_M} (hS : pl_Sh m) (hw : ml_I m 33 23 = nI (pl_N A 0 7 0)) (hw4 : pl_N A 0 7 0 ≤ 4) {x y : Nat} (hx : x < 10000) (hy : y < 10000) : fX11_doesOpen 33 (nI x) (nI y) m = some (if pl_do (pl_N A 0 7 0) x y then 1 else 0) := by
  unfold fX11_doesOpen
  have hl := pl_for (F := fun fu k (_ : Unit) => fX11_doesOpen_14 fu 33 (nI (pl_sm x y k)) (if pl_all (fun k => decide (pl_of2 x y k ≤ 1)) k then 1 else 0) (nI (x / 10 ^ k)) (nI (y / 10 ^ k)) (nI k) m) (R := some (if pl_do (pl_N A 0 7 0) x y then 1 else 0)) 4 (fun _ => ()) (fun fu k hk => ?_) (fun fu => ?_) ml_fu (by rw [pl_fu]; omega)
  · have e0 : fX11_doesOpen_14 ml_fu 33 0 1 (nI x) (nI y) 0 m = fX11_doesOpen_14 ml_fu 33 (nI (pl_sm x y 0)) (if pl_all (fun k => decide (pl_of2 x y k ≤ 1)) 0 then 1 else 0) (nI (x / 10 ^ 0)) (nI (y / 10 ^ 0)) (nI 0) m := by
      rw [Nat.pow_zero, Nat.div_one, Nat.div_one]; rfl
    rw [e0]
    exact hl
  · have hs := pl_sm_le x y k
    have hq1 : x / 10 ^ k < 2 ^ 31 := Nat.lt_of_le_of_lt (Nat.div_le_self _ _) (by omega)
    have hq2 : y / 10 ^ k < 2 ^ 31 := Nat.lt_of_le_of_lt (Nat.div_le_self _ _) (by omega)
    have hd1 : x / 10 ^ (k + 1) = x / 10 ^ k / 10 := by rw [Nat.pow_succ, Nat.div_div_eq_div_mul]
    have hd2 : y / 10 ^ (k + 1) = y / 10 ^ k / 10 := by rw [Nat.pow_succ, Nat.div_div_eq_div_mul]
    have hof : fX11_off (nI (x / 10 ^ k % 10)) (nI (y / 10 ^ k % 10)) m = some (nI (pl_of2 x y k)) := by
      unfold pl_of2
      simp (disch := omega) only [fX11_off, nI_leI]
      by_cases h : y / 10 ^ k % 10 ≤ x / 10 ^ k % 10
      · rw [if_pos h, if_pos h, pk_sub h]
      · rw [if_neg h, if_neg h, pk_sub (by omega)]
    have hle := pl_of2_le x y k
    have hall : pl_all (fun k => decide (pl_of2 x y k ≤ 1)) (k + 1) = (pl_all (fun k => decide (pl_of2 x y k ≤ 1)) k && decide (pl_of2 x y k ≤ 1)) := rfl
    have hsm : pl_sm x y (k + 1) = pl_sm x y k + pl_of2 x y k := rfl
    rw [hall, hsm, hd1, hd2]
    simp (disch := omega) only [fX11_doesOpen_14, fX11_doesOpen_50, fX11_doesOpen_51, ↓pl_let, pl_b1, pl_b2, ↓reduceIte, pl_l1, pl_l2, pl_l3, pl_l4, pl_l5, pl_l6, pl_l7, pl_l8, pl_l9, pl_l10, pl_l11, pl_l12, pl_l13, pl_l14, pl_l15, pl_l16, pl_l17, pl_l18, pl_l19, pl_l20, pl_l21, pl_l22, pl_l23, pl_l24, pl_l25, pl_l26, pl_l27, pl_l28, pl_l29, pl_l30, pl_l31, pl_l32, pl_l33, pl_l34, pl_l35, pl_l36, pl_l37, pl_l38, pl_l39, pl_l40, pl_l41, pl_l42, pl_l43, pl_l44, pl_l45, pl_l46, pl_l47, pl_l48, pl_l49, pl_l50, pl_l51, pl_l52, pl_l53, pl_l54, pl_l55, pl_l56, pl_l57, pl_l58, pl_l59, pl_l60, pl_l61, pl_l62, pl_l63, pl_l64, pl_l99, pl_l100, pl_l119, pl_l120, pl_l255, pl_l256, pl_l999, pl_l1000, pl_l1023, pl_l1024, pl_l1111, pl_l5555, pl_l10240, nI_leI, show ¬ 4 ≤ k by omega, if_false, pk_div, pk_mul, pl_rem3, hof, nI_ltI, nI_add]
    by_cases ha : pl_all (fun k => decide (pl_of2 x y k ≤ 1)) k = true
    · by_cases hp : pl_of2 x y k ≤ 1
      · simp (disch := omega) only [ha, if_true, pl_eq0, Nat.reduceEqDiff, if_false, show ¬ 1 < pl_of2 x y k by omega, decide_eq_true hp, Bool.and_self]
      · simp (disch := omega) only [ha, if_true, pl_eq0, Nat.reduceEqDiff, if_false, show 1 < pl_of2 x y k by omega, decide_eq_false hp, Bool.and_false, Bool.false_eq_true]
    · have ha : pl_all (fun k => decide (pl_of2 x y k ≤ 1)) k = false := by simpa using ha
      simp only [ha, Bool.false_and, Bool.false_eq_true, if_false, if_true]
  · have hs := pl_sm_le x y 4
    unfold pl_do
    simp (disch := omega) only [fX11_doesOpen_14, fX11_doesOpen_78, ↓pl_let, pl_b1, pl_b2, ↓reduceIte, pl_l1, pl_l2, pl_l3, pl_l4, pl_l5, pl_l6, pl_l7, pl_l8, pl_l9, pl_l10, pl_l11, pl_l12, pl_l13, pl_l14, pl_l15, pl_l16, pl_l17, pl_l18, pl_l19, pl_l20, pl_l21, pl_l22, pl_l23, pl_l24, pl_l25, pl_l26, pl_l27, pl_l28, pl_l29, pl_l30, pl_l31, pl_l32, pl_l33, pl_l34, pl_l35, pl_l36, pl_l37, pl_l38, pl_l39, pl_l40, pl_l41, pl_l42, pl_l43, pl_l44, pl_l45, pl_l46, pl_l47, pl_l48, pl_l49, pl_l50, pl_l51, pl_l52, pl_l53, pl_l54, pl_l55, pl_l56, pl_l57, pl_l58, pl_l59, pl_l60, pl_l61, pl_l62, pl_l63, pl_l64, pl_l99, pl_l100, pl_l119, pl_l120, pl_l255, pl_l256, pl_l999, pl_l1000, pl_l1023, pl_l1024, pl_l1111, pl_l5555, pl_l10240, nI_leI, Nat.le_refl, if_true, pl_k33 hS, hw, nI_ltI]
    by_cases ha : pl_all (fun k => decide (pl_of2 x y k ≤ 1)) 4 = true
    · simp (disch := omega) only [ha, if_true, pl_eq0, Nat.reduceEqDiff, if_false, Bool.true_and]
      by_cases h : pl_N A 0 7 0 < pl_sm x y 4
      · rw [if_pos h, decide_eq_false (by omega)]; rfl
      · rw [if_neg h, decide_eq_true (by omega)]; rfl
    · have ha : pl_all (fun k => decide (pl_of2 x y k ≤ 1)) 4 = false := by simpa using ha
      simp only [ha, Bool.false_and, Bool.false_eq_true, if_false, if_true]

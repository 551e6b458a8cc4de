/-! A THING TOLD to both objects. -/
theorem ph_2.wI {a b : Nat} {A B : pl_A} {r : ml_M} (h : ph_2 a b A B r) {q : Nat} (hq : 65 ≤ q ∧ q ≤ 69) (g : Nat → Int32) : ph_2 a b A B (pl_wI r q g) := by
  obtain ⟨h1, h2, f, g', v, w, h3, h4, h5, h6, h7, h8, h9, h10, h11⟩ := h
  have key : ∀ {f : Nat → Nat} {v : ml_M}, ph_R f v r → ph_N f → ph_R f v (pl_wI r q g) := fun {f v} hf hN => by
    obtain ⟨p1, p2, p3, p4⟩ := hf
    refine ⟨p1, p2, p3, fun y hy => ?_⟩
    obtain ⟨e1, e2⟩ := p4 y hy
    refine ⟨e1, fun hk => ?_⟩
    obtain ⟨e3, e4, e5⟩ := e2 hk
    refine ⟨?_, e4, e5⟩
    rw [← e3]
    have := hN y
    rw [pl_I_wI, if_neg (by omega)]
  exact ⟨h1, h2, f, g', v, w, h3, h4, h5, h6, key h7 h10, key h8 h11, h9, h10, h11⟩
/-- c calls later, the law's last row may be another -/
def ph_d (c : Nat) (r r1 : ml_M) : Prop := ml_K r1 69 = ml_K r 69 ∧ ml_n r1 ≤ ml_n r + 1000 * c ∧ ml_s r1 ≤ ml_s r + 14000 * c
theorem ph_d.refl (r : ml_M) : ph_d 0 r r := ⟨rfl, Nat.le_refl _, Nat.le_refl _⟩
theorem ph_d.trans {c d : Nat} {r r1 r2 : ml_M} (h : ph_d c r r1) (h2 : ph_d d r1 r2) : ph_d (c + d) r r2 := ⟨h2.1.trans h.1, by have := h.2.1; have := h2.2.1; omega, by have := h.2.2; have := h2.2.2; omega⟩
theorem ph_d.le {c d : Nat} {r r1 : ml_M} (h : ph_d c r r1) (hcd : c ≤ d) : ph_d d r r1 := ⟨h.1, by have := h.2.1; omega, by have := h.2.2; omega⟩
theorem ph_c.d {c : Nat} {r r1 : ml_M} (h : ph_c c r r1) : ph_d c r r1 := ⟨(h.1 69 (by decide) (by decide)).1, h.2.1, h.2.2⟩
def pw_one (k x : Nat) : Nat := if k = 1 then 1 + x % 6 else if k = 2 then x % 4 else if k = 3 then 10 * (x % 4) + 1 + x / 4 % 3 else if k = 4 then 1 + x % 3 else pw_key x
def pw_oth (nl k x : Nat) : Nat := if k = 2 then 1 + x / 4 % 3 else if k = 3 then x / 16 % nl else if k = 4 then 1 + (pw_one k x + x / 4 % 2) % 3 else 0
def pw_val (k one oth : Nat) : Nat := if k = 2 ∨ k = 4 then 10 * one + oth else one
def pw_nam (k oth : Nat) : Nat := if k = 3 then oth else 0
def pw_tr (nt x : Nat) : Nat := if x / 64 % 4 = 0 then 100 else x / 256 % nt
def pw_wt (x : Nat) : Nat := if x / 32 % 3 = 0 then 1 else 0
/-- a thing that can be told -/
def pw_tok (nl k one oth : Nat) : Prop := (1 ≤ k ∧ k ≤ 5) ∧ (k = 1 → 1 ≤ one ∧ one ≤ 9) ∧ (k = 2 → one ≤ 9 ∧ 1 ≤ oth ∧ oth ≤ 9) ∧ (k = 3 → 1 ≤ one ∧ one ≤ 99 ∧ one % 10 ≠ 0 ∧ oth < nl ∧ oth ≤ 9) ∧ (k = 4 → 1 ≤ one ∧ one ≤ 9 ∧ 1 ≤ oth ∧ oth ≤ 9 ∧ one ≠ oth) ∧ (k = 5 → 1111 ≤ one ∧ one ≤ 5555 ∧ (1 ≤ one / 1000 % 10 ∧ one / 1000 % 10 < 6) ∧ (1 ≤ one / 100 % 10 ∧ one / 100 % 10 < 6) ∧ (1 ≤ one / 10 % 10 ∧ one / 10 % 10 < 6) ∧ (1 ≤ one % 10 ∧ one % 10 < 6))
theorem pw_tokN {nl k x : Nat} (hk : 1 ≤ k ∧ k ≤ 5) (hnl : 2 ≤ nl ∧ nl ≤ 5) : pw_tok nl k (pw_one k x) (pw_oth nl k x) := by
  obtain ⟨k1, k2, k3, k4, k5⟩ := pw_key_d x
  have hm : x / 16 % nl < nl := Nat.mod_lt _ (by omega)
  refine ⟨hk, fun h => ?_, fun h => ?_, fun h => ?_, fun h => ?_, fun h => ?_⟩
  · subst h; show 1 ≤ 1 + x % 6 ∧ 1 + x % 6 ≤ 9; omega
  · subst h; show x % 4 ≤ 9 ∧ 1 ≤ 1 + x / 4 % 3 ∧ 1 + x / 4 % 3 ≤ 9; omega
  · subst h; show 1 ≤ 10 * (x % 4) + 1 + x / 4 % 3 ∧ 10 * (x % 4) + 1 + x / 4 % 3 ≤ 99 ∧ (10 * (x % 4) + 1 + x / 4 % 3) % 10 ≠ 0 ∧ x / 16 % nl < nl ∧ x / 16 % nl ≤ 9
    have h1 : x % 4 < 4 := Nat.mod_lt _ (by decide)
    have h2 : x / 4 % 3 < 3 := Nat.mod_lt _ (by decide)
    generalize x % 4 = p at *
    generalize x / 4 % 3 = q at *
    omega
  · subst h; show 1 ≤ 1 + x % 3 ∧ 1 + x % 3 ≤ 9 ∧ 1 ≤ 1 + (1 + x % 3 + x / 4 % 2) % 3 ∧ 1 + (1 + x % 3 + x / 4 % 2) % 3 ≤ 9 ∧ 1 + x % 3 ≠ 1 + (1 + x % 3 + x / 4 % 2) % 3
    have h1 : x % 3 < 3 := Nat.mod_lt _ (by decide)
    have h2 : x / 4 % 2 < 2 := Nat.mod_lt _ (by decide)
    generalize x % 3 = p at *
    generalize x / 4 % 2 = q at *
    omega
  · subst h
    show 1111 ≤ pw_key x ∧ pw_key x ≤ 5555 ∧ _
    refine ⟨?_, by omega, k2, k3, k4, k5⟩
    unfold pw_key
    omega
theorem pw_tokR {nl k one oth : Nat} (hnl : nl ≤ 5) (h : pw_tok nl k one oth) : pw_tok nl k one (if k = 3 then nl - 1 - oth else oth) := by
  obtain ⟨h0, h1, h2, h3, h4, h5⟩ := h
  refine ⟨h0, h1, fun h => ?_, fun h => ?_, fun h => ?_, h5⟩
  · rw [if_neg (by omega)]; exact h2 h
  · rw [if_pos h]
    obtain ⟨a, b, c, d, e⟩ := h3 h
    exact ⟨a, b, c, by omega, by omega⟩
  · rw [if_neg (by omega)]; exact h4 h
theorem pw_keyN {n : Nat} (h : 1111 ≤ n ∧ n ≤ 5555) (hd : (1 ≤ n / 1000 % 10 ∧ n / 1000 % 10 < 6) ∧ (1 ≤ n / 100 % 10 ∧ n / 100 % 10 < 6) ∧ (1 ≤ n / 10 % 10 ∧ n / 10 % 10 < 6) ∧ (1 ≤ n % 10 ∧ n % 10 < 6)) (m : ml_M) : fX10_isKeyNumber (nI n) m = some 1 := by
  obtain ⟨q, hq⟩ := pw_fu4
  obtain ⟨d1, d2, d3, d4⟩ := hd
  have e1 : n / 10 / 10 = n / 100 := by omega
  have e2 : n / 100 / 10 = n / 1000 := by omega
  have e3 : n / 1000 / 10 = 0 := by omega
  have h01 : ¬ ((1 : Int32) = 0) := by decide
  have w1 : (1 : Int32) ≤ nI (n % 10) ∧ nI (n % 10) ≤ (5 : Int32) := ⟨nI_le (a := 1) d4.1 (by omega), nI_le (b := 5) (by omega) (by decide)⟩
  have w2 : (1 : Int32) ≤ nI (n / 10 % 10) ∧ nI (n / 10 % 10) ≤ (5 : Int32) := ⟨nI_le (a := 1) d3.1 (by omega), nI_le (b := 5) (by omega) (by decide)⟩
  have w3 : (1 : Int32) ≤ nI (n / 100 % 10) ∧ nI (n / 100 % 10) ≤ (5 : Int32) := ⟨nI_le (a := 1) d2.1 (by omega), nI_le (b := 5) (by omega) (by decide)⟩
  have w4 : (1 : Int32) ≤ nI (n / 1000 % 10) ∧ nI (n / 1000 % 10) ≤ (5 : Int32) := ⟨nI_le (a := 1) d1.1 (by omega), nI_le (b := 5) (by omega) (by decide)⟩
  have w0 : (1111 : Int32) ≤ nI n ∧ nI n ≤ (5555 : Int32) := ⟨nI_le (a := 1111) h.1 (by omega), nI_le (b := 5555) h.2 (by decide)⟩
  have rem : ∀ x : Nat, x < 2 ^ 31 → nI x - nI x / (10 : Int32) * (10 : Int32) = nI (x % 10) := fun x hx => by rw [pl_l10, pk_rem hx (by decide) (by decide)]
  have div : ∀ x : Nat, x < 2 ^ 31 → nI x / (10 : Int32) = nI (x / 10) := fun x hx => by rw [pl_l10, pk_div hx (by decide) (by decide)]
  unfold fX10_isKeyNumber
  rw [pl_within, pl_b1, if_pos w0, if_neg h01, hq]
  rw [fX10_isKeyNumber_17, if_neg (by rw [pl_leZ (by omega)]; omega), rem n (by omega), pl_within, pl_b1, if_pos w1, if_neg h01, pl_let, div n (by omega)]
  rw [fX10_isKeyNumber_17, if_neg (by rw [pl_leZ (by omega)]; omega), rem (n / 10) (by omega), pl_within, pl_b1, if_pos w2, if_neg h01, pl_let, div (n / 10) (by omega), e1]
  rw [fX10_isKeyNumber_17, if_neg (by rw [pl_leZ (by omega)]; omega), rem (n / 100) (by omega), pl_within, pl_b1, if_pos w3, if_neg h01, pl_let, div (n / 100) (by omega), e2]
  rw [fX10_isKeyNumber_17, if_neg (by rw [pl_leZ (by omega)]; omega), rem (n / 1000) (by omega), pl_within, pl_b1, if_pos w4, if_neg h01, pl_let, div (n / 1000) (by omega), e3]
  rw [fX10_isKeyNumber_17, if_pos (by decide)]
theorem pw_numO {nl k one oth : Nat} (h : pw_tok nl k one oth) (m : ml_M) : fX10_numberOf (nI k) (nI one) (nI oth) m = some (nI (pw_val k one oth)) := by
  obtain ⟨h0, h1, h2, h3, h4, h5⟩ := h
  have : k = 1 ∨ k = 2 ∨ k = 3 ∨ k = 4 ∨ k = 5 := by omega
  rcases this with rfl | rfl | rfl | rfl | rfl
  · obtain ⟨a, b⟩ := h1 rfl
    have v : pw_val 1 one oth = one := rfl
    rw [v]
    simp (disch := omega) only [fX10_numberOf, ↓pl_let, pl_b1, pl_b2, ↓reduceIte, pl_l1, pl_l2, pl_l3, pl_l4, pl_l5, pl_l6, pl_l7, pl_l8, pl_l9, pl_l10, pl_l11, pl_l12, pl_l13, pl_l14, pl_l15, pl_l16, pl_l17, pl_l18, pl_l19, pl_l20, pl_l21, pl_l22, pl_l23, pl_l24, pl_l25, pl_l26, pl_l27, pl_l28, pl_l29, pl_l30, pl_l31, pl_l32, pl_l33, pl_l34, pl_l35, pl_l36, pl_l37, pl_l38, pl_l39, pl_l40, pl_l41, pl_l42, pl_l43, pl_l44, pl_l45, pl_l46, pl_l47, pl_l48, pl_l49, pl_l50, pl_l51, pl_l52, pl_l53, pl_l54, pl_l55, pl_l56, pl_l57, pl_l58, pl_l59, pl_l60, pl_l61, pl_l62, pl_l63, pl_l64, pl_l99, pl_l100, pl_l119, pl_l120, pl_l255, pl_l256, pl_l999, pl_l1000, pl_l1023, pl_l1024, pl_l1111, pl_l5555, pl_l10240, pl_within, nI_leI, a, b, and_self, if_true, pl_eq0, Nat.reduceEqDiff, if_false]
  · obtain ⟨a, b, c⟩ := h2 rfl
    have v : pw_val 2 one oth = 10 * one + oth := rfl
    have n21 : ¬ (nI 2 = nI 1) := by decide
    rw [v]
    simp (disch := omega) only [fX10_numberOf, ↓pl_let, pl_b1, pl_b2, ↓reduceIte, pl_l1, pl_l2, pl_l3, pl_l4, pl_l5, pl_l6, pl_l7, pl_l8, pl_l9, pl_l10, pl_l11, pl_l12, pl_l13, pl_l14, pl_l15, pl_l16, pl_l17, pl_l18, pl_l19, pl_l20, pl_l21, pl_l22, pl_l23, pl_l24, pl_l25, pl_l26, pl_l27, pl_l28, pl_l29, pl_l30, pl_l31, pl_l32, pl_l33, pl_l34, pl_l35, pl_l36, pl_l37, pl_l38, pl_l39, pl_l40, pl_l41, pl_l42, pl_l43, pl_l44, pl_l45, pl_l46, pl_l47, pl_l48, pl_l49, pl_l50, pl_l51, pl_l52, pl_l53, pl_l54, pl_l55, pl_l56, pl_l57, pl_l58, pl_l59, pl_l60, pl_l61, pl_l62, pl_l63, pl_l64, pl_l99, pl_l100, pl_l119, pl_l120, pl_l255, pl_l256, pl_l999, pl_l1000, pl_l1023, pl_l1024, pl_l1111, pl_l5555, pl_l10240, pl_within, pl_le0, nI_leI, a, b, c, and_self, n21, pl_eq0, Nat.reduceEqDiff, if_false, if_true, pk_mul, nI_add]
  · obtain ⟨a, b, c, d, e⟩ := h3 rfl
    have v : pw_val 3 one oth = one := rfl
    have n31 : ¬ (nI 3 = nI 1) := by decide
    have n32 : ¬ (nI 3 = nI 2) := by decide
    rw [v]
    simp (disch := omega) only [fX10_numberOf, ↓pl_let, pl_b1, pl_b2, ↓reduceIte, pl_l1, pl_l2, pl_l3, pl_l4, pl_l5, pl_l6, pl_l7, pl_l8, pl_l9, pl_l10, pl_l11, pl_l12, pl_l13, pl_l14, pl_l15, pl_l16, pl_l17, pl_l18, pl_l19, pl_l20, pl_l21, pl_l22, pl_l23, pl_l24, pl_l25, pl_l26, pl_l27, pl_l28, pl_l29, pl_l30, pl_l31, pl_l32, pl_l33, pl_l34, pl_l35, pl_l36, pl_l37, pl_l38, pl_l39, pl_l40, pl_l41, pl_l42, pl_l43, pl_l44, pl_l45, pl_l46, pl_l47, pl_l48, pl_l49, pl_l50, pl_l51, pl_l52, pl_l53, pl_l54, pl_l55, pl_l56, pl_l57, pl_l58, pl_l59, pl_l60, pl_l61, pl_l62, pl_l63, pl_l64, pl_l99, pl_l100, pl_l119, pl_l120, pl_l255, pl_l256, pl_l999, pl_l1000, pl_l1023, pl_l1024, pl_l1111, pl_l5555, pl_l10240, pl_within, nI_leI, a, b, and_self, n31, n32, pl_eq0, Nat.reduceEqDiff, pk_div, pk_mul, pl_rem3, c, if_false, if_true]
  · obtain ⟨a, b, c, d, e⟩ := h4 rfl
    have v : pw_val 4 one oth = 10 * one + oth := rfl
    have n41 : ¬ (nI 4 = nI 1) := by decide
    have n42 : ¬ (nI 4 = nI 2) := by decide
    have n43 : ¬ (nI 4 = nI 3) := by decide
    rw [v]
    simp (disch := omega) only [fX10_numberOf, ↓pl_let, pl_b1, pl_b2, ↓reduceIte, pl_l1, pl_l2, pl_l3, pl_l4, pl_l5, pl_l6, pl_l7, pl_l8, pl_l9, pl_l10, pl_l11, pl_l12, pl_l13, pl_l14, pl_l15, pl_l16, pl_l17, pl_l18, pl_l19, pl_l20, pl_l21, pl_l22, pl_l23, pl_l24, pl_l25, pl_l26, pl_l27, pl_l28, pl_l29, pl_l30, pl_l31, pl_l32, pl_l33, pl_l34, pl_l35, pl_l36, pl_l37, pl_l38, pl_l39, pl_l40, pl_l41, pl_l42, pl_l43, pl_l44, pl_l45, pl_l46, pl_l47, pl_l48, pl_l49, pl_l50, pl_l51, pl_l52, pl_l53, pl_l54, pl_l55, pl_l56, pl_l57, pl_l58, pl_l59, pl_l60, pl_l61, pl_l62, pl_l63, pl_l64, pl_l99, pl_l100, pl_l119, pl_l120, pl_l255, pl_l256, pl_l999, pl_l1000, pl_l1023, pl_l1024, pl_l1111, pl_l5555, pl_l10240, pl_within, nI_leI, a, b, c, d, and_self, n41, n42, n43, pl_eq0, Nat.reduceEqDiff, nI_eq, e, if_false, if_true, pk_mul, nI_add]
  · obtain ⟨a, b, c⟩ := h5 rfl
    have v : pw_val 5 one oth = one := rfl
    have n51 : ¬ (nI 5 = nI 1) := by decide
    have n52 : ¬ (nI 5 = nI 2) := by decide
    have n53 : ¬ (nI 5 = nI 3) := by decide
    have n54 : ¬ (nI 5 = nI 4) := by decide
    rw [v]
    simp only [fX10_numberOf, ↓pl_let, pl_b1, pl_b2, ↓reduceIte, pw_keyN ⟨a, b⟩ c m, pl_l1, pl_l2, pl_l3, pl_l4, pl_l5, n51, n52, n53, n54, if_false, if_true]
    rw [if_neg (by decide)]
theorem pw_doT (A : pl_A) {nl k a b one oth : Nat} (h : pw_tok nl k one oth) (hn : pl_N A 0 3 0 < 20) (hnl : pl_N A 0 0 0 = nl) (hab : a ≤ b) (hb : b ≤ 99) : pl_Do (fX10_thing 1 (nI k) (nI a) (nI b) (nI one) (nI oth)) A (nI (pl_N A 0 3 0)) (pl_sR A 4 (pl_N A 0 3 0) (pl_7 k a b (pw_val k one oth) (pw_nam k oth)) 3 (pl_N A 0 3 0 + 1)) := by
  obtain ⟨h0, h1, h2, h3, h4, h5⟩ := id h
  refine pd_thing A (nI one) (nI oth) hn h0 hab hb ?_ ?_ (fun m => pw_numO h m) (fun h => ?_) (fun h => ?_)
  · unfold pw_val
    have : k = 1 ∨ k = 2 ∨ k = 3 ∨ k = 4 ∨ k = 5 := by omega
    rcases this with rfl | rfl | rfl | rfl | rfl
    · have := h1 rfl; simp; omega
    · have := h2 rfl; simp; omega
    · have := h3 rfl; simp; omega
    · have := h4 rfl; simp; omega
    · have := h5 rfl; simp; omega
  · unfold pw_nam
    split
    · rename_i e; exact (h3 e).2.2.2.2
    · exact Nat.zero_le _
  · unfold pw_nam
    rw [if_pos h, hnl]
    exact ⟨rfl, (h3 h).2.2.2.1⟩
  · unfold pw_nam; rw [if_neg h]
/-- what stands of a thing told, laid -/
def pw_A1 (A : pl_A) (k a b v y tr wt : Nat) : pl_A := pl_iA (pl_sR A 4 (pl_N A 0 3 0) (pl_7 k a b v y) 3 (pl_N A 0 3 0 + 1)) (pl_N A 0 3 0) tr wt
theorem pw_A1_n (A : pl_A) (k a b v y tr wt g i j : Nat) : pl_N (pw_A1 A k a b v y tr wt) g i j = if g = 4 ∧ i = pl_N A 0 3 0 then (if j = 4 then wt else if j = 3 then tr else pl_7 k a b v y j) else if g = 0 ∧ i = 3 ∧ j = 0 then pl_N A 0 3 0 + 1 else pl_N A g i j := by
  have e : ∀ a' b' c', pl_N (pl_sR A 4 (pl_N A 0 3 0) (pl_7 k a b v y) 3 (pl_N A 0 3 0 + 1)) a' b' c' = if a' = 4 ∧ b' = pl_N A 0 3 0 then pl_7 k a b v y c' else if a' = 0 ∧ b' = 3 ∧ c' = 0 then pl_N A 0 3 0 + 1 else pl_N A a' b' c' := fun a' b' c' => by
    have h : pl_N (pl_sR A 4 (pl_N A 0 3 0) (pl_7 k a b v y) 3 (pl_N A 0 3 0 + 1)) a' b' c' = if a' = 4 ∧ b' = pl_N A 0 3 0 then pl_7 k a b v y c' else if a' = 0 ∧ b' = 3 ∧ c' = 0 then pl_N A 0 3 0 + 1 else pl_N A a' b' c' := rfl
    exact h
  unfold pw_A1 pl_iA
  rw [pl_N_sN, pl_N_sN, e]
  by_cases h : g = 4 ∧ i = pl_N A 0 3 0
  · obtain ⟨rfl, rfl⟩ := h
    by_cases j4 : j = 4
    · simp [j4]
    · by_cases j3 : j = 3
      · simp [j3]
      · simp [j4, j3]
  · rw [if_neg h, if_neg (fun z => h ⟨z.1, z.2.1⟩), if_neg (fun z => h ⟨z.1, z.2.1⟩), if_neg h]
/-- a thing told to both: alike still -/
theorem pm_thing {A B : pl_A} {nl nt np n : Nat} (h : pm_R A B nl nt np n) {k a b v y tr wt : Nat} (hy : k = 3 → y < nl) : pm_R (pw_A1 A k a b v y tr wt) (pw_A1 B k a b v (if k = 3 then nl - 1 - y else y) tr wt) nl nt np (n + 1) := by
  obtain ⟨⟨⟨a1, b1⟩, ⟨a2, b2⟩, ⟨a3, b3⟩, ⟨a4, b4⟩, ⟨a5, b5⟩, ⟨a6, b6⟩⟩, c1, c2, c3, c4, c5⟩ := h
  have nA : ∀ g i j, pl_N (pw_A1 A k a b v y tr wt) g i j = if g = 4 ∧ i = n then (if j = 4 then wt else if j = 3 then tr else pl_7 k a b v y j) else if g = 0 ∧ i = 3 ∧ j = 0 then n + 1 else pl_N A g i j := fun g i j => by rw [pw_A1_n, a4]
  have nB : ∀ g i j, pl_N (pw_A1 B k a b v (if k = 3 then nl - 1 - y else y) tr wt) g i j = if g = 4 ∧ i = n then (if j = 4 then wt else if j = 3 then tr else pl_7 k a b v (if k = 3 then nl - 1 - y else y) j) else if g = 0 ∧ i = 3 ∧ j = 0 then n + 1 else pl_N B g i j := fun g i j => by rw [pw_A1_n, b4]
  have oA : ∀ g i j, g ≠ 4 → ¬ (g = 0 ∧ i = 3) → pl_N (pw_A1 A k a b v y tr wt) g i j = pl_N A g i j := fun g i j h1 h2 => by rw [nA, if_neg (fun z => h1 z.1), if_neg (fun z => h2 ⟨z.1, z.2.1⟩)]
  have oB : ∀ g i j, g ≠ 4 → ¬ (g = 0 ∧ i = 3) → pl_N (pw_A1 B k a b v (if k = 3 then nl - 1 - y else y) tr wt) g i j = pl_N B g i j := fun g i j h1 h2 => by rw [nB, if_neg (fun z => h1 z.1), if_neg (fun z => h2 ⟨z.1, z.2.1⟩)]
  refine ⟨⟨⟨?_, ?_⟩, ⟨?_, ?_⟩, ⟨?_, ?_⟩, ⟨?_, ?_⟩, ⟨?_, ?_⟩, ⟨?_, ?_⟩⟩, fun l j hl hj => ?_, fun t j ht hj => ?_, fun p j hp hj => ?_, fun i j hj => ?_, fun i hi h3 => ?_⟩
  · rw [oA 0 0 0 (by decide) (by decide)]; exact a1
  · rw [oB 0 0 0 (by decide) (by decide)]; exact b1
  · rw [oA 0 1 0 (by decide) (by decide)]; exact a2
  · rw [oB 0 1 0 (by decide) (by decide)]; exact b2
  · rw [oA 0 2 0 (by decide) (by decide)]; exact a3
  · rw [oB 0 2 0 (by decide) (by decide)]; exact b3
  · rw [nA, if_neg (by omega), if_pos ⟨rfl, rfl, rfl⟩]
  · rw [nB, if_neg (by omega), if_pos ⟨rfl, rfl, rfl⟩]
  · rw [oA 0 7 0 (by decide) (by decide)]; exact a5
  · rw [oB 0 7 0 (by decide) (by decide)]; exact b5
  · rw [oA 0 5 0 (by decide) (by decide)]; exact a6
  · rw [oB 0 5 0 (by decide) (by decide)]; exact b6
  · rw [oA 1 _ j (by decide) (by omega), oB 1 _ j (by decide) (by omega)]; exact c1 l j hl hj
  · rw [oA 2 _ j (by decide) (by omega), oB 2 _ j (by decide) (by omega)]; exact c2 t j ht hj
  · rw [oA 3 _ j (by decide) (by omega), oB 3 _ j (by decide) (by omega)]; exact c3 p j hp hj
  · rw [nA, nB]
    by_cases e : i = n
    · have hp : (4 : Nat) = 4 ∧ i = n := ⟨rfl, e⟩
      rw [if_pos hp, if_pos hp]
      have : j = 0 ∨ j = 1 ∨ j = 2 ∨ j = 3 ∨ j = 4 ∨ j = 5 := by omega
      rcases this with rfl | rfl | rfl | rfl | rfl | rfl <;> rfl
    · rw [if_neg (fun z => e z.2), if_neg (by omega), if_neg (fun z => e z.2), if_neg (by omega)]
      exact c4 i j hj
  · rw [nA] at h3
    rw [nA, nB]
    by_cases e : i = n
    · have hp : (4 : Nat) = 4 ∧ i = n := ⟨rfl, e⟩
      rw [if_pos hp] at h3
      have h3 : k = 3 := h3
      rw [if_pos hp, if_pos hp, if_pos h3]
      exact ⟨hy h3, rfl⟩
    · rw [if_neg (fun z => e z.2), if_neg (by omega)] at h3
      rw [if_neg (fun z => e z.2), if_neg (by omega), if_neg (fun z => e z.2), if_neg (by omega)]
      exact c5 i (by omega) h3

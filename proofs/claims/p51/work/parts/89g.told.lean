/-! THE LAW TELLS A THING. -/
theorem pw_sW (r : ml_M) (G : Nat → Int32) (k : Nat) (v : Int32) : ml_sI (pl_wI r 69 G) 69 k v = pl_wI r 69 (pl_up G k v) := by
  rw [pl_wI_sI, pl_up_0]
theorem pw_s228 {L : Nat} {xs : Nat → Int32} {nt i k a b x one oth : Nat} {r : ml_M} (hK : ml_K r 69 = (20, 64)) (hi : i < 8) (hk : 1 ≤ k ∧ k ≤ 5) (G : Nat → Int32) :
    fL_thing_228 L xs 1 (nI nt) 69 (nI i) (nI k) (nI a) (nI b) (nI x) (nI one) (nI oth) (pl_wI r 69 G) = fL_thing_320 L xs 1 (nI nt) 69 (nI i) (nI k) (nI a) (nI b) (nI x) (nI one) (nI oth) (nI (pw_nam k oth)) (nI (8 * i + 4)) 69 (pl_wI r 69 (pl_up (pl_up (pl_up (pl_up G (8 * i) (nI k)) (8 * i + 1) (nI a)) (8 * i + 2) (nI b)) (8 * i + 3) (nI (pw_val k one oth)))) := by
  have kW : ∀ G, ml_K (pl_wI r 69 G) 69 = (20, 64) := fun G => by rw [pl_K_wI]; exact hK
  have : k = 1 ∨ k = 2 ∨ k = 3 ∨ k = 4 ∨ k = 5 := by omega
  have n0 : nI 0 = (0 : Int32) := nI_0
  rcases this with rfl | rfl | rfl | rfl | rfl
  all_goals
    simp (disch := omega) only [fL_thing_228, fL_thing_285, fL_thing_298, ↓pl_let, pl_b1, pl_b2, ↓reduceIte, pl_l1, pl_l2, pl_l3, pl_l4, pl_l5, pl_l6, pl_l7, pl_l8, pl_l9, pl_l10, pl_l11, pl_l12, pl_l13, pl_l14, pl_l15, pl_l16, pl_l17, pl_l18, pl_l19, pl_l20, pl_l21, pl_l22, pl_l23, pl_l24, pl_l25, pl_l26, pl_l27, pl_l28, pl_l29, pl_l30, pl_l31, pl_l32, pl_l33, pl_l34, pl_l35, pl_l36, pl_l37, pl_l38, pl_l39, pl_l40, pl_l41, pl_l42, pl_l43, pl_l44, pl_l45, pl_l46, pl_l47, pl_l48, pl_l49, pl_l50, pl_l51, pl_l52, pl_l53, pl_l54, pl_l55, pl_l56, pl_l57, pl_l58, pl_l59, pl_l60, pl_l61, pl_l62, pl_l63, pl_l64, pl_l99, pl_l100, pl_l119, pl_l120, pl_l255, pl_l256, pl_l999, pl_l1000, pl_l1023, pl_l1024, pl_l1111, pl_l5555, pl_l10240, pk_mul, nI_add, pl_in, kW, and_self, if_true, nI_clamp, show 8 * i < 64 by omega, show 8 * i + 1 < 64 by omega, show 8 * i + 2 < 64 by omega, show 8 * i + 3 < 64 by omega, pw_sW, nI_eq, Nat.reduceEqDiff, if_false, pw_val, pw_nam, n0, or_false, false_or, true_or, or_true]
theorem pw_s320 {L : Nat} {xs : Nat → Int32} {nt i k a b x one oth : Nat} {r : ml_M} (hK : ml_K r 69 = (20, 64)) (hi : i < 8) (hnt : 2 ≤ nt ∧ nt ≤ 4) (hx : x < 2 ^ 28) (nam : Nat) (G : Nat → Int32) :
    fL_thing_320 L xs 1 (nI nt) 69 (nI i) (nI k) (nI a) (nI b) (nI x) (nI one) (nI oth) (nI nam) (nI (8 * i + 4)) 69 (pl_wI r 69 G) = fL_thing_359 L xs 1 69 (nI i) (nI k) (nI a) (nI b) (nI x) (nI one) (nI oth) (pl_tc (pw_tr nt x)) (nI (8 * i + 5)) 69 (pl_wI r 69 (pl_up G (8 * i + 4) (nI nam))) := by
  have kW : ∀ G, ml_K (pl_wI r 69 G) 69 = (20, 64) := fun G => by rw [pl_K_wI]; exact hK
  have hm : x / 256 % nt < nt := Nat.mod_lt _ (by omega)
  by_cases h : x / 64 % 4 = 0
  · have e : pl_tc (pw_tr nt x) = (-9 : Int32) := by unfold pw_tr; rw [if_pos h]; rfl
    rw [e]
    simp (disch := omega) only [fL_thing_320, fL_thing_345, ↓pl_let, pl_b1, pl_b2, ↓reduceIte, pl_l1, pl_l2, pl_l3, pl_l4, pl_l5, pl_l6, pl_l7, pl_l8, pl_l9, pl_l10, pl_l11, pl_l12, pl_l13, pl_l14, pl_l15, pl_l16, pl_l17, pl_l18, pl_l19, pl_l20, pl_l21, pl_l22, pl_l23, pl_l24, pl_l25, pl_l26, pl_l27, pl_l28, pl_l29, pl_l30, pl_l31, pl_l32, pl_l33, pl_l34, pl_l35, pl_l36, pl_l37, pl_l38, pl_l39, pl_l40, pl_l41, pl_l42, pl_l43, pl_l44, pl_l45, pl_l46, pl_l47, pl_l48, pl_l49, pl_l50, pl_l51, pl_l52, pl_l53, pl_l54, pl_l55, pl_l56, pl_l57, pl_l58, pl_l59, pl_l60, pl_l61, pl_l62, pl_l63, pl_l64, pl_l99, pl_l100, pl_l119, pl_l120, pl_l255, pl_l256, pl_l999, pl_l1000, pl_l1023, pl_l1024, pl_l1111, pl_l5555, pl_l10240, pk_mul, nI_add, pl_in, kW, and_self, if_true, nI_clamp, show 8 * i + 4 < 64 by omega, pw_sW, pl_eq0, show ¬ nt = 0 by omega, if_false, pk_div, pl_rem3, h]
  · have e : pl_tc (pw_tr nt x) = nI (x / 256 % nt) := by unfold pw_tr pl_tc; rw [if_neg h, if_neg (by omega)]
    rw [e]
    simp (disch := omega) only [fL_thing_320, fL_thing_345, ↓pl_let, pl_b1, pl_b2, ↓reduceIte, pl_l1, pl_l2, pl_l3, pl_l4, pl_l5, pl_l6, pl_l7, pl_l8, pl_l9, pl_l10, pl_l11, pl_l12, pl_l13, pl_l14, pl_l15, pl_l16, pl_l17, pl_l18, pl_l19, pl_l20, pl_l21, pl_l22, pl_l23, pl_l24, pl_l25, pl_l26, pl_l27, pl_l28, pl_l29, pl_l30, pl_l31, pl_l32, pl_l33, pl_l34, pl_l35, pl_l36, pl_l37, pl_l38, pl_l39, pl_l40, pl_l41, pl_l42, pl_l43, pl_l44, pl_l45, pl_l46, pl_l47, pl_l48, pl_l49, pl_l50, pl_l51, pl_l52, pl_l53, pl_l54, pl_l55, pl_l56, pl_l57, pl_l58, pl_l59, pl_l60, pl_l61, pl_l62, pl_l63, pl_l64, pl_l99, pl_l100, pl_l119, pl_l120, pl_l255, pl_l256, pl_l999, pl_l1000, pl_l1023, pl_l1024, pl_l1111, pl_l5555, pl_l10240, pk_mul, nI_add, pl_in, kW, and_self, if_true, nI_clamp, show 8 * i + 4 < 64 by omega, pw_sW, pl_eq0, show ¬ nt = 0 by omega, if_false, pk_div, pl_rem3, h, not_false_iff]
theorem pw_s359 {L : Nat} {xs : Nat → Int32} {i k a b x one oth : Nat} {r : ml_M} (hK : ml_K r 69 = (20, 64)) (hi : i < 8) (hx : x < 2 ^ 28) (t : Int32) (G : Nat → Int32) :
    fL_thing_359 L xs 1 69 (nI i) (nI k) (nI a) (nI b) (nI x) (nI one) (nI oth) t (nI (8 * i + 5)) 69 (pl_wI r 69 G) = fL_thing_385 L xs 1 69 (nI i) (nI k) (nI a) (nI b) (nI one) (nI oth) (nI (pw_wt x)) (nI (8 * i + 6)) 69 (pl_wI r 69 (pl_up G (8 * i + 5) t)) := by
  have kW : ∀ G, ml_K (pl_wI r 69 G) 69 = (20, 64) := fun G => by rw [pl_K_wI]; exact hK
  have n0 : nI 0 = (0 : Int32) := nI_0
  by_cases h : x / 32 % 3 = 0
  · have e : pw_wt x = 1 := if_pos h
    rw [e]
    simp (disch := omega) only [fL_thing_359, ↓pl_let, pl_b1, pl_b2, ↓reduceIte, pl_l1, pl_l2, pl_l3, pl_l4, pl_l5, pl_l6, pl_l7, pl_l8, pl_l9, pl_l10, pl_l11, pl_l12, pl_l13, pl_l14, pl_l15, pl_l16, pl_l17, pl_l18, pl_l19, pl_l20, pl_l21, pl_l22, pl_l23, pl_l24, pl_l25, pl_l26, pl_l27, pl_l28, pl_l29, pl_l30, pl_l31, pl_l32, pl_l33, pl_l34, pl_l35, pl_l36, pl_l37, pl_l38, pl_l39, pl_l40, pl_l41, pl_l42, pl_l43, pl_l44, pl_l45, pl_l46, pl_l47, pl_l48, pl_l49, pl_l50, pl_l51, pl_l52, pl_l53, pl_l54, pl_l55, pl_l56, pl_l57, pl_l58, pl_l59, pl_l60, pl_l61, pl_l62, pl_l63, pl_l64, pl_l99, pl_l100, pl_l119, pl_l120, pl_l255, pl_l256, pl_l999, pl_l1000, pl_l1023, pl_l1024, pl_l1111, pl_l5555, pl_l10240, pk_mul, nI_add, pl_in, kW, and_self, if_true, nI_clamp, show 8 * i + 5 < 64 by omega, pw_sW, pk_div, pl_rem3, pl_eq0, h]
  · have e : pw_wt x = 0 := if_neg h
    rw [e]
    simp (disch := omega) only [fL_thing_359, ↓pl_let, pl_b1, pl_b2, ↓reduceIte, pl_l1, pl_l2, pl_l3, pl_l4, pl_l5, pl_l6, pl_l7, pl_l8, pl_l9, pl_l10, pl_l11, pl_l12, pl_l13, pl_l14, pl_l15, pl_l16, pl_l17, pl_l18, pl_l19, pl_l20, pl_l21, pl_l22, pl_l23, pl_l24, pl_l25, pl_l26, pl_l27, pl_l28, pl_l29, pl_l30, pl_l31, pl_l32, pl_l33, pl_l34, pl_l35, pl_l36, pl_l37, pl_l38, pl_l39, pl_l40, pl_l41, pl_l42, pl_l43, pl_l44, pl_l45, pl_l46, pl_l47, pl_l48, pl_l49, pl_l50, pl_l51, pl_l52, pl_l53, pl_l54, pl_l55, pl_l56, pl_l57, pl_l58, pl_l59, pl_l60, pl_l61, pl_l62, pl_l63, pl_l64, pl_l99, pl_l100, pl_l119, pl_l120, pl_l255, pl_l256, pl_l999, pl_l1000, pl_l1023, pl_l1024, pl_l1111, pl_l5555, pl_l10240, pk_mul, nI_add, pl_in, kW, and_self, if_true, nI_clamp, show 8 * i + 5 < 64 by omega, pw_sW, pk_div, pl_rem3, pl_eq0, h, if_false, n0]
/-- the six numbers of thing i that the law keeps -/
def pw_r (r : ml_M) (i k a b v nam tr wt : Nat) : Prop := ml_I r 69 (8 * i) = nI k ∧ ml_I r 69 (8 * i + 1) = nI a ∧ ml_I r 69 (8 * i + 2) = nI b ∧ ml_I r 69 (8 * i + 3) = nI v ∧ ml_I r 69 (8 * i + 4) = nI nam ∧ ml_I r 69 (8 * i + 5) = pl_tc tr ∧ ml_I r 69 (8 * i + 6) = nI wt
theorem pw_told {L : Nat} {xs : Nat → Int32} {A B : pl_A} {r : ml_M} (h : ph_2 1 33 A B r) {nl nt np i : Nat} (hR : pm_R A B nl nt np i) (hK : ml_K r 69 = (20, 64)) (hi : i < 8) (hnl : 2 ≤ nl ∧ nl ≤ 5) (hnt : 2 ≤ nt ∧ nt ≤ 4) {k a b x : Nat} (hk : 1 ≤ k ∧ k ≤ 5) (hab : a ≤ b) (hb : b ≤ 99) (hx : x < 2 ^ 28) :
    ∃ r1, fL_thing_228 L xs 1 (nI nt) 69 (nI i) (nI k) (nI a) (nI b) (nI x) (nI (pw_one k x)) (nI (pw_oth nl k x)) r = some (1, r1) ∧ ph_2 1 33 (pw_A1 A k a b (pw_val k (pw_one k x) (pw_oth nl k x)) (pw_nam k (pw_oth nl k x)) (pw_tr nt x) (pw_wt x)) B r1 ∧ pw_r r1 i k a b (pw_val k (pw_one k x) (pw_oth nl k x)) (pw_nam k (pw_oth nl k x)) (pw_tr nt x) (pw_wt x) ∧ ph_d 2 r r1 := by
  have htok := pw_tokN (x := x) hk hnl
  obtain ⟨one, hone⟩ : ∃ one, one = pw_one k x := ⟨_, rfl⟩
  obtain ⟨oth, hoth⟩ : ∃ oth, oth = pw_oth nl k x := ⟨_, rfl⟩
  rw [← hone, ← hoth] at htok ⊢
  obtain ⟨M, hM⟩ : ∃ M, M = pl_wI r 69 (pl_up (pl_up (pl_up (pl_up (pl_up (pl_up (pl_up (ml_I r 69) (8 * i) (nI k)) (8 * i + 1) (nI a)) (8 * i + 2) (nI b)) (8 * i + 3) (nI (pw_val k one oth))) (8 * i + 4) (nI (pw_nam k oth))) (8 * i + 5) (pl_tc (pw_tr nt x))) (8 * i + 6) (nI (pw_wt x))) := ⟨_, rfl⟩
  have h2 : ph_2 1 33 A B M := by rw [hM]; exact h.wI (by decide) _
  have hrow : pw_r M i k a b (pw_val k one oth) (pw_nam k oth) (pw_tr nt x) (pw_wt x) := by
    unfold pw_r
    rw [hM, pl_I_wI, if_pos rfl]
    refine ⟨?_, ?_, ?_, ?_, ?_, ?_, ?_⟩
    · rw [pl_up_n _ _ (by omega), pl_up_n _ _ (by omega), pl_up_n _ _ (by omega), pl_up_n _ _ (by omega), pl_up_n _ _ (by omega), pl_up_n _ _ (by omega), pl_up_k]
    · rw [pl_up_n _ _ (by omega), pl_up_n _ _ (by omega), pl_up_n _ _ (by omega), pl_up_n _ _ (by omega), pl_up_n _ _ (by omega), pl_up_k]
    · rw [pl_up_n _ _ (by omega), pl_up_n _ _ (by omega), pl_up_n _ _ (by omega), pl_up_n _ _ (by omega), pl_up_k]
    · rw [pl_up_n _ _ (by omega), pl_up_n _ _ (by omega), pl_up_n _ _ (by omega), pl_up_k]
    · rw [pl_up_n _ _ (by omega), pl_up_n _ _ (by omega), pl_up_k]
    · rw [pl_up_n _ _ (by omega), pl_up_k]
    · rw [pl_up_k]
  have hnA : pl_N A 0 3 0 = i := hR.1.2.2.2.1.1
  have hD := pw_doT A htok (by omega) hR.1.1.1 hab hb
  rw [hnA] at hD
  obtain ⟨r1, e1, e2, e3⟩ := xo_thing hD h2 (by decide)
  have hwt : pw_wt x ≤ 1 := by unfold pw_wt; split <;> omega
  have htr : pw_tr nt x = 100 ∨ pw_tr nt x < nt := by
    unfold pw_tr
    split
    · exact Or.inl rfl
    · exact Or.inr (Nat.mod_lt _ (by omega))
  have hm2 : ∀ a' b' c', pl_N (pl_sR A 4 i (pl_7 k a b (pw_val k one oth) (pw_nam k oth)) 3 (i + 1)) a' b' c' = if a' = 4 ∧ b' = i then pl_7 k a b (pw_val k one oth) (pw_nam k oth) c' else if a' = 0 ∧ b' = 3 ∧ c' = 0 then i + 1 else pl_N A a' b' c' := fun a' b' c' => by
    have h : pl_N (pl_sR A 4 i (pl_7 k a b (pw_val k one oth) (pw_nam k oth)) 3 (i + 1)) a' b' c' = if a' = 4 ∧ b' = i then pl_7 k a b (pw_val k one oth) (pw_nam k oth) c' else if a' = 0 ∧ b' = 3 ∧ c' = 0 then i + 1 else pl_N A a' b' c' := rfl
    exact h
  have hL := pd_lies (pl_sR A 4 i (pl_7 k a b (pw_val k one oth) (pw_nam k oth)) 3 (i + 1)) (i := i) (c := pw_tr nt x) (w := pw_wt x) (by rw [hm2, if_neg (by omega), if_pos ⟨rfl, rfl, rfl⟩]; omega) (by rw [hm2, if_neg (by omega), if_neg (by omega), hR.1.2.1.1]; exact htr) hwt
  obtain ⟨r2, f1, f2, f3⟩ := xo_lies hL e2 (by decide)
  have hc := e3.trans f3
  have row1 : ∀ {q}, ph_c q M r1 → ml_I r1 69 = ml_I M 69 := fun hq => (hq.1 69 (by decide) (by decide)).2
  have i69 := row1 e3
  have k69 : ml_K r1 69 = (20, 64) := by rw [(e3.1 69 (by decide) (by decide)).1, hM, pl_K_wI]; exact hK
  refine ⟨r2, ?_, ?_, ?_, ?_⟩
  · have z : r = pl_wI r 69 (ml_I r 69) := (pl_wI_0 r 69).symm
    rw [z, pw_s228 hK hi hk, pw_s320 hK hi hnt hx, pw_s359 hK hi hx]
    have kW : ∀ G, ml_K (pl_wI r 69 G) 69 = (20, 64) := fun G => by rw [pl_K_wI]; exact hK
    have k1 : (ml_K (pl_wI r 69 (pl_up (pl_up (pl_up (pl_up (pl_up (pl_up (pl_up (ml_I r 69) (8 * i) (nI k)) (8 * i + 1) (nI a)) (8 * i + 2) (nI b)) (8 * i + 3) (nI (pw_val k one oth))) (8 * i + 4) (nI (pw_nam k oth))) (8 * i + 5) (pl_tc (pw_tr nt x))) (8 * i + 6) (nI (pw_wt x)))) 1).1 = 10 := by rw [← hM]; exact h2.k (by decide)
    have k10 : (ml_K r1 1).1 = 10 := e2.k (by decide)
    unfold fL_thing_385
    rw [if_pos (by rw [pl_in (by omega), kW]; exact ⟨rfl, by omega⟩), pl_let, nI_clamp (by omega), pw_sW, if_pos k1, ← hM, e1, pl_b2, if_pos rfl]
    have e8 : ∀ j, (8 : Int32) * nI i + nI j = nI (8 * i + j) := fun j => by rw [pl_l8, pk_mul, nI_add]
    rw [pl_l5, pl_l6, e8, e8, if_pos (by rw [pl_in (by omega), k69]; exact ⟨rfl, by omega⟩), if_pos (by rw [pl_in (by omega), k69]; exact ⟨rfl, by omega⟩), nI_clamp (by omega), nI_clamp (by omega), i69, hrow.2.2.2.2.2.1, hrow.2.2.2.2.2.2]
    by_cases w1 : pw_wt x = 1
    · rw [if_pos (by rw [w1]; rfl)]
      unfold fL_thing_438
      rw [w1] at f1
      have f1' : fX10_lies 1 (nI i) (pl_tc (pw_tr nt x)) (1 : Int32) r1 = some (1, r2) := f1
      rw [if_pos k10, f1', pl_b2, if_pos rfl]
    · have w0 : pw_wt x = 0 := by omega
      rw [if_neg (by rw [w0]; decide)]
      unfold fL_thing_438
      rw [w0] at f1
      have f1' : fX10_lies 1 (nI i) (pl_tc (pw_tr nt x)) (0 : Int32) r1 = some (1, r2) := f1
      rw [if_pos k10, f1', pl_b2, if_pos rfl]
  · have e : pw_A1 A k a b (pw_val k one oth) (pw_nam k oth) (pw_tr nt x) (pw_wt x) = pl_iA (pl_sR A 4 i (pl_7 k a b (pw_val k one oth) (pw_nam k oth)) 3 (i + 1)) i (pw_tr nt x) (pw_wt x) := by unfold pw_A1; rw [hnA]
    rw [e]; exact f2
  · have := (hc.1 69 (by decide) (by decide)).2
    unfold pw_r
    rw [this]; exact hrow
  · have hd := hc.d
    refine ⟨?_, ?_, ?_⟩
    · rw [hd.1, hM, pl_K_wI]
    · have := hd.2.1; rw [hM, pl_n_wI] at this; exact this
    · have := hd.2.2; rw [hM, pl_s_wI] at this; exact this

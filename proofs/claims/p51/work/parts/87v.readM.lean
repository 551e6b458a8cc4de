/-! A BOOK READ: the reference's small calls. -/
def pl_hh (M : ml_M) (p v a b c : Int32) : Nat → Int32 := fun j => if j = 15 then p else if j = 16 then v else if j = 17 then a else if j = 18 then b else if j = 19 then c else ml_I M 33 j
/-- the reference while it reads a book -/
def pl_rf (M : ml_M) (p v a b c : Int32) (x y z : Nat → Int32) : ml_M := pl_wI (pl_wI (pl_wI (pl_wI M 33 (pl_hh M p v a b c)) 43 x) 44 y) 45 z
theorem pl_rf_K (M : ml_M) (p v a b c : Int32) (x y z : Nat → Int32) : ml_K (pl_rf M p v a b c x y z) = ml_K M := rfl
theorem pl_rf_R (M : ml_M) (p v a b c : Int32) (x y z : Nat → Int32) : ml_R (pl_rf M p v a b c x y z) = ml_R M := rfl
theorem pl_rf_o (M : ml_M) (p v a b c : Int32) (x y z : Nat → Int32) {q : Nat} (h : q ≠ 33 ∧ q ≠ 43 ∧ q ≠ 44 ∧ q ≠ 45) : ml_I (pl_rf M p v a b c x y z) q = ml_I M q := by
  unfold pl_rf
  rw [pl_I_wI, if_neg h.2.2.2, pl_I_wI, if_neg h.2.2.1, pl_I_wI, if_neg h.2.1, pl_I_wI, if_neg h.1]
theorem pl_rf_33 (M : ml_M) (p v a b c : Int32) (x y z : Nat → Int32) : ml_I (pl_rf M p v a b c x y z) 33 = pl_hh M p v a b c := by
  unfold pl_rf
  rw [pl_I_wI, if_neg (by decide), pl_I_wI, if_neg (by decide), pl_I_wI, if_neg (by decide), pl_I_wI, if_pos rfl]
theorem pl_rf_43 (M : ml_M) (p v a b c : Int32) (x y z : Nat → Int32) : ml_I (pl_rf M p v a b c x y z) 43 = x := by
  unfold pl_rf
  rw [pl_I_wI, if_neg (by decide), pl_I_wI, if_neg (by decide), pl_I_wI, if_pos rfl]
theorem pl_rf_44 (M : ml_M) (p v a b c : Int32) (x y z : Nat → Int32) : ml_I (pl_rf M p v a b c x y z) 44 = y := by
  unfold pl_rf
  rw [pl_I_wI, if_neg (by decide), pl_I_wI, if_pos rfl]
theorem pl_rf_45 (M : ml_M) (p v a b c : Int32) (x y z : Nat → Int32) : ml_I (pl_rf M p v a b c x y z) 45 = z := by
  unfold pl_rf
  rw [pl_I_wI, if_pos rfl]
theorem pl_hh_15 (M : ml_M) (p v a b c : Int32) : pl_hh M p v a b c 15 = p := by have h : pl_hh M p v a b c 15 = p := rfl; exact h
theorem pl_hh_16 (M : ml_M) (p v a b c : Int32) : pl_hh M p v a b c 16 = v := by have h : pl_hh M p v a b c 16 = v := rfl; exact h
theorem pl_hh_17 (M : ml_M) (p v a b c : Int32) : pl_hh M p v a b c 17 = a := by have h : pl_hh M p v a b c 17 = a := rfl; exact h
theorem pl_hh_18 (M : ml_M) (p v a b c : Int32) : pl_hh M p v a b c 18 = b := by have h : pl_hh M p v a b c 18 = b := rfl; exact h
theorem pl_hh_19 (M : ml_M) (p v a b c : Int32) : pl_hh M p v a b c 19 = c := by have h : pl_hh M p v a b c 19 = c := rfl; exact h
theorem pl_hh_o (M : ml_M) (p v a b c : Int32) {j : Nat} (h : j < 15 ∨ 19 < j) : pl_hh M p v a b c j = ml_I M 33 j := by
  unfold pl_hh
  rw [if_neg (by omega), if_neg (by omega), if_neg (by omega), if_neg (by omega), if_neg (by omega)]
theorem pl_rf_s33 (M : ml_M) (p v a b c : Int32) (x y z : Nat → Int32) (k : Nat) (w : Int32) : ml_sI (pl_rf M p v a b c x y z) 33 k w = pl_wI (pl_wI (pl_wI (pl_wI M 33 (pl_up (pl_hh M p v a b c) k w)) 43 x) 44 y) 45 z := by
  unfold pl_rf
  rw [pl_sIsw _ (by decide), pl_sIsw _ (by decide), pl_sIsw _ (by decide), pl_wI_sI]; rfl
theorem pl_rf_s15 (M : ml_M) (p v a b c : Int32) (x y z : Nat → Int32) (w : Int32) : ml_sI (pl_rf M p v a b c x y z) 33 15 w = pl_rf M w v a b c x y z := by
  rw [pl_rf_s33]
  have e : pl_up (pl_hh M p v a b c) 15 w = pl_hh M w v a b c := by
    funext j; unfold pl_up pl_hh
    by_cases h : j = 15
    · rw [if_pos h, if_pos h]
    · rw [if_neg h, if_neg h, if_neg h]
  rw [e]; rfl
theorem pl_rf_s16 (M : ml_M) (p v a b c : Int32) (x y z : Nat → Int32) (w : Int32) : ml_sI (pl_rf M p v a b c x y z) 33 16 w = pl_rf M p w a b c x y z := by
  rw [pl_rf_s33]
  have e : pl_up (pl_hh M p v a b c) 16 w = pl_hh M p w a b c := by
    funext j; unfold pl_up pl_hh
    by_cases h : j = 16
    · rw [if_pos h, if_neg (by omega), if_pos h]
    · rw [if_neg h, if_neg h, if_neg h]
  rw [e]; rfl
theorem pl_rf_s17 (M : ml_M) (p v a b c : Int32) (x y z : Nat → Int32) (w : Int32) : ml_sI (pl_rf M p v a b c x y z) 33 17 w = pl_rf M p v w b c x y z := by
  rw [pl_rf_s33]
  have e : pl_up (pl_hh M p v a b c) 17 w = pl_hh M p v w b c := by
    funext j; unfold pl_up pl_hh
    by_cases h : j = 17
    · rw [if_pos h, if_neg (by omega), if_neg (by omega), if_pos h]
    · rw [if_neg h, if_neg h, if_neg h]
  rw [e]; rfl
theorem pl_rf_s18 (M : ml_M) (p v a b c : Int32) (x y z : Nat → Int32) (w : Int32) : ml_sI (pl_rf M p v a b c x y z) 33 18 w = pl_rf M p v a w c x y z := by
  rw [pl_rf_s33]
  have e : pl_up (pl_hh M p v a b c) 18 w = pl_hh M p v a w c := by
    funext j; unfold pl_up pl_hh
    by_cases h : j = 18
    · rw [if_pos h, if_neg (by omega), if_neg (by omega), if_neg (by omega), if_pos h]
    · rw [if_neg h, if_neg h, if_neg h]
  rw [e]; rfl
theorem pl_rf_s19 (M : ml_M) (p v a b c : Int32) (x y z : Nat → Int32) (w : Int32) : ml_sI (pl_rf M p v a b c x y z) 33 19 w = pl_rf M p v a b w x y z := by
  rw [pl_rf_s33]
  have e : pl_up (pl_hh M p v a b c) 19 w = pl_hh M p v a b w := by
    funext j; unfold pl_up pl_hh
    by_cases h : j = 19
    · rw [if_pos h, if_neg (by omega), if_neg (by omega), if_neg (by omega), if_neg (by omega), if_pos h]
    · rw [if_neg h, if_neg h, if_neg h]
  rw [e]; rfl
theorem pl_rf_s43 (M : ml_M) (p v a b c : Int32) (x y z : Nat → Int32) (k : Nat) (w : Int32) : ml_sI (pl_rf M p v a b c x y z) 43 k w = pl_rf M p v a b c (pl_up x k w) y z := by
  unfold pl_rf
  rw [pl_sIsw _ (by decide), pl_sIsw _ (by decide), pl_wI_sI]; rfl
theorem pl_rf_s44 (M : ml_M) (p v a b c : Int32) (x y z : Nat → Int32) (k : Nat) (w : Int32) : ml_sI (pl_rf M p v a b c x y z) 44 k w = pl_rf M p v a b c x (pl_up y k w) z := by
  unfold pl_rf
  rw [pl_sIsw _ (by decide), pl_wI_sI]; rfl
theorem pl_rf_s45 (M : ml_M) (p v a b c : Int32) (x y z : Nat → Int32) (k : Nat) (w : Int32) : ml_sI (pl_rf M p v a b c x y z) 45 k w = pl_rf M p v a b c x y (pl_up z k w) := by
  unfold pl_rf
  rw [pl_wI_sI]; rfl
/-- text t as the reference has it -/
def pl_txM (M : ml_M) (t L : Nat) (f : Nat → Int32) : Prop := pl_Sh M ∧ t < 4 ∧ L ≤ 120 ∧ ml_I M 38 t = nI L ∧ (∀ j, j < L → ml_I M 39 (120 * t + j) = f j) ∧ ∀ j, j < L → pl_by (f j)
theorem pl_btM {M : ml_M} {t L : Nat} {f : Nat → Int32} (h : pl_txM M t L f) {q : Nat} (hq : q ≤ L) (p v a b c : Int32) (x y z : Nat → Int32) : fX11_byteAt 33 (nI t) (nI q) (pl_rf M p v a b c x y z) = some (if q < L then f q else 0) := by
  obtain ⟨hS, h1, h2, h3, h4, h5⟩ := h
  have i38 : ml_I (pl_rf M p v a b c x y z) 38 = ml_I M 38 := pl_rf_o _ _ _ _ _ _ _ _ _ (by decide)
  have i39 : ml_I (pl_rf M p v a b c x y z) 39 = ml_I M 39 := pl_rf_o _ _ _ _ _ _ _ _ _ (by decide)
  have e120 : (120 : Int32) = nI 120 := rfl
  by_cases hl : q < L
  · have h4' := h4 q hl
    rw [if_pos hl]
    simp (disch := omega) only [fX11_byteAt, ↓pl_let, pl_b1, pl_b2, ↓reduceIte, pl_rf_K, pl_rf_R, pl_k33 hS, if_true, pl_r33_7 hS, pl_r33_8 hS, pl_in, nI_clamp, pl_k38 hS, pl_k39 hS, h1, and_self, i38, h3, nI_leI, show ¬ L ≤ q by omega, if_false, e120, pk_mul, nI_add, show 120 * t + q < 480 by omega, i39, h4']
  · rw [if_neg hl]
    simp (disch := omega) only [fX11_byteAt, ↓pl_let, pl_b1, pl_b2, ↓reduceIte, pl_rf_K, pl_rf_R, pl_k33 hS, if_true, pl_r33_7 hS, pl_in, nI_clamp, pl_k38 hS, h1, and_self, i38, h3, nI_leI, show L ≤ q by omega]
theorem pl_figM {M : ml_M} {t L : Nat} {f : Nat → Int32} (h : pl_txM M t L f) {a c p : Nat} (ha : a ≤ 10) (hc : c ≤ 10) (hp : p ≤ L) (v n1 n2 n3 : Int32) (x y z : Nat → Int32) :
    ((pl_fg f L a c (p, 0)).2.2 = 0 ∧ fX11_figure 33 (nI t) (nI a) (nI c - 1) (pl_rf M (nI p) v n1 n2 n3 x y z) = some (1, pl_rf M (nI (pl_fg f L a c (p, 0)).2.1) (nI (pl_fg f L a c (p, 0)).1) n1 n2 n3 x y z)) ∨
    ((pl_fg f L a c (p, 0)).2 = (p, p + 1) ∧ ∃ v', fX11_figure 33 (nI t) (nI a) (nI c - 1) (pl_rf M (nI p) v n1 n2 n3 x y z) = some (0, pl_rf M (nI p) v' n1 n2 n3 x y z)) := by
  have hS := h.1
  have hb := fun v => pl_btM h hp (nI p) v n1 n2 n3 x y z
  have k33 := pl_k33 hS
  have e9 : nI 10 - 1 = (9 : Int32) := by decide
  have e0 : nI 0 = (0 : Int32) := rfl
  have hL := h.2.2.1
  unfold pl_fg
  rw [if_pos rfl]
  by_cases hv : pl_fgv f L a c p = true
  · left
    obtain ⟨v1, v2, v3, v4, v5⟩ := pl_fgv_n hv ha hc
    rw [if_pos hv]
    refine ⟨rfl, ?_⟩
    have hw := (pl_byW (h.2.2.2.2.2 p v1) ha hc).mpr (of_decide_eq_true hv).2
    have hw9 : 0 ≤ nI (pl_fn f p) ∧ nI (pl_fn f p) ≤ 9 := ⟨nI_pos' (by omega), nI_le (b := 9) (by omega) (by decide)⟩
    rw [v5] at hw
    have hb' := hb v
    rw [if_pos v1] at hb'
    simp (disch := omega) only [fX11_figure, fX11_figure_46, fX11_figure_63, ↓pl_let, pl_b1, pl_b2, ↓reduceIte, pl_rf_K, k33, if_true, pl_rf_33, pl_hh_15, pl_hh_16, hb', pl_rf_s16, pl_rf_s15, v5, pl_inM, hw, hw9, and_self, pl_10, if_false, nI_1, or_true]
  · right
    rw [if_neg hv]
    refine ⟨rfl, ?_⟩
    by_cases hl : p < L
    · have hb' := hb v
      rw [if_pos hl] at hb'
      refine ⟨f p - 48, ?_⟩
      have hw := pl_byW (h.2.2.2.2.2 p hl) ha hc
      have hno : ¬ (nI a ≤ f p - 48 ∧ f p - 48 ≤ nI c - 1) := fun q => hv (decide_eq_true ⟨hl, hw.mp q⟩)
      by_cases h9 : 0 ≤ f p - 48 ∧ f p - 48 ≤ 9
      · simp (disch := omega) only [fX11_figure, fX11_figure_45, fX11_figure_46, fX11_figure_63, ↓pl_let, pl_b1, pl_b2, ↓reduceIte, pl_rf_K, k33, if_true, pl_rf_33, pl_hh_15, pl_hh_16, hb', pl_rf_s16, pl_rf_s15, pl_inM, h9, hno, and_self, pl_10, if_false, Int32.add_zero, true_or]
      · simp (disch := omega) only [fX11_figure, fX11_figure_45, fX11_figure_46, fX11_figure_63, ↓pl_let, pl_b1, pl_b2, ↓reduceIte, pl_rf_K, k33, if_true, pl_rf_33, pl_hh_15, pl_hh_16, hb', pl_rf_s16, pl_rf_s15, pl_inM, h9, if_false, Int32.add_zero, true_or]
    · have hb' := hb v
      rw [if_neg hl] at hb'
      refine ⟨0 - 48, ?_⟩
      have h9 : ¬ (0 ≤ (0 : Int32) - 48 ∧ (0 : Int32) - 48 ≤ 9) := by decide
      simp (disch := omega) only [fX11_figure, fX11_figure_45, fX11_figure_46, fX11_figure_63, ↓pl_let, pl_b1, pl_b2, ↓reduceIte, pl_rf_K, k33, if_true, pl_rf_33, pl_hh_15, pl_hh_16, hb', pl_rf_s16, pl_rf_s15, pl_inM, h9, if_false, Int32.add_zero, true_or]
theorem pl_sgnM {M : ml_M} {t L : Nat} {f : Nat → Int32} (h : pl_txM M t L f) {c : Int32} (hc : c ≠ 0) {p : Nat} (hp : p ≤ L) (v n1 n2 n3 : Int32) (x y z : Nat → Int32) :
    ((pl_sgn f L c (p, 0)).2 = 0 ∧ fX11_sign 33 (nI t) c (pl_rf M (nI p) v n1 n2 n3 x y z) = some (1, pl_rf M (nI (pl_sgn f L c (p, 0)).1) v n1 n2 n3 x y z)) ∨
    (pl_sgn f L c (p, 0) = (p, p + 1) ∧ fX11_sign 33 (nI t) c (pl_rf M (nI p) v n1 n2 n3 x y z) = some (0, pl_rf M (nI p) v n1 n2 n3 x y z)) := by
  have hS := h.1
  have hb := pl_btM h hp (nI p) v n1 n2 n3 x y z
  have k33 := pl_k33 hS
  unfold pl_sgn
  rw [if_pos rfl]
  by_cases hv : p < L ∧ f p = c
  · left
    rw [if_pos hv]
    refine ⟨rfl, ?_⟩
    rw [if_pos hv.1, hv.2] at hb
    simp (disch := omega) only [fX11_sign, fX11_sign_18, fX11_sign_33, ↓pl_let, pl_b1, pl_b2, ↓reduceIte, pl_rf_K, k33, if_true, pl_rf_33, pl_hh_15, hb, pl_10, if_false, pl_rf_s15, nI_1, or_true]
  · right
    rw [if_neg hv]
    refine ⟨rfl, ?_⟩
    have hne : ¬ (if p < L then f p else 0) = c := by
      by_cases hl : p < L
      · rw [if_pos hl]; exact fun q => hv ⟨hl, q⟩
      · rw [if_neg hl]; exact fun q => hc q.symm
    simp (disch := omega) only [fX11_sign, fX11_sign_18, fX11_sign_33, ↓pl_let, pl_b1, pl_b2, ↓reduceIte, pl_rf_K, k33, if_true, pl_rf_33, pl_hh_15, hb, hne, if_false, pl_rf_s15, Int32.add_zero, true_or]
theorem pl_yrM {M : ml_M} {t L : Nat} {f : Nat → Int32} (h : pl_txM M t L f) {p low : Nat} (hlow : low ≤ 99) (hp : p ≤ L) (v n1 n2 n3 : Int32) (x y z : Nat → Int32) :
    ((pl_yrp f L (p, 0)).2.2 = 0 ∧ fX11_year 33 (nI t) (nI low) (pl_rf M (nI p) v n1 n2 n3 x y z) = some (if low ≤ (pl_yrp f L (p, 0)).1 then 1 else 0, pl_rf M (nI (pl_yrp f L (p, 0)).2.1) (nI (pl_yrp f L (p, 0)).1) n1 n2 n3 x y z)) ∨
    ((pl_yrp f L (p, 0)).2 = (p, p + 1) ∧ ∃ v', fX11_year 33 (nI t) (nI low) (pl_rf M (nI p) v n1 n2 n3 x y z) = some (0, pl_rf M (nI p) v' n1 n2 n3 x y z)) := by
  have hS := h.1
  have k33 := pl_k33 hS
  have hL := h.2.2.1
  have e2 : (2 : Int32) = nI 2 := rfl
  have e0 : (0 : Int32) = nI 0 := rfl
  have e48 : (48 : Int32) = nI 48 := rfl
  have e57 : (57 : Int32) = nI 57 := rfl
  have e10 : (10 : Int32) = nI 10 := rfl
  -- the end
  have hend : ∀ q i w, i ≤ 2 → w ≤ 99 → fX11_year_65 33 (nI low) (nI i) (nI w) (pl_rf M (nI q) v n1 n2 n3 x y z) = some (if i = 0 then 0 else if low ≤ w then 1 else 0, pl_rf M (nI q) (nI w) n1 n2 n3 x y z) := fun q i w hi hw => by
    unfold fX11_year_65
    rw [pl_rf_K, if_pos (by rw [k33]), pl_rf_s16, pl_let]
    by_cases h0 : i = 0
    · rw [if_pos h0, h0, if_pos (by decide)]
    · rw [if_neg h0, if_neg (by rw [e0, nI_leI (by omega) (by omega)]; omega)]
      by_cases hw2 : low ≤ w
      · rw [if_pos hw2, if_neg (by rw [nI_ltI (by omega) (by omega)]; omega)]
      · rw [if_neg hw2, if_pos (by rw [nI_ltI (by omega) (by omega)]; omega)]
  have hin : ∀ q, q ≤ L → ∀ X, fX11_in (if q < L then f q else 0) 48 57 X = some (if pl_fgv f L 0 10 q = true then 1 else 0) := fun q hq X => by
    rw [pl_inM]
    by_cases hl : q < L
    · rw [if_pos hl]
      by_cases hv : pl_fgv f L 0 10 q = true
      · obtain ⟨v1, v2, v3, v4, v5⟩ := pl_fgv_n hv (by decide) (by decide)
        rw [if_pos hv, if_pos]
        rw [v2, e48, e57, nI_leI (by omega) (by omega), nI_leI (by omega) (by omega)]
        exact ⟨by omega, by omega⟩
      · rw [if_neg hv, if_neg]
        intro q2
        refine hv (decide_eq_true ⟨hl, q2.1, ?_⟩)
        rcases pk_ix (f q) (n := 58) (by omega) with hx | hx | ⟨j, hj, he⟩
        · exact Int32.lt_of_lt_of_le hx (nI_pos' (by omega))
        · exact absurd (Int32.le_trans hx q2.2) (by decide)
        · rw [he]; exact nI_lt hj (by omega)
    · rw [if_neg hl, if_neg (by decide), if_neg (fun q2 => hl (of_decide_eq_true q2).1)]
  have hstop : ∀ fu q i w, i < 2 → q ≤ L → pl_fgv f L 0 10 q = false → fX11_year_5 (fu + 1) 33 (nI t) (nI low) (nI i) (nI w) (pl_rf M (nI q) v n1 n2 n3 x y z) = fX11_year_65 33 (nI low) (nI i) (nI w) (pl_rf M (nI q) v n1 n2 n3 x y z) := fun fu q i w hi hq hv => by
    have hb := pl_btM h hq (nI q) v n1 n2 n3 x y z
    have hi2 := hin q hq (pl_rf M (nI q) v n1 n2 n3 x y z)
    rw [hv, if_neg Bool.false_ne_true] at hi2
    rw [fX11_year_5, e2, if_neg (by rw [nI_leI (by omega) (by omega)]; omega), pl_rf_K, if_pos (by rw [k33]), pl_rf_33, pl_hh_15, hb, pl_b1, hi2, pl_b1, if_pos rfl]
  have hstep : ∀ fu q i w, i < 2 → q ≤ L → w ≤ 9 → pl_fgv f L 0 10 q = true → fX11_year_5 (fu + 1) 33 (nI t) (nI low) (nI i) (nI w) (pl_rf M (nI q) v n1 n2 n3 x y z) = fX11_year_5 fu 33 (nI t) (nI low) (nI (i + 1)) (nI (10 * w + pl_fn f q)) (pl_rf M (nI (q + 1)) v n1 n2 n3 x y z) := fun fu q i w hi hq hw hv => by
    have hb := pl_btM h hq (nI q) v n1 n2 n3 x y z
    have hi2 := hin q hq (pl_rf M (nI q) v n1 n2 n3 x y z)
    obtain ⟨v1, v2, v3, v4, v5⟩ := pl_fgv_n hv (by decide) (by decide)
    rw [hv, if_pos rfl] at hi2
    rw [if_pos v1] at hb hi2
    have hval : (10 : Int32) * nI w + f q - 48 = nI (10 * w + pl_fn f q) := by
      rw [v2, e10, e48, pk_mul, nI_add, pl_sub (by omega), show 10 * w + (48 + pl_fn f q) - 48 = 10 * w + pl_fn f q by omega]
    rw [fX11_year_5, e2, if_neg (by rw [nI_leI (by omega) (by omega)]; omega), pl_rf_K, if_pos (by rw [k33]), pl_rf_33, pl_hh_15, hb, pl_b1, hi2, pl_b1, if_neg (show ¬ (1 : Int32) = 0 by decide), pl_b1, hval, pl_let, nI_1, pl_rf_s15, pl_let, nI_1]
  have hlast : ∀ fu q w, fX11_year_5 (fu + 1) 33 (nI t) (nI low) (nI 2) (nI w) (pl_rf M (nI q) v n1 n2 n3 x y z) = fX11_year_65 33 (nI low) (nI 2) (nI w) (pl_rf M (nI q) v n1 n2 n3 x y z) := fun fu q w => by
    rw [fX11_year_5, e2, if_pos (by decide)]
  obtain ⟨fu, hfu⟩ : ∃ q, ml_fu = q + 1 + 1 + 1 := ⟨4194301, by rw [pl_fu]⟩
  have hyr : fX11_year 33 (nI t) (nI low) (pl_rf M (nI p) v n1 n2 n3 x y z) = fX11_year_5 (fu + 1 + 1 + 1) 33 (nI t) (nI low) (nI 0) (nI 0) (pl_rf M (nI p) v n1 n2 n3 x y z) := by
    unfold fX11_year
    rw [hfu]; rfl
  rw [hyr]
  by_cases h1 : pl_fgv f L 0 10 p = true
  · obtain ⟨v1, v2, v3, v4, v5⟩ := pl_fgv_n h1 (by decide) (by decide)
    have hfg : pl_fg f L 0 10 (p, 0) = (pl_fn f p, (p + 1, 0)) := by unfold pl_fg; rw [if_pos rfl, if_pos h1]
    left
    rw [hstep _ _ _ _ (by decide) hp (by decide) h1, show 10 * 0 + pl_fn f p = pl_fn f p by omega, show 0 + 1 = 1 from rfl]
    by_cases h2 : pl_fgv f L 0 10 (p + 1) = true
    · obtain ⟨w1, w2, w3, w4, w5⟩ := pl_fgv_n h2 (by decide) (by decide)
      have hfg2 : pl_fg f L 0 10 (p + 1, 0) = (pl_fn f (p + 1), (p + 1 + 1, 0)) := by unfold pl_fg; rw [if_pos rfl, if_pos h2]
      have hy : pl_yrp f L (p, 0) = (10 * pl_fn f p + pl_fn f (p + 1), (p + 1 + 1, 0)) := by
        unfold pl_yrp
        rw [hfg]
        dsimp only
        rw [hfg2, if_pos ⟨rfl, h2⟩]
      rw [hy, hstep _ (p + 1) _ _ (by decide) (show p + 1 ≤ L from v1) (by omega) h2, hlast, hend _ _ _ (by decide) (by omega), if_neg (by decide)]
      exact ⟨rfl, rfl⟩
    · have h20 : pl_fgv f L 0 10 (p + 1) = false := by simpa using h2
      have hy : pl_yrp f L (p, 0) = (pl_fn f p, (p + 1, 0)) := by
        unfold pl_yrp
        rw [hfg]
        dsimp only
        rw [if_neg (fun q => h2 q.2)]
      rw [hy, hstop _ (p + 1) _ _ (by decide) (show p + 1 ≤ L from v1) h20, hend _ _ _ (by decide) (by omega), if_neg (by decide)]
      exact ⟨rfl, rfl⟩
  · have h10 : pl_fgv f L 0 10 p = false := by simpa using h1
    have hfg : pl_fg f L 0 10 (p, 0) = (0, (p, p + 1)) := by unfold pl_fg; rw [if_pos rfl, if_neg h1]
    right
    have hy : pl_yrp f L (p, 0) = (0, (p, p + 1)) := by
      unfold pl_yrp
      rw [hfg]
      dsimp only
      rw [if_neg (fun q => absurd q.1 (Nat.succ_ne_zero _))]
    rw [hy, hstop _ _ _ _ (by decide) hp h10, hend _ _ _ (by decide) (by decide), if_pos rfl]
    exact ⟨rfl, _, rfl⟩

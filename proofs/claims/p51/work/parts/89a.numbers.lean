/-! THE LAW'S NUMBERS: cells of the script, the house by numbers. -/
theorem pw_for {σ α : Type} {F : Nat → Nat → σ → Option α} {Inv : Nat → σ → Prop} {Post : Option α → Prop} (N : Nat) (hs : ∀ fu i s, i < N → Inv i s → ∃ s', F (fu + 1) i s = F fu (i + 1) s' ∧ Inv (i + 1) s') (he : ∀ fu s, Inv N s → Post (F (fu + 1) N s)) (fu : Nat) (hf : N < fu) (s0 : σ) (h0 : Inv 0 s0) : Post (F fu 0 s0) := by
  have : ∀ d i fu s, i + d = N → d < fu → Inv i s → Post (F fu i s) := by
    intro d
    induction d with
    | zero =>
      intro i fu s hi hf hv
      obtain ⟨fu, rfl⟩ : ∃ k, fu = k + 1 := ⟨fu - 1, by omega⟩
      have : i = N := by omega
      subst this
      exact he fu s hv
    | succ d ih =>
      intro i fu s hi hf hv
      obtain ⟨fu, rfl⟩ : ∃ k, fu = k + 1 := ⟨fu - 1, by omega⟩
      obtain ⟨s', e, hv'⟩ := hs fu i s (by omega) hv
      rw [e]
      exact ih (i + 1) fu s' (by omega) (by omega) hv'
  exact this N 0 fu s0 (by omega) hf h0
def pw_c (L : Nat) (xs : Nat → Int32) (k : Nat) : Nat := if L ≤ k then (61 * k + 7) * (k + 3) else (xs k).toBitVec.toNat % 2 ^ 28
theorem pw_c_lt (L : Nat) (xs : Nat → Int32) {k : Nat} (hk : k ≤ 1000) : pw_c L xs k < 2 ^ 28 := by
  unfold pw_c
  split
  · have h1 : 61 * k + 7 ≤ 61007 := by omega
    have h2 : k + 3 ≤ 1003 := by omega
    have h3 := Nat.mul_le_mul h1 h2
    have h4 : 61007 * 1003 < 2 ^ 28 := by decide
    omega
  · exact Nat.mod_lt _ (by decide)
theorem pw_cell {L : Nat} (hL : L ≤ 1000) (xs : Nat → Int32) {k : Nat} (hk : k ≤ 1000) (m : ml_M) : fL_cell L xs (nI k) m = some (nI (pw_c L xs k)) := by
  unfold fL_cell pw_c
  rw [pl_ofN]
  by_cases h : L ≤ k
  · rw [if_pos (nI_le h (by omega)), if_pos h]
    simp only [pl_l61, pl_l7, pl_l3, pk_mul, nI_add]
  · rw [if_neg (fun z => h ((nI_leI (by omega) (by omega)).mp z)), if_neg h, if_pos (by rw [pl_lt0 (by omega), nI_clamp (by omega)]; simp only [false_or]; exact h), nI_clamp (by omega), pk_and _ 28 (by rfl)]
/-- lodgers, trunks, piles by numbers -/
def pw_l (c : Nat → Nat) (i j : Nat) : Nat := if j = 0 then c (10 + 5 * i) % 30 else if j = 1 then c (10 + 5 * i) % 30 + c (10 + 5 * i + 1) % 30 else if j = 2 then 1 + c (10 + 5 * i + 2) % 5 else 1 + c (10 + 5 * i + j) % 3
def pw_key (x : Nat) : Nat := 1111 + x % 5 + 10 * (x / 5 % 5) + 100 * (x / 25 % 2) + 1000 * (x / 50 % 2)
def pw_k (c : Nat → Nat) (t j : Nat) : Nat := if j = 0 then pw_key (c (50 + t)) else c (50 + t) / 100 % 10
def pw_u (c : Nat → Nat) (nt p j : Nat) : Nat := if j = 0 then c (60 + p) % nt else (c (60 + p) % nt + 1 + c (60 + p) / 8 % (nt - 1)) % nt
def pw_tab (w n : Nat) (f : Nat → Nat → Nat) (g0 : Nat → Int32) : Nat → Int32 := fun x => if x < n then nI (f (x / w) (x % w)) else g0 x
theorem pw_tab0 (w : Nat) (f : Nat → Nat → Nat) (g0 : Nat → Int32) : pw_tab w 0 f g0 = g0 := by
  funext x; unfold pw_tab; rw [if_neg (Nat.not_lt_zero x)]
theorem pw_tab1 (w n : Nat) (f : Nat → Nat → Nat) (g0 : Nat → Int32) : (fun x => if x = n then nI (f (n / w) (n % w)) else pw_tab w n f g0 x) = pw_tab w (n + 1) f g0 := by
  funext x; unfold pw_tab
  by_cases h : x = n
  · subst h; rw [if_pos rfl, if_pos (by omega)]
  · rw [if_neg h]
    by_cases h2 : x < n
    · rw [if_pos h2, if_pos (by omega)]
    · rw [if_neg h2, if_neg (by omega)]
theorem pw_tabv {w n : Nat} (f : Nat → Nat → Nat) (g0 : Nat → Int32) {i j : Nat} (hj : j < w) (h : w * i + j < n) : pw_tab w n f g0 (w * i + j) = nI (f i j) := by
  unfold pw_tab
  rw [if_pos h, Nat.mul_add_div (by omega), Nat.mul_add_mod, Nat.div_eq_of_lt hj, Nat.mod_eq_of_lt hj, Nat.add_zero]
theorem pw_st (m : ml_M) (a w n : Nat) (f : Nat → Nat → Nat) (g0 : Nat → Int32) {k : Nat} {v : Int32} (hk : k = n) (hv : v = nI (f (n / w) (n % w))) : ml_sI (pl_wI m a (pw_tab w n f g0)) a k v = pl_wI m a (pw_tab w (n + 1) f g0) := by
  subst hk; subst hv
  rw [pl_wI_sI, pw_tab1]
theorem pw_fu4 : ∃ q, ml_fu = q + 1 + 1 + 1 + 1 + 1 + 1 := ⟨4194298, rfl⟩
theorem pw_lstep {L : Nat} (hL : L ≤ 1000) (xs : Nat → Int32) {nl nt np i : Nat} (m : ml_M) (g0 : Nat → Int32) (hK : ml_K m 65 = (20, 64)) (hi : i < nl) (hnl : nl ≤ 8) (fu : Nat) :
    fL_numbers_3 L xs (fu + 1) (nI 10) (nI nl) (nI nt) (nI np) 65 67 68 (nI i) (pl_wI m 65 (pw_tab 5 (5 * i) (pw_l (pw_c L xs)) g0)) = fL_numbers_3 L xs fu (nI 10) (nI nl) (nI nt) (nI np) 65 67 68 (nI (i + 1)) (pl_wI m 65 (pw_tab 5 (5 * (i + 1)) (pw_l (pw_c L xs)) g0)) := by
  obtain ⟨Y, hY⟩ : ∃ Y : Nat → ml_M, ∀ n, pl_wI m 65 (pw_tab 5 n (pw_l (pw_c L xs)) g0) = Y n := ⟨_, fun _ => rfl⟩
  have kY : ∀ n, ml_K (Y n) 65 = (20, 64) := fun n => by rw [← hY, pl_K_wI]; exact hK
  have sY : ∀ n k v, k = n → v = nI (pw_l (pw_c L xs) (n / 5) (n % 5)) → ml_sI (Y n) 65 k v = Y (n + 1) := fun n k v h1 h2 => by rw [← hY, ← hY]; exact pw_st m 65 5 n _ g0 h1 h2
  have c0 := pw_c_lt L xs (show 10 + 5 * i ≤ 1000 by omega)
  have c1 := pw_c_lt L xs (show 10 + 5 * i + 1 ≤ 1000 by omega)
  have c2 := pw_c_lt L xs (show 10 + 5 * i + 2 ≤ 1000 by omega)
  have c3 := pw_c_lt L xs (show 10 + 5 * i + 3 ≤ 1000 by omega)
  have c4 := pw_c_lt L xs (show 10 + 5 * i + 4 ≤ 1000 by omega)
  have f0 : pw_l (pw_c L xs) i 0 = pw_c L xs (10 + 5 * i) % 30 := rfl
  have f1 : pw_l (pw_c L xs) i 1 = pw_c L xs (10 + 5 * i) % 30 + pw_c L xs (10 + 5 * i + 1) % 30 := rfl
  have f2 : pw_l (pw_c L xs) i 2 = 1 + pw_c L xs (10 + 5 * i + 2) % 5 := rfl
  have f3 : pw_l (pw_c L xs) i 3 = 1 + pw_c L xs (10 + 5 * i + 3) % 3 := rfl
  have f4 : pw_l (pw_c L xs) i 4 = 1 + pw_c L xs (10 + 5 * i + 4) % 3 := rfl
  have s0 := sY (5 * i) (5 * i) (nI (pw_c L xs (10 + 5 * i) % 30)) rfl (by rw [← f0, show 5 * i / 5 = i by omega, show 5 * i % 5 = 0 by omega])
  have s1 := sY (5 * i + 1) (5 * i + 1) (nI (pw_c L xs (10 + 5 * i) % 30 + pw_c L xs (10 + 5 * i + 1) % 30)) rfl (by rw [← f1, show (5 * i + 1) / 5 = i by omega, show (5 * i + 1) % 5 = 1 by omega])
  have s2 := sY (5 * i + 1 + 1) (5 * i + 2) (nI (1 + pw_c L xs (10 + 5 * i + 2) % 5)) rfl (by rw [← f2, show (5 * i + 1 + 1) / 5 = i by omega, show (5 * i + 1 + 1) % 5 = 2 by omega])
  have s3 := sY (5 * i + 1 + 1 + 1) (5 * i + 3) (nI (1 + pw_c L xs (10 + 5 * i + 3) % 3)) rfl (by rw [← f3, show (5 * i + 1 + 1 + 1) / 5 = i by omega, show (5 * i + 1 + 1 + 1) % 5 = 3 by omega])
  have s4 := sY (5 * i + 1 + 1 + 1 + 1) (5 * i + 4) (nI (1 + pw_c L xs (10 + 5 * i + 4) % 3)) rfl (by rw [← f4, show (5 * i + 1 + 1 + 1 + 1) / 5 = i by omega, show (5 * i + 1 + 1 + 1 + 1) % 5 = 4 by omega])
  have r0 : ml_I (Y (5 * i + 1)) 65 (5 * i) = nI (pw_c L xs (10 + 5 * i) % 30) := by
    rw [← hY, pl_I_wI, if_pos rfl]
    exact pw_tabv (w := 5) (n := 5 * i + 1) (pw_l (pw_c L xs)) g0 (i := i) (j := 0) (by decide) (by omega)
  have cl : ∀ k Z, k ≤ 1000 → fL_cell L xs (nI k) Z = some (nI (pw_c L xs k)) := fun k Z hk => pw_cell hL xs hk Z
  obtain ⟨q, hq⟩ := pw_fu4
  rw [hY, hY, fL_numbers_3, hq]
  simp (disch := omega) only [fL_numbers_3, fL_numbers_64, fL_numbers_104, fL_numbers_113, ↓pl_let, pl_b1, pl_b2, ↓reduceIte, pl_l1, pl_l2, pl_l3, pl_l4, pl_l5, pl_l6, pl_l7, pl_l8, pl_l9, pl_l10, pl_l11, pl_l12, pl_l13, pl_l14, pl_l15, pl_l16, pl_l17, pl_l18, pl_l19, pl_l20, pl_l21, pl_l22, pl_l23, pl_l24, pl_l25, pl_l26, pl_l27, pl_l28, pl_l29, pl_l30, pl_l31, pl_l32, pl_l33, pl_l34, pl_l35, pl_l36, pl_l37, pl_l38, pl_l39, pl_l40, pl_l41, pl_l42, pl_l43, pl_l44, pl_l45, pl_l46, pl_l47, pl_l48, pl_l49, pl_l50, pl_l51, pl_l52, pl_l53, pl_l54, pl_l55, pl_l56, pl_l57, pl_l58, pl_l59, pl_l60, pl_l61, pl_l62, pl_l63, pl_l64, pl_l99, pl_l100, pl_l119, pl_l120, pl_l255, pl_l256, pl_l999, pl_l1000, pl_l1023, pl_l1024, pl_l1111, pl_l5555, pl_l10240, pk_mul, nI_add, nI_leI, show ¬ nl ≤ i by omega, if_false, if_true, cl, pl_in, kY, and_self, nI_clamp, show 5 * i < 64 by omega, show 5 * i + 1 < 64 by omega, show 5 * i + 2 < 64 by omega, show 5 * i + 3 < 64 by omega, show 5 * i + 4 < 64 by omega, pk_rem, s0, r0, s1, s2, s3, s4, show ¬ 5 ≤ 2 by decide, show ¬ 5 ≤ 3 by decide, show ¬ 5 ≤ 4 by decide, Nat.le_refl, nI_eq, Nat.reduceEqDiff, pl_eq0, Nat.reduceAdd, not_false_iff]
  rfl
theorem pw_kstep {L : Nat} (hL : L ≤ 1000) (xs : Nat → Int32) {nt np t : Nat} (m : ml_M) (g0 : Nat → Int32) (hK : ml_K m 67 = (20, 16)) (ht : t < nt) (hnt : nt ≤ 8) (fu : Nat) :
    fL_numbers_122 L xs (fu + 1) (nI 10) (nI nt) (nI np) 67 68 (nI t) (pl_wI m 67 (pw_tab 2 (2 * t) (pw_k (pw_c L xs)) g0)) = fL_numbers_122 L xs fu (nI 10) (nI nt) (nI np) 67 68 (nI (t + 1)) (pl_wI m 67 (pw_tab 2 (2 * (t + 1)) (pw_k (pw_c L xs)) g0)) := by
  obtain ⟨Y, hY⟩ : ∃ Y : Nat → ml_M, ∀ n, pl_wI m 67 (pw_tab 2 n (pw_k (pw_c L xs)) g0) = Y n := ⟨_, fun _ => rfl⟩
  have kY : ∀ n, ml_K (Y n) 67 = (20, 16) := fun n => by rw [← hY, pl_K_wI]; exact hK
  have sY : ∀ n k v, k = n → v = nI (pw_k (pw_c L xs) (n / 2) (n % 2)) → ml_sI (Y n) 67 k v = Y (n + 1) := fun n k v h1 h2 => by rw [← hY, ← hY]; exact pw_st m 67 2 n _ g0 h1 h2
  have c0 := pw_c_lt L xs (show 50 + t ≤ 1000 by omega)
  obtain ⟨x, hx⟩ : ∃ x, pw_c L xs (50 + t) = x := ⟨_, rfl⟩
  rw [hx] at c0
  have f0 : pw_k (pw_c L xs) t 0 = pw_key x := by rw [← hx]; rfl
  have f1 : pw_k (pw_c L xs) t 1 = x / 100 % 10 := by rw [← hx]; rfl
  have s0 := sY (2 * t) (2 * t) (nI (1111 + x % 5 + 10 * (x / 5 % 5) + 100 * (x / 25 % 2) + 1000 * (x / 50 % 2))) rfl (by rw [show 2 * t / 2 = t by omega, show 2 * t % 2 = 0 by omega, f0]; rfl)
  have s1 := sY (2 * t + 1) (2 * t + 1) (nI (x / 100 % 10)) rfl (by rw [← f1, show (2 * t + 1) / 2 = t by omega, show (2 * t + 1) % 2 = 1 by omega])
  have cl : ∀ Z, fL_cell L xs (nI (10 + 40 + t)) Z = some (nI x) := fun Z => by rw [← hx]; exact pw_cell hL xs (by omega) Z
  rw [hY, hY]
  simp (disch := omega) only [fL_numbers_122, ↓pl_let, pl_b1, pl_b2, ↓reduceIte, pl_l1, pl_l2, pl_l3, pl_l4, pl_l5, pl_l6, pl_l7, pl_l8, pl_l9, pl_l10, pl_l11, pl_l12, pl_l13, pl_l14, pl_l15, pl_l16, pl_l17, pl_l18, pl_l19, pl_l20, pl_l21, pl_l22, pl_l23, pl_l24, pl_l25, pl_l26, pl_l27, pl_l28, pl_l29, pl_l30, pl_l31, pl_l32, pl_l33, pl_l34, pl_l35, pl_l36, pl_l37, pl_l38, pl_l39, pl_l40, pl_l41, pl_l42, pl_l43, pl_l44, pl_l45, pl_l46, pl_l47, pl_l48, pl_l49, pl_l50, pl_l51, pl_l52, pl_l53, pl_l54, pl_l55, pl_l56, pl_l57, pl_l58, pl_l59, pl_l60, pl_l61, pl_l62, pl_l63, pl_l64, pl_l99, pl_l100, pl_l119, pl_l120, pl_l255, pl_l256, pl_l999, pl_l1000, pl_l1023, pl_l1024, pl_l1111, pl_l5555, pl_l10240, pk_mul, nI_add, nI_leI, show ¬ nt ≤ t by omega, if_false, if_true, cl, pl_in, kY, and_self, nI_clamp, show 2 * t < 16 by omega, show 2 * t + 1 < 16 by omega, pl_rem3, pk_div, s0, s1]
  rfl
theorem pw_ustep {L : Nat} (hL : L ≤ 1000) (xs : Nat → Int32) {nt np p : Nat} (m : ml_M) (g0 : Nat → Int32) (hK : ml_K m 68 = (20, 32)) (hp : p < np) (hnp : np ≤ 8) (hnt : 2 ≤ nt ∧ nt ≤ 8) (fu : Nat) :
    fL_numbers_215 L xs (fu + 1) (nI 10) (nI nt) (nI np) 68 (nI p) (pl_wI m 68 (pw_tab 2 (2 * p) (pw_u (pw_c L xs) nt) g0)) = fL_numbers_215 L xs fu (nI 10) (nI nt) (nI np) 68 (nI (p + 1)) (pl_wI m 68 (pw_tab 2 (2 * (p + 1)) (pw_u (pw_c L xs) nt) g0)) := by
  obtain ⟨Y, hY⟩ : ∃ Y : Nat → ml_M, ∀ n, pl_wI m 68 (pw_tab 2 n (pw_u (pw_c L xs) nt) g0) = Y n := ⟨_, fun _ => rfl⟩
  have kY : ∀ n, ml_K (Y n) 68 = (20, 32) := fun n => by rw [← hY, pl_K_wI]; exact hK
  have sY : ∀ n k v, k = n → v = nI (pw_u (pw_c L xs) nt (n / 2) (n % 2)) → ml_sI (Y n) 68 k v = Y (n + 1) := fun n k v h1 h2 => by rw [← hY, ← hY]; exact pw_st m 68 2 n _ g0 h1 h2
  have c0 := pw_c_lt L xs (show 60 + p ≤ 1000 by omega)
  obtain ⟨x, hx⟩ : ∃ x, pw_c L xs (60 + p) = x := ⟨_, rfl⟩
  rw [hx] at c0
  have f0 : pw_u (pw_c L xs) nt p 0 = x % nt := by rw [← hx]; rfl
  have f1 : pw_u (pw_c L xs) nt p 1 = (x % nt + 1 + x / 8 % (nt - 1)) % nt := by rw [← hx]; rfl
  have s0 := sY (2 * p) (2 * p) (nI (x % nt)) rfl (by rw [← f0, show 2 * p / 2 = p by omega, show 2 * p % 2 = 0 by omega])
  have s1 := sY (2 * p + 1) (2 * p + 1) (nI ((x % nt + 1 + x / 8 % (nt - 1)) % nt)) rfl (by rw [← f1, show (2 * p + 1) / 2 = p by omega, show (2 * p + 1) % 2 = 1 by omega])
  have r0 : ml_I (Y (2 * p + 1)) 68 (2 * p) = nI (x % nt) := by
    rw [← f0, ← hY, pl_I_wI, if_pos rfl]
    exact pw_tabv (w := 2) (n := 2 * p + 1) (pw_u (pw_c L xs) nt) g0 (i := p) (j := 0) (by decide) (by omega)
  have cl : ∀ Z, fL_cell L xs (nI (10 + 50 + p)) Z = some (nI x) := fun Z => by rw [← hx, show 10 + 50 + p = 60 + p by omega]; exact pw_cell hL xs (by omega) Z
  have b1 : x % nt < nt := Nat.mod_lt _ (by omega)
  have b2 : x / 8 % (nt - 1) < nt - 1 := Nat.mod_lt _ (by omega)
  have e1 : nI nt - nI 1 = nI (nt - 1) := pl_sub (by omega)
  rw [hY, hY]
  simp (disch := omega) only [fL_numbers_215, ↓pl_let, pl_b1, pl_b2, ↓reduceIte, e1, pl_l1, pl_l2, pl_l3, pl_l4, pl_l5, pl_l6, pl_l7, pl_l8, pl_l9, pl_l10, pl_l11, pl_l12, pl_l13, pl_l14, pl_l15, pl_l16, pl_l17, pl_l18, pl_l19, pl_l20, pl_l21, pl_l22, pl_l23, pl_l24, pl_l25, pl_l26, pl_l27, pl_l28, pl_l29, pl_l30, pl_l31, pl_l32, pl_l33, pl_l34, pl_l35, pl_l36, pl_l37, pl_l38, pl_l39, pl_l40, pl_l41, pl_l42, pl_l43, pl_l44, pl_l45, pl_l46, pl_l47, pl_l48, pl_l49, pl_l50, pl_l51, pl_l52, pl_l53, pl_l54, pl_l55, pl_l56, pl_l57, pl_l58, pl_l59, pl_l60, pl_l61, pl_l62, pl_l63, pl_l64, pl_l99, pl_l100, pl_l119, pl_l120, pl_l255, pl_l256, pl_l999, pl_l1000, pl_l1023, pl_l1024, pl_l1111, pl_l5555, pl_l10240, pk_mul, nI_add, nI_leI, show ¬ np ≤ p by omega, if_false, if_true, cl, pl_in, kY, and_self, nI_clamp, show 2 * p < 32 by omega, show 2 * p + 1 < 32 by omega, pl_rem3, pk_div, pl_eq0, show ¬ nt = 0 by omega, show ¬ nt - 1 = 0 by omega, not_false_iff, s0, r0, s1]
  rfl
theorem pw_numbers {L : Nat} (hL : L ≤ 1000) (xs : Nat → Int32) {nl nt np : Nat} (hnl : nl ≤ 8) (hnt : 2 ≤ nt ∧ nt ≤ 8) (hnp : np ≤ 8) (m : ml_M) (h65 : ml_K m 65 = (20, 64)) (h67 : ml_K m 67 = (20, 16)) (h68 : ml_K m 68 = (20, 32)) :
    fL_numbers L xs (nI 10) (nI nl) (nI nt) (nI np) 65 67 68 m = some (pl_wI (pl_wI (pl_wI m 65 (pw_tab 5 (5 * nl) (pw_l (pw_c L xs)) (ml_I m 65))) 67 (pw_tab 2 (2 * nt) (pw_k (pw_c L xs)) (ml_I m 67))) 68 (pw_tab 2 (2 * np) (pw_u (pw_c L xs) nt) (ml_I m 68))) := by
  obtain ⟨m1, h1⟩ : ∃ m1, m1 = pl_wI m 65 (pw_tab 5 (5 * nl) (pw_l (pw_c L xs)) (ml_I m 65)) := ⟨_, rfl⟩
  obtain ⟨m2, h2⟩ : ∃ m2, m2 = pl_wI m1 67 (pw_tab 2 (2 * nt) (pw_k (pw_c L xs)) (ml_I m 67)) := ⟨_, rfl⟩
  rw [← h1, ← h2]
  have i67 : ml_I m1 67 = ml_I m 67 := by rw [h1, pl_I_wI, if_neg (by decide)]
  have i68 : ml_I m2 68 = ml_I m 68 := by rw [h2, pl_I_wI, if_neg (by decide), h1, pl_I_wI, if_neg (by decide)]
  have k67 : ml_K m1 67 = (20, 16) := by rw [h1, pl_K_wI]; exact h67
  have k68 : ml_K m2 68 = (20, 32) := by rw [h2, pl_K_wI, h1, pl_K_wI]; exact h68
  have e0 : (0 : Int32) = nI 0 := rfl
  have z : ∀ (Z : ml_M) (a w : Nat) (f : Nat → Nat → Nat), pl_wI Z a (pw_tab w 0 f (ml_I Z a)) = Z := fun Z a w f => by rw [pw_tab0, pl_wI_0]
  have a3 := pl_for (F := fun fu p (_ : Unit) => fL_numbers_215 L xs fu (nI 10) (nI nt) (nI np) 68 (nI p) (pl_wI m2 68 (pw_tab 2 (2 * p) (pw_u (pw_c L xs) nt) (ml_I m2 68)))) (R := some (pl_wI m2 68 (pw_tab 2 (2 * np) (pw_u (pw_c L xs) nt) (ml_I m2 68)))) np (fun _ => ()) (fun fu p hp => pw_ustep hL xs m2 _ k68 hp hnp hnt fu) (fun fu => by simp (disch := omega) only [fL_numbers_215, nI_leI, Nat.le_refl, if_true]) ml_fu (by rw [pl_fu]; omega)
  have a3' : fL_numbers_212 L xs (nI 10) (nI nt) (nI np) 68 m2 = some (pl_wI m2 68 (pw_tab 2 (2 * np) (pw_u (pw_c L xs) nt) (ml_I m 68))) := by
    rw [fL_numbers_212, ← i68, ← a3]
    show _ = fL_numbers_215 L xs ml_fu (nI 10) (nI nt) (nI np) 68 (nI 0) (pl_wI m2 68 (pw_tab 2 0 _ (ml_I m2 68)))
    rw [z, e0]
  have a2 := pl_for (F := fun fu t (_ : Unit) => fL_numbers_122 L xs fu (nI 10) (nI nt) (nI np) 67 68 (nI t) (pl_wI m1 67 (pw_tab 2 (2 * t) (pw_k (pw_c L xs)) (ml_I m1 67)))) (R := some (pl_wI m2 68 (pw_tab 2 (2 * np) (pw_u (pw_c L xs) nt) (ml_I m 68)))) nt (fun _ => ()) (fun fu t ht => pw_kstep hL xs m1 _ k67 ht (by omega) fu) (fun fu => by
    rw [← a3', h2, i67]
    simp (disch := omega) only [fL_numbers_122, nI_leI, Nat.le_refl, if_true]) ml_fu (by rw [pl_fu]; omega)
  have a2' : fL_numbers_119 L xs (nI 10) (nI nt) (nI np) 67 68 m1 = some (pl_wI m2 68 (pw_tab 2 (2 * np) (pw_u (pw_c L xs) nt) (ml_I m 68))) := by
    rw [fL_numbers_119, ← a2]
    show _ = fL_numbers_122 L xs ml_fu (nI 10) (nI nt) (nI np) 67 68 (nI 0) (pl_wI m1 67 (pw_tab 2 0 _ (ml_I m1 67)))
    rw [z, e0]
  have a1 := pl_for (F := fun fu i (_ : Unit) => fL_numbers_3 L xs fu (nI 10) (nI nl) (nI nt) (nI np) 65 67 68 (nI i) (pl_wI m 65 (pw_tab 5 (5 * i) (pw_l (pw_c L xs)) (ml_I m 65)))) (R := some (pl_wI m2 68 (pw_tab 2 (2 * np) (pw_u (pw_c L xs) nt) (ml_I m 68)))) nl (fun _ => ()) (fun fu i hi => pw_lstep hL xs m _ h65 hi hnl fu) (fun fu => by
    rw [← a2', h1]
    simp (disch := omega) only [fL_numbers_3, nI_leI, Nat.le_refl, if_true]) ml_fu (by rw [pl_fu]; omega)
  rw [fL_numbers, ← a1]
  show _ = fL_numbers_3 L xs ml_fu (nI 10) (nI nl) (nI nt) (nI np) 65 67 68 (nI 0) (pl_wI m 65 (pw_tab 5 0 _ (ml_I m 65)))
  rw [z, e0]

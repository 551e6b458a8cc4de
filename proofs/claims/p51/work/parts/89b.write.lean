/-! THE BOOK IS TOLD: its bytes, put one behind the other. -/
theorem pw_l94 : (94 : Int32) = nI 94 := by
  have h : (94 : Int32) = nI 94 := rfl
  exact h
theorem pw_l104 : (104 : Int32) = nI 104 := by
  have h : (104 : Int32) = nI 104 := rfl
  exact h
theorem pw_l107 : (107 : Int32) = nI 107 := by
  have h : (107 : Int32) = nI 107 := rfl
  exact h
theorem pw_l108 : (108 : Int32) = nI 108 := by
  have h : (108 : Int32) = nI 108 := rfl
  exact h
theorem pw_l115 : (115 : Int32) = nI 115 := by
  have h : (115 : Int32) = nI 115 := rfl
  exact h
theorem pw_l116 : (116 : Int32) = nI 116 := by
  have h : (116 : Int32) = nI 116 := rfl
  exact h
theorem pw_l117 : (117 : Int32) = nI 117 := by
  have h : (117 : Int32) = nI 117 := rfl
  exact h
theorem pw_b8 : ∀ b : Fin 128, (nI b.val).toInt8.toInt32 = nI b.val := by decide +kernel
theorem pw_by {b : Nat} (h : b < 128) : (nI b).toInt8.toInt32 = nI b := pw_b8 ⟨b, h⟩
/-- nothing but TEXT 3 was told, its bytes are bs, then blanks -/
def pw_T (A : pl_A) (bs : List Nat) : Prop := (∀ g i k, g ≠ 9 → pl_N A g i k = pl_N pl_A0 g i k) ∧ pl_N A 9 3 0 = 121 ∧ ∀ j, j < 120 → pl_V A 1 3 j = nI (bs.getD j 32)
def pw_X (a b : Nat) (B : pl_A) (bs : List Nat) (r : ml_M) : Prop := ∃ A, ph_2 a b A B r ∧ pw_T A bs
theorem pw_X.k {a b : Nat} {B : pl_A} {bs : List Nat} {r : ml_M} (h : pw_X a b B bs r) (ha : a ≠ 0) : (ml_K r a).1 = 10 := by
  obtain ⟨A, h1, -⟩ := h
  exact h1.k ha
theorem pw_getD_app (bs : List Nat) (v j : Nat) : (bs ++ [v]).getD j 32 = if j = bs.length then v else bs.getD j 32 := by
  by_cases h : j = bs.length
  · subst h; simp
  · rw [if_neg h]
    by_cases h2 : j < bs.length
    · simp [List.getElem?_append_left h2]
    · have e1 : (bs ++ [v])[j]? = none := List.getElem?_eq_none (by simp; omega)
      have e2 : bs[j]? = none := List.getElem?_eq_none (by omega)
      simp only [List.getD_eq_getElem?_getD, e1, e2]
theorem pw_put {a b : Nat} {B : pl_A} {bs : List Nat} {r : ml_M} (h : pw_X a b B bs r) (ha : a ≠ 0) (hp : bs.length < 120) {v : Nat} (hv : v < 128) : ∃ r1, fL_put a (nI bs.length) (nI v) r = some (nI (bs.length + 1), r1) ∧ pw_X a b B (bs ++ [v]) r1 ∧ ph_c 1 r r1 := by
  obtain ⟨A, h1, t1, t2, t3⟩ := h
  have hD := pd_put A (r := 3) (i := bs.length) (n := 120) (by decide) t2 hp (nI v)
  have e32 : pl_V A 1 3 bs.length = nI 32 := by
    rw [t3 _ hp]; simp
  rw [e32, nI_add, pw_by hv] at hD
  obtain ⟨r1, g1, g2, g3⟩ := xo_put hD h1 ha
  refine ⟨r1, ?_, ⟨_, g2, fun g i k hg => ?_, ?_, fun j hj => ?_⟩, g3⟩
  · have g1' : fX10_put a (3 : Int32) (nI bs.length) (nI v) r = some (nI 1032, r1) := g1
    unfold fL_put
    rw [if_neg (by rw [pl_lt0 (by omega)]; exact id), if_pos (h1.k ha), g1', pl_b2, if_pos (show nI 1032 = (1032 : Int32) from rfl), nI_1]
  · unfold pl_xA
    rw [pl_N_sVr, pl_N_sN, if_neg (fun z => hg z.1)]
    exact t1 g i k hg
  · unfold pl_xA
    rw [pl_N_sVr, pl_N_sN, if_pos ⟨rfl, rfl, rfl⟩]
  · unfold pl_xA
    rw [pl_V_sVr, if_pos ⟨rfl, rfl⟩, pw_getD_app]
    show (if j = bs.length then nI v else pl_V A 1 3 j) = _
    by_cases hjl : j = bs.length
    · rw [if_pos hjl, if_pos hjl]
    · rw [if_neg hjl, if_neg hjl]; exact t3 j hj
/-- a number of one or two figures -/
def pw_nb (v : Nat) : List Nat := if v < 10 then [48 + v] else [48 + v / 10, 48 + v % 10]
theorem pw_nb_le (v : Nat) : (pw_nb v).length ≤ 2 := by unfold pw_nb; split <;> simp
theorem pw_num {a b : Nat} {B : pl_A} {bs : List Nat} {r : ml_M} (h : pw_X a b B bs r) (ha : a ≠ 0) (hp : bs.length + 2 ≤ 120) {v : Nat} (hv : v < 100) : ∃ r1, fL_number a (nI bs.length) (nI v) r = some (nI (bs ++ pw_nb v).length, r1) ∧ pw_X a b B (bs ++ pw_nb v) r1 ∧ ph_c 2 r r1 := by
  unfold fL_number pw_nb
  by_cases h10 : v < 10
  · obtain ⟨r1, e1, x1, c1⟩ := pw_put h ha (by omega) (v := 48 + v) (by omega)
    refine ⟨r1, ?_, by rw [if_pos h10]; exact x1, c1.le (by omega)⟩
    simp (disch := omega) only [pl_l1, pl_l2, pl_l3, pl_l4, pl_l5, pl_l6, pl_l7, pl_l8, pl_l9, pl_l10, pl_l11, pl_l12, pl_l13, pl_l14, pl_l15, pl_l16, pl_l17, pl_l18, pl_l19, pl_l20, pl_l21, pl_l22, pl_l23, pl_l24, pl_l25, pl_l26, pl_l27, pl_l28, pl_l29, pl_l30, pl_l31, pl_l32, pl_l33, pl_l34, pl_l35, pl_l36, pl_l37, pl_l38, pl_l39, pl_l40, pl_l41, pl_l42, pl_l43, pl_l44, pl_l45, pl_l46, pl_l47, pl_l48, pl_l49, pl_l50, pl_l51, pl_l52, pl_l53, pl_l54, pl_l55, pl_l56, pl_l57, pl_l58, pl_l59, pl_l60, pl_l61, pl_l62, pl_l63, pl_l64, pl_l99, pl_l100, pl_l119, pl_l120, pl_l255, pl_l256, pl_l999, pl_l1000, pl_l1023, pl_l1024, pl_l1111, pl_l5555, pl_l10240, nI_leI, show ¬ 10 ≤ v by omega, if_false, nI_add, e1, pl_b2, h10, if_true, List.length_append, List.length_cons, List.length_nil]
  · obtain ⟨r1, e1, x1, c1⟩ := pw_put h ha (by omega) (v := 48 + v / 10) (by omega)
    obtain ⟨r2, e2, x2, c2⟩ := pw_put x1 ha (by simp; omega) (v := 48 + v % 10) (by omega)
    have el : (bs ++ [48 + v / 10]).length = bs.length + 1 := by simp
    rw [el] at e2
    refine ⟨r2, ?_, by rw [if_neg h10]; simpa using x2, (c1.trans c2).le (by omega)⟩
    simp (disch := omega) only [pl_l1, pl_l2, pl_l3, pl_l4, pl_l5, pl_l6, pl_l7, pl_l8, pl_l9, pl_l10, pl_l11, pl_l12, pl_l13, pl_l14, pl_l15, pl_l16, pl_l17, pl_l18, pl_l19, pl_l20, pl_l21, pl_l22, pl_l23, pl_l24, pl_l25, pl_l26, pl_l27, pl_l28, pl_l29, pl_l30, pl_l31, pl_l32, pl_l33, pl_l34, pl_l35, pl_l36, pl_l37, pl_l38, pl_l39, pl_l40, pl_l41, pl_l42, pl_l43, pl_l44, pl_l45, pl_l46, pl_l47, pl_l48, pl_l49, pl_l50, pl_l51, pl_l52, pl_l53, pl_l54, pl_l55, pl_l56, pl_l57, pl_l58, pl_l59, pl_l60, pl_l61, pl_l62, pl_l63, pl_l64, pl_l99, pl_l100, pl_l119, pl_l120, pl_l255, pl_l256, pl_l999, pl_l1000, pl_l1023, pl_l1024, pl_l1111, pl_l5555, pl_l10240, nI_leI, show 10 ≤ v by omega, if_true, pk_div, pk_mul, pl_rem3, nI_add, e1, pl_b2, e2, h10, if_false, List.length_append, List.length_cons, List.length_nil]
/-- what a lodger, a trunk, a pile is told by -/
def pw_lb (f : Nat → Nat) : List Nat := [108] ++ pw_nb (f 0) ++ [45] ++ pw_nb (f 1) ++ [115] ++ [48 + f 2] ++ [116] ++ [48 + f 3] ++ [104] ++ [48 + f 4]
def pw_kb (f : Nat → Nat) : List Nat := [107] ++ [48 + f 0 / 1000 % 10] ++ [48 + f 0 / 100 % 10] ++ [48 + f 0 / 10 % 10] ++ [48 + f 0 % 10] ++ [94] ++ [48 + f 1]
def pw_ub (f : Nat → Nat) : List Nat := [117] ++ [48 + f 0] ++ [47] ++ [48 + f 1]
def pw_all (g : Nat → List Nat) : Nat → List Nat
  | 0 => []
  | n + 1 => pw_all g n ++ g n
theorem pw_lb_le (f : Nat → Nat) : (pw_lb f).length ≤ 12 := by
  have h1 := pw_nb_le (f 0)
  have h2 := pw_nb_le (f 1)
  unfold pw_lb
  simp only [List.length_append, List.length_cons, List.length_nil]
  omega
theorem pw_all_le (g : Nat → List Nat) {w : Nat} (h : ∀ i, (g i).length ≤ w) : ∀ n, (pw_all g n).length ≤ w * n := by
  intro n
  induction n with
  | zero => exact Nat.le_refl _
  | succ n ih =>
    have := h n
    unfold pw_all
    rw [List.length_append, Nat.mul_succ]
    omega
theorem pw_all1 (g : Nat → List Nat) (n : Nat) : pw_all g (n + 1) = pw_all g n ++ g n := rfl
/-- a row of the law's holds the numbers f, w of each -/
def pw_h (r : ml_M) (q w n cap : Nat) (f : Nat → Nat → Nat) : Prop := ml_K r q = (20, cap) ∧ ∀ i j, i < n → j < w → ml_I r q (w * i + j) = nI (f i j)
theorem pw_h.c {r r1 : ml_M} {q w n cap c : Nat} {f : Nat → Nat → Nat} (h : pw_h r q w n cap f) (hc : ph_c c r r1) (hq : 65 ≤ q ∧ q ≤ 69) : pw_h r1 q w n cap f := by
  obtain ⟨e1, e2⟩ := hc.1 q hq.1 hq.2
  exact ⟨by rw [e1]; exact h.1, by rw [e2]; exact h.2⟩
theorem pw_lod {a b : Nat} {B : pl_A} {bs : List Nat} {r : ml_M} (h : pw_X a b B bs r) (ha : a ≠ 0) (hp : bs.length + 12 ≤ 120) {q nl : Nat} (hq : 65 ≤ q ∧ q ≤ 69) {f : Nat → Nat → Nat} (hh : pw_h r q 5 nl 64 f) {i : Nat} (hi : i < nl) (hnl : nl ≤ 12) (hf : f i 0 < 100 ∧ f i 1 < 100 ∧ ∀ j, 2 ≤ j → j < 5 → f i j < 10) (nt : Nat) (np : Int32) (fu : Nat) :
    ∃ r1, fL_book_20 (fu + 1) a (nI nl) q (nI nt) 67 np 68 (nI bs.length) (nI i) r = fL_book_20 fu a (nI nl) q (nI nt) 67 np 68 (nI (bs ++ pw_lb (f i)).length) (nI (i + 1)) r1 ∧ pw_X a b B (bs ++ pw_lb (f i)) r1 ∧ ph_c 12 r r1 := by
  have hn0 := pw_nb_le (f i 0)
  have hn1 := pw_nb_le (f i 1)
  obtain ⟨r1, e1, x1, c1⟩ := pw_put h ha (by omega) (v := 108) (by decide)
  have h1 := hh.c c1 hq
  obtain ⟨r2, e2, x2, c2⟩ := pw_num x1 ha (by simp; omega) hf.1
  obtain ⟨r3, e3, x3, c3⟩ := pw_put x2 ha (by simp only [List.length_append, List.length_cons, List.length_nil]; omega) (v := 45) (by decide)
  have h3 := (h1.c c2 hq).c c3 hq
  obtain ⟨r4, e4, x4, c4⟩ := pw_num x3 ha (by simp only [List.length_append, List.length_cons, List.length_nil]; omega) hf.2.1
  obtain ⟨r5, e5, x5, c5⟩ := pw_put x4 ha (by simp only [List.length_append, List.length_cons, List.length_nil]; omega) (v := 115) (by decide)
  have h5 := (h3.c c4 hq).c c5 hq
  obtain ⟨r6, e6, x6, c6⟩ := pw_put x5 ha (by simp only [List.length_append, List.length_cons, List.length_nil]; omega) (v := 48 + f i 2) (by have := hf.2.2 2 (by decide) (by decide); omega)
  obtain ⟨r7, e7, x7, c7⟩ := pw_put x6 ha (by simp only [List.length_append, List.length_cons, List.length_nil]; omega) (v := 116) (by decide)
  have h7 := (h5.c c6 hq).c c7 hq
  obtain ⟨r8, e8, x8, c8⟩ := pw_put x7 ha (by simp only [List.length_append, List.length_cons, List.length_nil]; omega) (v := 48 + f i 3) (by have := hf.2.2 3 (by decide) (by decide); omega)
  obtain ⟨r9, e9, x9, c9⟩ := pw_put x8 ha (by simp only [List.length_append, List.length_cons, List.length_nil]; omega) (v := 104) (by decide)
  have h9 := (h7.c c8 hq).c c9 hq
  obtain ⟨r10, e10, x10, c10⟩ := pw_put x9 ha (by simp only [List.length_append, List.length_cons, List.length_nil]; omega) (v := 48 + f i 4) (by have := hf.2.2 4 (by decide) (by decide); omega)
  have eb : bs ++ pw_lb (f i) = bs ++ [108] ++ pw_nb (f i 0) ++ [45] ++ pw_nb (f i 1) ++ [115] ++ [48 + f i 2] ++ [116] ++ [48 + f i 3] ++ [104] ++ [48 + f i 4] := by
    unfold pw_lb
    simp only [List.append_assoc]
  rw [eb]
  refine ⟨r10, ?_, x10, ((((((((((c1.trans c2).trans c3).trans c4).trans c5).trans c6).trans c7).trans c8).trans c9).trans c10)).le (by decide)⟩
  obtain ⟨fq, hfq⟩ := pw_fu4
  have ln : ∀ (l : List Nat) (x : Nat), (l ++ [x]).length = l.length + 1 := fun l x => by simp
  have v0 := h1.2 i 0 hi (by decide)
  have v1 := h3.2 i 1 hi (by decide)
  have v2 := h5.2 i 2 hi (by decide)
  have v3 := h7.2 i 3 hi (by decide)
  have v4 := h9.2 i 4 hi (by decide)
  rw [Nat.add_zero] at v0
  simp only [ln] at e2 e3 e4 e5 e6 e7 e8 e9 e10 ⊢
  rw [fL_book_20, hfq]
  simp (disch := omega) only [fL_book_67, fL_book_101, fL_book_127, ↓pl_let, pl_b1, pl_b2, ↓reduceIte, pl_l1, pl_l2, pl_l3, pl_l4, pl_l5, pl_l6, pl_l7, pl_l8, pl_l9, pl_l10, pl_l11, pl_l12, pl_l13, pl_l14, pl_l15, pl_l16, pl_l17, pl_l18, pl_l19, pl_l20, pl_l21, pl_l22, pl_l23, pl_l24, pl_l25, pl_l26, pl_l27, pl_l28, pl_l29, pl_l30, pl_l31, pl_l32, pl_l33, pl_l34, pl_l35, pl_l36, pl_l37, pl_l38, pl_l39, pl_l40, pl_l41, pl_l42, pl_l43, pl_l44, pl_l45, pl_l46, pl_l47, pl_l48, pl_l49, pl_l50, pl_l51, pl_l52, pl_l53, pl_l54, pl_l55, pl_l56, pl_l57, pl_l58, pl_l59, pl_l60, pl_l61, pl_l62, pl_l63, pl_l64, pl_l99, pl_l100, pl_l119, pl_l120, pl_l255, pl_l256, pl_l999, pl_l1000, pl_l1023, pl_l1024, pl_l1111, pl_l5555, pl_l10240, pw_l108, pw_l115, pw_l116, pw_l104, pk_mul, nI_add, nI_leI, show ¬ nl ≤ i by omega, if_false, e1, pl_in, h1.1, h3.1, h5.1, h7.1, h9.1, and_self, if_true, nI_clamp, show 5 * i < 64 by omega, show 5 * i + 1 < 64 by omega, show 5 * i + 2 < 64 by omega, show 5 * i + 3 < 64 by omega, show 5 * i + 4 < 64 by omega, v0, v1, v2, v3, v4, e2, e3, e4, e5, e6, e7, e8, e9, e10, Nat.reduceLeDiff, nI_eq, Nat.reduceEqDiff]

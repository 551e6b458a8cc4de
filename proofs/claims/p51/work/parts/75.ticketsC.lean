/-! TICKETS: the class's side. -/
/-- all references of a cell anew -/
def pl_wR (m : ml_M) (a : Nat) (g : Nat → Nat) : ml_M := (ml_n m, ml_s m, ml_K m, ml_I m, fun b => if b = a then g else ml_R m b, ml_J m)
theorem pl_R_wR (m : ml_M) (a : Nat) (g : Nat → Nat) (b : Nat) : ml_R (pl_wR m a g) b = if b = a then g else ml_R m b := by
  have h : ml_R (pl_wR m a g) b = if b = a then g else ml_R m b := rfl
  exact h
theorem pl_I_wR (m : ml_M) (a : Nat) (g : Nat → Nat) : ml_I (pl_wR m a g) = ml_I m := by
  have h : ml_I (pl_wR m a g) = ml_I m := rfl
  exact h
theorem pl_J_wR (m : ml_M) (a : Nat) (g : Nat → Nat) : ml_J (pl_wR m a g) = ml_J m := by
  have h : ml_J (pl_wR m a g) = ml_J m := rfl
  exact h
theorem pl_K_wR (m : ml_M) (a : Nat) (g : Nat → Nat) : ml_K (pl_wR m a g) = ml_K m := by
  have h : ml_K (pl_wR m a g) = ml_K m := rfl
  exact h
theorem pl_n_wR (m : ml_M) (a : Nat) (g : Nat → Nat) : ml_n (pl_wR m a g) = ml_n m := by
  have h : ml_n (pl_wR m a g) = ml_n m := rfl
  exact h
theorem pl_s_wR (m : ml_M) (a : Nat) (g : Nat → Nat) : ml_s (pl_wR m a g) = ml_s m := by
  have h : ml_s (pl_wR m a g) = ml_s m := rfl
  exact h
theorem pl_wR_0 (m : ml_M) (a : Nat) : pl_wR m a (ml_R m a) = m := by
  have : (fun b => if b = a then ml_R m a else ml_R m b) = ml_R m := by
    funext b
    by_cases h : b = a
    · rw [if_pos h, h]
    · rw [if_neg h]
  unfold pl_wR
  rw [this]; rfl
theorem pl_wR_sR (m : ml_M) (a k v : Nat) (g : Nat → Nat) : ml_sR (pl_wR m a g) a k v = pl_wR m a (fun j => if j = k then v else g j) := by
  have : (fun b j => if b = a ∧ j = k then v else (if b = a then g else ml_R m b) j) = fun b => if b = a then (fun j => if j = k then v else g j) else ml_R m b := by
    funext b j
    by_cases h : b = a
    · rw [if_pos h, if_pos h]
      by_cases h2 : j = k
      · rw [if_pos ⟨h, h2⟩, if_pos h2]
      · rw [if_neg (fun z => h2 z.2), if_neg h2]
    · rw [if_neg h, if_neg h, if_neg (fun z => h z.1)]
  have e : ml_sR (pl_wR m a g) a k v = (ml_n m, ml_s m, ml_K m, ml_I m, (fun b j => if b = a ∧ j = k then v else (if b = a then g else ml_R m b) j), ml_J m) := rfl
  rw [e, this]; rfl
theorem pl_sIsw (m : ml_M) {a b : Nat} (h : a ≠ b) (g : Nat → Int32) (k : Nat) (v : Int32) : ml_sI (pl_wI m a g) b k v = pl_wI (ml_sI m b k v) a g := by
  rw [pl_sI_w, pl_wI_sw _ _ _ h, pl_I_wI, if_neg (fun z => h z.symm), ← pl_sI_w]
/-- a table from lo to hi, beside it what was -/
def pl_tw (g0 f : Nat → Int32) (lo hi : Nat) : Nat → Int32 := fun x => if lo ≤ x ∧ x < hi then f x else g0 x
theorem pl_tw_i {g0 f : Nat → Int32} {lo hi x : Nat} (h : lo ≤ x ∧ x < hi) : pl_tw g0 f lo hi x = f x := by unfold pl_tw; rw [if_pos h]
theorem pl_tw_0 (g0 f : Nat → Int32) (lo : Nat) : pl_tw g0 f lo lo = g0 := by
  funext x; unfold pl_tw; rw [if_neg (by omega)]
theorem pl_tw_1 (g0 f : Nat → Int32) {lo hi : Nat} (h : lo ≤ hi) (v : Int32) (hv : v = f hi) : (fun x => if x = hi then v else pl_tw g0 f lo hi x) = pl_tw g0 f lo (hi + 1) := by
  funext x
  unfold pl_tw
  by_cases hx : x = hi
  · rw [if_pos hx, if_pos (by omega), hv, hx]
  · rw [if_neg hx]
    by_cases h2 : lo ≤ x ∧ x < hi
    · rw [if_pos h2, if_pos (by omega)]
    · rw [if_neg h2, if_neg (by omega)]
theorem pl_upd2 (g : Nat → Int32) (s : Nat) (v w : Int32) : (fun x => if x = s then w else if x = s then v else g x) = fun x => if x = s then w else g x := by
  funext x
  by_cases h : x = s
  · rw [if_pos h, if_pos h]
  · rw [if_neg h, if_neg h, if_neg h]
/-- the tickets of a set of things -/
def pl_tq (A : pl_A) (S i : Nat) : Bool := decide (pl_N A 4 i 0 = 4) && S.testBit i
def pl_gt (A : pl_A) (m : ml_M) (S i : Nat) : Nat → Nat := fun k => if k < pl_cnt (pl_tq A S) i ∧ k < 10 then ml_R m 8 (pl_rnk (pl_tq A S) i k) else ml_R m 27 k
theorem pl_min10 {c : Nat} (h : c < 2 ^ 30) : (if (10 : Int32) < nI c then (10 : Int32) else nI c) = nI (min c 10) := by
  have e10 : (10 : Int32) = nI 10 := rfl
  rw [e10]
  by_cases hc : 10 < c
  · rw [if_pos ((nI_ltI (by decide) (by omega)).mpr hc), show min c 10 = 10 by omega]
  · rw [if_neg (fun z => hc ((nI_ltI (by decide) (by omega)).mp z)), show min c 10 = c by omega]
theorem pl_gatherC {A : pl_A} {m : ml_M} (hS : pl_Sh m) (hW : pl_W A) (hC : pl_C A m) {S : Nat} (hS31 : S < 2 ^ 31) :
    fX3_gather 26 8 (nI (pl_N A 0 3 0)) (nI S) m = some (nI (pl_cnt (pl_tq A S) (pl_N A 0 3 0)), ml_sI (pl_wR m 27 (pl_gt A m S (pl_N A 0 3 0))) 26 1 (nI (min (pl_cnt (pl_tq A S) (pl_N A 0 3 0)) 10))) := by
  have hw := hW.1
  unfold pl_Wc at hw
  have e1 : (1 : Int32) = nI 1 := rfl
  have e4 : (4 : Int32) = nI 4 := rfl
  have e10 : (10 : Int32) = nI 10 := rfl
  have hx := pl_for (F := fun fu i (_ : Unit) => fX3_gather_6 fu 26 8 (nI (pl_N A 0 3 0)) (nI S) (nI (pl_cnt (pl_tq A S) i)) (nI i) (pl_wR m 27 (pl_gt A m S i))) (R := some (nI (pl_cnt (pl_tq A S) (pl_N A 0 3 0)), ml_sI (pl_wR m 27 (pl_gt A m S (pl_N A 0 3 0))) 26 1 (nI (min (pl_cnt (pl_tq A S) (pl_N A 0 3 0)) 10)))) (pl_N A 0 3 0) (fun _ => ()) (fun fu i hi => ?_) (fun fu => ?_) ml_fu (by rw [pl_fu]; omega)
  · have e0 : pl_gt A m S 0 = ml_R m 27 := by
      funext k; unfold pl_gt; rw [if_neg (fun z => Nat.not_lt_zero k z.1)]
    rw [e0, pl_wR_0] at hx
    exact hx
  · show fX3_gather_6 (fu + 1) 26 8 (nI (pl_N A 0 3 0)) (nI S) (nI (pl_cnt (pl_tq A S) i)) (nI i) (pl_wR m 27 (pl_gt A m S i)) = fX3_gather_6 fu 26 8 (nI (pl_N A 0 3 0)) (nI S) (nI (pl_cnt (pl_tq A S) (i + 1))) (nI (i + 1)) (pl_wR m 27 (pl_gt A m S (i + 1)))
    have hle := pl_cnt_le (pl_tq A S) i
    obtain ⟨t1, t2, -⟩ := pl_thg hC hi
    have hwi := (hW.2.2.2.2.1 i hi).1
    have h1 := (pl_has (s := S) (t := i) (by omega) (by omega) (pl_wR m 27 (pl_gt A m S i))).1
    have k8 := pl_k8 hS
    have k26 := pl_k26 hS
    have k27 := pl_k27 hS
    have r26 := pl_r26_0 hS
    by_cases hp : pl_tq A S i = true
    · have hp' := hp
      unfold pl_tq at hp'
      rw [Bool.and_eq_true, decide_eq_true_eq] at hp'
      rw [pl_cnt1, if_pos hp]
      by_cases hc : 10 ≤ pl_cnt (pl_tq A S) i
      · have e : pl_gt A m S (i + 1) = pl_gt A m S i := by
          funext k
          unfold pl_gt
          rw [pl_cnt1, if_pos hp]
          by_cases h10 : k < 10
          · rw [if_pos ⟨by omega, h10⟩, if_pos ⟨by omega, h10⟩, pl_rnk_n (by omega)]
          · rw [if_neg (fun z => h10 z.2), if_neg (fun z => h10 z.2)]
        rw [e]
        simp (disch := omega) only [fX3_gather_6, fX3_gather_53, fX3_gather_56, ↓pl_let, pl_b1, pl_b2, ↓reduceIte, nI_leI, show ¬ pl_N A 0 3 0 ≤ i by omega, if_false, h1, hp'.2, if_true, e1, e4, e10, pl_eq0, Nat.reduceEqDiff, pl_K_wR, pl_in, nI_clamp, k8, show i < 20 by omega, and_self, pl_R_wR, t1, pl_I_wR, t2, hp'.1, hc, nI_add]
      · have e : (fun j => if j = pl_cnt (pl_tq A S) i then ml_R m 8 i else pl_gt A m S i j) = pl_gt A m S (i + 1) := by
          funext k
          unfold pl_gt
          rw [pl_cnt1, if_pos hp]
          by_cases h2 : k = pl_cnt (pl_tq A S) i
          · rw [if_pos h2, if_pos (by omega), pl_rnk_y ⟨hp, h2⟩]
          · rw [if_neg h2, pl_rnk_n (fun z => h2 z.2)]
            by_cases h3 : k < pl_cnt (pl_tq A S) i
            · rw [if_pos (by omega), if_pos (by omega)]
            · rw [if_neg (by omega), if_neg (by omega)]
        rw [← e]
        simp (disch := omega) only [fX3_gather_6, fX3_gather_53, fX3_gather_56, ↓pl_let, pl_b1, pl_b2, ↓reduceIte, nI_leI, show ¬ pl_N A 0 3 0 ≤ i by omega, if_false, h1, hp'.2, if_true, e1, e4, e10, pl_eq0, Nat.reduceEqDiff, pl_K_wR, pl_in, nI_clamp, k8, k26, k27, r26, show i < 20 by omega, show pl_cnt (pl_tq A S) i < 10 by omega, and_self, pl_R_wR, t1, pl_I_wR, t2, hp'.1, hc, nI_add, pl_wR_sR]
    · have hp0 : pl_tq A S i = false := by simpa using hp
      have e : pl_gt A m S (i + 1) = pl_gt A m S i := by
        funext k
        unfold pl_gt
        rw [pl_cnt1, if_neg hp, pl_rnk_n (fun z => hp z.1)]
      rw [e, pl_cnt1, if_neg hp]
      by_cases hb : S.testBit i = true
      · have hk : ¬ pl_N A 4 i 0 = 4 := fun z => by
          unfold pl_tq at hp0
          rw [hb, decide_eq_true z] at hp0; cases hp0
        simp (disch := omega) only [fX3_gather_6, fX3_gather_53, fX3_gather_56, ↓pl_let, pl_b1, pl_b2, ↓reduceIte, nI_leI, show ¬ pl_N A 0 3 0 ≤ i by omega, if_false, h1, hb, if_true, e1, e4, pl_eq0, Nat.reduceEqDiff, pl_K_wR, pl_in, nI_clamp, k8, show i < 20 by omega, and_self, pl_R_wR, t1, pl_I_wR, t2, nI_eq, hk, nI_add]
      · have hb : S.testBit i = false := by simpa using hb
        simp (disch := omega) only [fX3_gather_6, fX3_gather_53, fX3_gather_56, ↓pl_let, pl_b1, pl_b2, ↓reduceIte, nI_leI, show ¬ pl_N A 0 3 0 ≤ i by omega, if_false, h1, hb, Bool.false_eq_true, if_true, e1, nI_add]
  · have hle := pl_cnt_le (pl_tq A S) (pl_N A 0 3 0)
    have k26 := pl_k26 hS
    simp (disch := omega) only [fX3_gather_6, fX3_gather_62, ↓pl_let, pl_b1, pl_b2, ↓reduceIte, nI_leI, Nat.le_refl, if_true, pl_K_wR, k26]
    rw [pl_min10 (by omega)]
/-- n tickets, years a to b, numbers x, laid before the class -/
def pl_tkC (m : ml_M) (n : Nat) (a b x : Nat → Nat) : Prop := ml_I m 26 1 = nI n ∧ n ≤ 10 ∧ ∀ k, k < n → 60 < ml_R m 27 k ∧ ml_K m (ml_R m 27 k) = (8, 0) ∧ ml_I m (ml_R m 27 k) 1 = nI (a k) ∧ ml_I m (ml_R m 27 k) 2 = nI (b k) ∧ ml_I m (ml_R m 27 k) 3 = nI (x k) ∧ a k ≤ b k ∧ b k ≤ 99 ∧ x k ≤ 9999
theorem pl_tkC.wI {m : ml_M} {n : Nat} {a b x : Nat → Nat} (h : pl_tkC m n a b x) {c : Nat} (g : Nat → Int32) (hc : 28 ≤ c ∧ c ≤ 31) : pl_tkC (pl_wI m c g) n a b x := by
  obtain ⟨h1, h2, h3⟩ := h
  refine ⟨by rw [pl_I_wI, if_neg (by omega)]; exact h1, h2, fun k hk => ?_⟩
  have h4 := h3 k hk
  rw [pl_R_wI, pl_K_wI, pl_I_wI, if_neg (by omega)]
  exact h4
def pl_on (x : Nat → Nat) (j k : Nat) : Bool := decide (x j % 10 = x k / 10)
def pl_ah (x : Nat → Nat) (n k : Nat) : Int32 := nI (pl_set (fun j => pl_on x j k) n)
theorem pl_aheadC {m : ml_M} (hS : pl_Sh m) {n : Nat} {a b x : Nat → Nat} (ht : pl_tkC m n a b x) : fX3_findAhead 26 m = some (pl_wI m 28 (pl_tw (ml_I m 28) (pl_ah x n) 0 n)) := by
  obtain ⟨hn, hn10, hk⟩ := ht
  have e1 : (1 : Int32) = nI 1 := rfl
  have e10 : (10 : Int32) = nI 10 := rfl
  have e31 : (31 : Int32) = nI 31 := rfl
  have hI26 : ∀ g, ml_I (pl_wI m 28 g) 26 = ml_I m 26 := fun g => by rw [pl_I_wI, if_neg (by decide)]
  have hI28 : ∀ g, ml_I (pl_wI m 28 g) 28 = g := fun g => by rw [pl_I_wI, if_pos rfl]
  have k26 := pl_k26 hS
  have k27 := pl_k27 hS
  have k28 := pl_k28 hS
  have r0 := pl_r26_0 hS
  have r2 := pl_r26_2 hS
  have hIt : ∀ g k, k < n → ml_I (pl_wI m 28 g) (ml_R m 27 k) = ml_I m (ml_R m 27 k) := fun g k hkn => by
    have := (hk k hkn).1
    rw [pl_I_wI, if_neg (by omega)]
  have ei : ∀ (K : Nat → Int32 → ml_M → Option ml_M) (i : Nat), i < n → fX3_findAhead_19 K ml_fu 26 (nI i) 0 (pl_wI m 28 (fun y => if y = i then 0 else pl_tw (ml_I m 28) (pl_ah x n) 0 i y)) = K 26 (nI (i + 1)) (pl_wI m 28 (pl_tw (ml_I m 28) (pl_ah x n) 0 (i + 1))) := fun K i hi => by
    have hh := pl_for (F := fun fu j (_ : Unit) => fX3_findAhead_19 K fu 26 (nI i) (nI j) (pl_wI m 28 (fun y => if y = i then nI (pl_set (fun j => pl_on x j i) j) else pl_tw (ml_I m 28) (pl_ah x n) 0 i y))) (R := K 26 (nI (i + 1)) (pl_wI m 28 (pl_tw (ml_I m 28) (pl_ah x n) 0 (i + 1)))) n (fun _ => ()) (fun fu j hj => ?_) (fun fu => ?_) ml_fu (by rw [pl_fu]; omega)
    · exact hh
    · show fX3_findAhead_19 K (fu + 1) 26 (nI i) (nI j) (pl_wI m 28 (fun y => if y = i then nI (pl_set (fun j => pl_on x j i) j) else pl_tw (ml_I m 28) (pl_ah x n) 0 i y)) = fX3_findAhead_19 K fu 26 (nI i) (nI (j + 1)) (pl_wI m 28 (fun y => if y = i then nI (pl_set (fun j => pl_on x j i) (j + 1)) else pl_tw (ml_I m 28) (pl_ah x n) 0 i y))
      obtain ⟨-, t1, -, -, t2, -, -, t3⟩ := hk i hi
      obtain ⟨-, u1, -, -, u2, -, -, u3⟩ := hk j hj
      have i1 := fun g => hIt g i hi
      have i2 := fun g => hIt g j hj
      rw [pl_set1]
      by_cases ho : pl_on x j i = true
      · have ho' : x j % 10 = x i / 10 := by unfold pl_on at ho; exact of_decide_eq_true ho
        have hu := pl_upd2 (pl_tw (ml_I m 28) (pl_ah x n) 0 i) i (nI (pl_set (fun j => pl_on x j i) j)) (nI (pl_set (fun j => pl_on x j i) j ||| 2 ^ j))
        rw [if_pos ho]
        simp (disch := omega) only [fX3_findAhead_19, fX3_findAhead_66, ↓pl_let, pl_b1, pl_b2, ↓reduceIte, pl_K_wI, k26, k27, k28, if_true, hI26, hn, nI_leI, show ¬ n ≤ j by omega, if_false, pl_R_wI, r0, r2, pl_in, nI_clamp, show j < 10 by omega, show i < 10 by omega, and_self, t1, u1, i1, i2, t2, u2, e10, pk_div, pk_mul, pl_rem3, nI_eq, ho', hI28, e1, e31, pl_and, pl_shl2, pl_or, pl_wI_sI, hu, nI_add]
      · have ho' : ¬ x j % 10 = x i / 10 := fun z => ho (by unfold pl_on; exact decide_eq_true z)
        rw [if_neg ho]
        simp (disch := omega) only [fX3_findAhead_19, fX3_findAhead_66, ↓pl_let, pl_b1, pl_b2, ↓reduceIte, pl_K_wI, k26, k27, k28, if_true, hI26, hn, nI_leI, show ¬ n ≤ j by omega, if_false, pl_R_wI, r0, r2, pl_in, nI_clamp, show j < 10 by omega, show i < 10 by omega, and_self, t1, u1, i1, i2, t2, u2, e10, pk_div, pk_mul, pl_rem3, nI_eq, ho', e1, nI_add]
    · rw [← pl_tw_1 (ml_I m 28) (pl_ah x n) (Nat.zero_le i) (nI (pl_set (fun j => pl_on x j i) n)) rfl]
      simp (disch := omega) only [fX3_findAhead_19, fX3_findAhead_72, ↓pl_let, pl_b1, pl_b2, ↓reduceIte, pl_K_wI, k26, if_true, hI26, hn, nI_leI, Nat.le_refl, e1, nI_add]
  have ho := pl_for (F := fun fu i (_ : Unit) => fX3_findAhead_2 fu 26 (nI i) (pl_wI m 28 (pl_tw (ml_I m 28) (pl_ah x n) 0 i))) (R := some (pl_wI m 28 (pl_tw (ml_I m 28) (pl_ah x n) 0 n))) n (fun _ => ()) (fun fu i hi => ?_) (fun fu => ?_) ml_fu (by rw [pl_fu]; omega)
  · rw [pl_tw_0, pl_wI_0] at ho
    exact ho
  · show fX3_findAhead_2 (fu + 1) 26 (nI i) (pl_wI m 28 (pl_tw (ml_I m 28) (pl_ah x n) 0 i)) = fX3_findAhead_2 fu 26 (nI (i + 1)) (pl_wI m 28 (pl_tw (ml_I m 28) (pl_ah x n) 0 (i + 1)))
    rw [← ei (fX3_findAhead_2 fu) i hi]
    simp (disch := omega) only [fX3_findAhead_2, ↓pl_let, pl_b1, pl_b2, ↓reduceIte, pl_K_wI, k26, k28, if_true, hI26, hn, nI_leI, show ¬ n ≤ i by omega, if_false, pl_R_wI, r2, pl_in, nI_clamp, show i < 10 by omega, and_self, pl_wI_sI]
  · simp (disch := omega) only [fX3_findAhead_2, ↓pl_let, pl_b1, pl_b2, ↓reduceIte, pl_K_wI, k26, if_true, hI26, hn, nI_leI, Nat.le_refl]
/-- the last ones of sets, and when they can be over -/
def pl_lt (n : Nat) (a b x : Nat → Nat) (s : Nat) : Int32 := nI (pl_tl n a b (pl_on x) (s + 1) s)
def pl_ot2 (n : Nat) (a : Nat → Nat) (s : Nat) : Int32 := nI (pl_ov a s n)
def pl_fl (m : ml_M) (n : Nat) (a b x : Nat → Nat) (s : Nat) : ml_M := pl_wI (pl_wI m 29 (pl_tw (ml_I m 29) (pl_lt n a b x) 1 s)) 30 (pl_tw (ml_I m 30) (pl_ot2 n a) 1 s)
theorem pl_s3029 (m : ml_M) (g : Nat → Int32) (k : Nat) (v : Int32) : ml_sI (pl_wI m 30 g) 29 k v = pl_wI (ml_sI m 29 k v) 30 g := pl_sIsw m (by decide) g k v
theorem pl_ov_99 {a : Nat → Nat} {n : Nat} (h : ∀ k, k < n → a k ≤ 99) (s k : Nat) (hk : k ≤ n) : pl_ov a s k ≤ 99 := (pl_ov_le a s 99 k).mpr fun j hj _ => h j (by omega)
theorem pl_lastsC {m : ml_M} (hS : pl_Sh m) {n : Nat} {a b x : Nat → Nat} (ht : pl_tkC m n a b x) (h28 : ∀ k, k < n → ml_I m 28 k = pl_ah x n k) : fX3_findLasts_6 ml_fu 26 1 m = some (pl_fl m n a b x (2 ^ n)) := by
  obtain ⟨hn, hn10, hk⟩ := ht
  obtain ⟨N, hN⟩ : ∃ N, N = 2 ^ n := ⟨_, rfl⟩
  have p1 : 1 ≤ N := by rw [hN]; exact Nat.one_le_two_pow
  have p2 : N ≤ 1024 := by rw [hN]; exact Nat.le_trans (Nat.pow_le_pow_right (by decide) hn10) (by decide)
  rw [← hN]
  have e1 : (1 : Int32) = nI 1 := rfl
  have e31 : (31 : Int32) = nI 31 := rfl
  have hI26 : ∀ g h, ml_I (pl_wI (pl_wI m 29 g) 30 h) 26 = ml_I m 26 := fun g h => by rw [pl_I_wI, if_neg (by decide), pl_I_wI, if_neg (by decide)]
  have hI28 : ∀ g h, ml_I (pl_wI (pl_wI m 29 g) 30 h) 28 = ml_I m 28 := fun g h => by rw [pl_I_wI, if_neg (by decide), pl_I_wI, if_neg (by decide)]
  have hI29 : ∀ g h, ml_I (pl_wI (pl_wI m 29 g) 30 h) 29 = g := fun g h => by rw [pl_I_wI, if_neg (by decide), pl_I_wI, if_pos rfl]
  have hI30 : ∀ g h, ml_I (pl_wI (pl_wI m 29 g) 30 h) 30 = h := fun g h => by rw [pl_I_wI, if_pos rfl]
  have hIt : ∀ g h k, k < n → ml_I (pl_wI (pl_wI m 29 g) 30 h) (ml_R m 27 k) = ml_I m (ml_R m 27 k) := fun g h k hkn => by
    have := (hk k hkn).1
    rw [pl_I_wI, if_neg (by omega), pl_I_wI, if_neg (by omega)]
  have k26 := pl_k26 hS
  have k27 := pl_k27 hS
  have k28 := pl_k28 hS
  have k29 := pl_k29 hS
  have k30 := pl_k30 hS
  have r0 := pl_r26_0 hS
  have r2 := pl_r26_2 hS
  have r3 := pl_r26_3 hS
  have r4 := pl_r26_4 hS
  have ha99 : ∀ k, k < n → a k ≤ 99 := fun k hkn => by have := hk k hkn; omega
  -- who can end
  have ece : ∀ (g h : Nat → Int32) (o k : Nat), o < N → k < n → (0 < o → g o = nI (pl_tl n a b (pl_on x) (o + 1) o) ∧ h o = nI (pl_ov a o n)) →
      fX3_canEnd 26 (nI o) (nI k) (pl_wI (pl_wI m 29 g) 30 h) = some (if (decide (o = 0) || (decide (pl_ov a o n ≤ b k) && decide (pl_tl n a b (pl_on x) (o + 1) o &&& pl_set (fun j => pl_on x j k) n ≠ 0))) = true then 1 else 0) := fun g h o k ho hkn hgh => by
    by_cases h0 : o = 0
    · rw [decide_eq_true h0, Bool.true_or, if_pos rfl]
      simp (disch := omega) only [fX3_canEnd, pl_eq0, eq_true h0, if_true]
    · obtain ⟨hg, hh⟩ := hgh (by omega)
      obtain ⟨-, t1, -, t2, -, t3, t4, -⟩ := hk k hkn
      have i1 := fun g h => hIt g h k hkn
      have hov := pl_ov_99 ha99 o n (Nat.le_refl n)
      have hl1 := pl_tl_lt n a b (pl_on x) (o + 1) o
      have hand : pl_tl n a b (pl_on x) (o + 1) o &&& pl_set (fun j => pl_on x j k) n ≤ pl_tl n a b (pl_on x) (o + 1) o := Nat.and_le_left
      have h28k := h28 k hkn
      unfold pl_ah at h28k
      rw [decide_eq_false h0, Bool.false_or]
      by_cases hb : pl_ov a o n ≤ b k
      · rw [decide_eq_true hb, Bool.true_and]
        by_cases hz : pl_tl n a b (pl_on x) (o + 1) o &&& pl_set (fun j => pl_on x j k) n = 0
        · rw [if_neg (by simp [hz])]
          simp (disch := omega) only [fX3_canEnd, ↓pl_let, pl_b1, pl_b2, ↓reduceIte, pl_eq0, h0, if_false, pl_K_wI, k26, k27, k28, k29, k30, if_true, pl_R_wI, r0, r2, r3, r4, pl_in, nI_clamp, show o < 1024 by omega, show k < 10 by omega, and_self, t1, hI30, hI29, hI28, hh, hg, i1, t2, nI_ltI, show ¬ b k < pl_ov a o n by omega, h28k, pl_and, hz]
        · rw [if_pos (by simp [hz])]
          simp (disch := omega) only [fX3_canEnd, ↓pl_let, pl_b1, pl_b2, ↓reduceIte, pl_eq0, h0, if_false, pl_K_wI, k26, k27, k28, k29, k30, if_true, pl_R_wI, r0, r2, r3, r4, pl_in, nI_clamp, show o < 1024 by omega, show k < 10 by omega, and_self, t1, hI30, hI29, hI28, hh, hg, i1, t2, nI_ltI, show ¬ b k < pl_ov a o n by omega, h28k, pl_and, hz]
      · rw [decide_eq_false hb, Bool.false_and, if_neg (by decide)]
        simp (disch := omega) only [fX3_canEnd, ↓pl_let, pl_b1, pl_b2, ↓reduceIte, pl_eq0, h0, if_false, pl_K_wI, k26, k27, k30, if_true, pl_R_wI, r0, r4, pl_in, nI_clamp, show o < 1024 by omega, show k < 10 by omega, and_self, t1, hI30, hh, i1, t2, nI_ltI, show b k < pl_ov a o n by omega]
  have ei : ∀ (K : Nat → Int32 → ml_M → Option ml_M) (s : Nat), 1 ≤ s → s < N → fX3_findLasts_32 K ml_fu 26 (nI s) 0 (pl_wI (pl_wI m 29 (fun y => if y = s then 0 else pl_tw (ml_I m 29) (pl_lt n a b x) 1 s y)) 30 (fun y => if y = s then 0 else pl_tw (ml_I m 30) (pl_ot2 n a) 1 s y)) = K 26 (nI (s + 1)) (pl_fl m n a b x (s + 1)) := fun K s hs1 hs => by
    have hh := pl_for (F := fun fu k (_ : Unit) => fX3_findLasts_32 K fu 26 (nI s) (nI k) (pl_wI (pl_wI m 29 (fun y => if y = s then nI (pl_set (pl_ce n a b (pl_on x) (pl_tl n a b (pl_on x) s) s) k) else pl_tw (ml_I m 29) (pl_lt n a b x) 1 s y)) 30 (fun y => if y = s then nI (pl_ov a s k) else pl_tw (ml_I m 30) (pl_ot2 n a) 1 s y))) (R := K 26 (nI (s + 1)) (pl_fl m n a b x (s + 1))) n (fun _ => ()) (fun fu k hkn => ?_) (fun fu => ?_) ml_fu (by rw [pl_fu]; omega)
    · exact hh
    · show fX3_findLasts_32 K (fu + 1) 26 (nI s) (nI k) (pl_wI (pl_wI m 29 (fun y => if y = s then nI (pl_set (pl_ce n a b (pl_on x) (pl_tl n a b (pl_on x) s) s) k) else pl_tw (ml_I m 29) (pl_lt n a b x) 1 s y)) 30 (fun y => if y = s then nI (pl_ov a s k) else pl_tw (ml_I m 30) (pl_ot2 n a) 1 s y)) = fX3_findLasts_32 K fu 26 (nI s) (nI (k + 1)) (pl_wI (pl_wI m 29 (fun y => if y = s then nI (pl_set (pl_ce n a b (pl_on x) (pl_tl n a b (pl_on x) s) s) (k + 1)) else pl_tw (ml_I m 29) (pl_lt n a b x) 1 s y)) 30 (fun y => if y = s then nI (pl_ov a s (k + 1)) else pl_tw (ml_I m 30) (pl_ot2 n a) 1 s y))
      obtain ⟨-, t1, t2, -, -, t3, t4, -⟩ := hk k hkn
      have i1 := fun g h => hIt g h k hkn
      have h1 := fun M => (pl_has (s := s) (t := k) (by omega) (by omega) M).1
      have hov := pl_ov_99 ha99 s k (by omega)
      rw [pl_set1]
      by_cases hb : s.testBit k = true
      · have hdl := pl_del_lt hb
        have hmx : (if nI (pl_ov a s k) < nI (a k) then nI (a k) else nI (pl_ov a s k)) = nI (pl_ov a s (k + 1)) := by
          rw [pl_ov1]
          by_cases hlt : pl_ov a s k < a k
          · rw [if_pos ((nI_ltI (by omega) (by omega)).mpr hlt), if_pos ⟨hb, hlt⟩]
          · rw [if_neg (fun z => hlt ((nI_ltI (by omega) (by omega)).mp z)), if_neg (fun z => hlt z.2)]
        have hcc := fun w => ece (fun y => if y = s then nI (pl_set (pl_ce n a b (pl_on x) (pl_tl n a b (pl_on x) s) s) k) else pl_tw (ml_I m 29) (pl_lt n a b x) 1 s y) (fun y => if y = s then w else pl_tw (ml_I m 30) (pl_ot2 n a) 1 s y) (s ^^^ 2 ^ k) k (by omega) hkn (fun ho => by
          rw [if_neg (by omega), if_neg (by omega), pl_tw_i (by omega), pl_tw_i (by omega)]
          exact ⟨rfl, rfl⟩)
        have hst : pl_tl n a b (pl_on x) ((s ^^^ 2 ^ k) + 1) (s ^^^ 2 ^ k) = pl_tl n a b (pl_on x) s (s ^^^ 2 ^ k) := (pl_tl_st n a b (pl_on x) (by omega) (by omega)).symm
        rw [hst] at hcc
        have hce : pl_ce n a b (pl_on x) (pl_tl n a b (pl_on x) s) s k = (decide (s ^^^ 2 ^ k = 0) || (decide (pl_ov a (s ^^^ 2 ^ k) n ≤ b k) && decide (pl_tl n a b (pl_on x) s (s ^^^ 2 ^ k) &&& pl_set (fun j => pl_on x j k) n ≠ 0))) := by
          unfold pl_ce; rw [hb, Bool.true_and]
        rw [← hce] at hcc
        have hdn := pl_andn (pl_bit_sub hb)
        rw [e1] at hdn
        have hu1 := pl_upd2 (pl_tw (ml_I m 30) (pl_ot2 n a) 1 s) s (nI (pl_ov a s k)) (nI (pl_ov a s (k + 1)))
        have hu2 := pl_upd2 (pl_tw (ml_I m 29) (pl_lt n a b x) 1 s) s (nI (pl_set (pl_ce n a b (pl_on x) (pl_tl n a b (pl_on x) s) s) k)) (nI (pl_set (pl_ce n a b (pl_on x) (pl_tl n a b (pl_on x) s) s) k ||| 2 ^ k))
        by_cases hc : pl_ce n a b (pl_on x) (pl_tl n a b (pl_on x) s) s k = true
        · rw [if_pos hc]
          simp (disch := omega) only [fX3_findLasts_32, fX3_findLasts_102, ↓pl_let, pl_b1, pl_b2, ↓reduceIte, pl_K_wI, k26, k27, k29, k30, if_true, hI26, hn, nI_leI, show ¬ n ≤ k by omega, if_false, h1, hb, e1, e31, pl_eq0, Nat.reduceEqDiff, pl_R_wI, r0, r3, r4, pl_in, nI_clamp, show s < 1024 by omega, show k < 10 by omega, and_self, t1, hI30, i1, t2, hmx, pl_wI_sI, hu1, hu2, pl_and, pl_shl2, hdn, hcc, hc, hI29, pl_or, pl_s3029, nI_add]
        · rw [if_neg hc]
          have hc0 : pl_ce n a b (pl_on x) (pl_tl n a b (pl_on x) s) s k = false := by simpa using hc
          simp (disch := omega) only [fX3_findLasts_32, fX3_findLasts_102, ↓pl_let, pl_b1, pl_b2, ↓reduceIte, pl_K_wI, k26, k27, k29, k30, if_true, hI26, hn, nI_leI, show ¬ n ≤ k by omega, if_false, h1, hb, e1, e31, pl_eq0, Nat.reduceEqDiff, pl_R_wI, r0, r3, r4, pl_in, nI_clamp, show s < 1024 by omega, show k < 10 by omega, and_self, t1, hI30, i1, t2, hmx, pl_wI_sI, hu1, pl_and, pl_shl2, hdn, hcc, hc0, Bool.false_eq_true, nI_add]
      · have hb0 : s.testBit k = false := by simpa using hb
        have hc0 : pl_ce n a b (pl_on x) (pl_tl n a b (pl_on x) s) s k = false := by unfold pl_ce; rw [hb0, Bool.false_and]
        have hz : ∀ (M : ml_M) (f : Int32 → Option ml_M), ml_b1 (fX10_has (nI s) (nI k) M) f = f 0 := fun M f => by rw [h1, hb0]; rfl
        rw [hc0, if_neg (by decide), pl_ov1, if_neg (fun z => hb z.1)]
        simp (disch := omega) only [fX3_findLasts_32, fX3_findLasts_102, ↓hz, ↓pl_let, pl_b1, pl_b2, ↓reduceIte, pl_K_wI, k26, if_true, hI26, hn, nI_leI, show ¬ n ≤ k by omega, if_false, e1, nI_add]
    · unfold pl_fl
      rw [← pl_tw_1 (ml_I m 29) (pl_lt n a b x) hs1 (nI (pl_set (pl_ce n a b (pl_on x) (pl_tl n a b (pl_on x) s) s) n)) (by unfold pl_lt; rw [pl_tl1, if_pos rfl]), ← pl_tw_1 (ml_I m 30) (pl_ot2 n a) hs1 (nI (pl_ov a s n)) rfl]
      simp (disch := omega) only [fX3_findLasts_32, fX3_findLasts_108, ↓pl_let, pl_b1, pl_b2, ↓reduceIte, pl_K_wI, k26, if_true, hI26, hn, nI_leI, Nat.le_refl, e1, nI_add]
  have hsh : (1 : Int32) <<< (nI n &&& 31) = nI N := by rw [pl_shl1 (by omega), hN]
  have ho := pl_for (F := fun fu j (_ : Unit) => fX3_findLasts_6 fu 26 (nI (1 + j)) (pl_fl m n a b x (1 + j))) (R := some (pl_fl m n a b x N)) (N - 1) (fun _ => ()) (fun fu j hj => ?_) (fun fu => ?_) ml_fu (by rw [pl_fu]; omega)
  · have e : pl_fl m n a b x (1 + 0) = m := by
      unfold pl_fl
      rw [Nat.add_zero, pl_tw_0, pl_tw_0, pl_wI_0, pl_wI_0]
    rw [e] at ho
    exact ho
  · show fX3_findLasts_6 (fu + 1) 26 (nI (1 + j)) (pl_fl m n a b x (1 + j)) = fX3_findLasts_6 fu 26 (nI (1 + (j + 1))) (pl_fl m n a b x (1 + (j + 1)))
    rw [show 1 + (j + 1) = 1 + j + 1 by omega, ← ei (fX3_findLasts_6 fu) (1 + j) (by omega) (by omega)]
    unfold pl_fl
    simp (disch := omega) only [fX3_findLasts_6, ↓pl_let, pl_b1, pl_b2, ↓reduceIte, pl_K_wI, k26, k29, k30, if_true, hI26, hn, hsh, nI_leI, show ¬ N ≤ 1 + j by omega, if_false, pl_R_wI, r3, r4, pl_in, nI_clamp, show 1 + j < 1024 by omega, and_self, pl_wI_sI, pl_s3029, pl_K_sI, pl_R_sI]
  · rw [show 1 + (N - 1) = N by omega]
    unfold pl_fl
    simp (disch := omega) only [fX3_findLasts_6, ↓pl_let, pl_b1, pl_b2, ↓reduceIte, pl_K_wI, k26, if_true, hI26, hn, hsh, nI_leI, Nat.le_refl]

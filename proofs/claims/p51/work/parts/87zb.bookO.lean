/-! A BOOK READ: the pair book. -/
/-- what a reading leaves of the state -/
def pl_smB (A B : pl_A) : Prop := (∀ g, 4 ≤ g → pl_N B g = pl_N A g) ∧ (∀ i, 3 ≤ i → pl_N B 0 i 0 = pl_N (pl_b0 A) 0 i 0) ∧ B.2 = A.2
theorem pl_smB.aL {A B : pl_A} (h : pl_smB A B) (v : Nat → Nat) : pl_smB A (pl_aL B v) := by
  refine ⟨fun g hg => ?_, fun i hi => ?_, h.2.2⟩
  · rw [← h.1 g hg]
    funext i k
    have e : pl_N (pl_aL B v) g i k = if g = 0 ∧ i = 0 ∧ k = 0 then B.1 0 0 0 + 1 else if g = 1 ∧ i = B.1 0 0 0 then v k else B.1 g i k := rfl
    rw [e, if_neg (by omega), if_neg (by omega)]; rfl
  · rw [← h.2.1 i hi]
    have e : pl_N (pl_aL B v) 0 i 0 = if 0 = 0 ∧ i = 0 ∧ 0 = 0 then B.1 0 0 0 + 1 else if 0 = 1 ∧ i = B.1 0 0 0 then v 0 else B.1 0 i 0 := rfl
    rw [e, if_neg (by omega), if_neg (by omega)]; rfl
theorem pl_smB.aT {A B : pl_A} (h : pl_smB A B) (a b : Nat) : pl_smB A (pl_aT B a b) := by
  refine ⟨fun g hg => ?_, fun i hi => ?_, h.2.2⟩
  · rw [← h.1 g hg]
    funext i k
    have e : pl_N (pl_aT B a b) g i k = if g = 0 ∧ i = 1 ∧ k = 0 then B.1 0 1 0 + 1 else if g = 2 ∧ i = B.1 0 1 0 then (if k = 0 then a else b) else B.1 g i k := rfl
    rw [e, if_neg (by omega), if_neg (by omega)]; rfl
  · rw [← h.2.1 i hi]
    have e : pl_N (pl_aT B a b) 0 i 0 = if 0 = 0 ∧ i = 1 ∧ 0 = 0 then B.1 0 1 0 + 1 else if 0 = 2 ∧ i = B.1 0 1 0 then (if 0 = 0 then a else b) else B.1 0 i 0 := rfl
    rw [e, if_neg (by omega), if_neg (by omega)]; rfl
theorem pl_smB.aP {A B : pl_A} (h : pl_smB A B) (a b : Nat) : pl_smB A (pl_aP B a b) := by
  refine ⟨fun g hg => ?_, fun i hi => ?_, h.2.2⟩
  · rw [← h.1 g hg]
    funext i k
    have e : pl_N (pl_aP B a b) g i k = if g = 0 ∧ i = 2 ∧ k = 0 then B.1 0 2 0 + 1 else if g = 3 ∧ i = B.1 0 2 0 then (if k = 0 then a else b) else B.1 g i k := rfl
    rw [e, if_neg (by omega), if_neg (by omega)]; rfl
  · rw [← h.2.1 i hi]
    have e : pl_N (pl_aP B a b) 0 i 0 = if 0 = 0 ∧ i = 2 ∧ 0 = 0 then B.1 0 2 0 + 1 else if 0 = 3 ∧ i = B.1 0 2 0 then (if 0 = 0 then a else b) else B.1 0 i 0 := rfl
    rw [e, if_neg (by omega), if_neg (by omega)]; rfl
theorem pl_item_sm {A B : pl_A} (h : pl_smB A B) (f : Nat → Int32) (L p : Nat) : pl_smB A (pl_item f L B p).1 := by
  unfold pl_item
  by_cases c1 : f p = 32
  · rw [if_pos c1]; exact h
  rw [if_neg c1]
  by_cases c2 : f p = 108 ∧ pl_N B 0 0 0 < 8
  · rw [if_pos c2]
    dsimp only
    by_cases c0 : (pl_ldq f L p).2.2 = 0
    · rw [if_pos c0]; exact h.aL _
    · rw [if_neg c0]; exact h
  rw [if_neg c2]
  by_cases c3 : f p = 107 ∧ pl_N B 0 1 0 < 8
  · rw [if_pos c3]
    dsimp only
    by_cases c0 : (pl_trkq f L p).2.2 = 0
    · rw [if_pos c0]; exact h.aT _ _
    · rw [if_neg c0]; exact h
  rw [if_neg c3]
  by_cases c4 : f p = 117 ∧ pl_N B 0 2 0 < 12
  · rw [if_pos c4]
    dsimp only
    by_cases c0 : (pl_plq f L (pl_N B 0 1 0) p).2.2 = 0
    · rw [if_pos c0]; exact h.aP _ _
    · rw [if_neg c0]; exact h
  rw [if_neg c4]; exact h
theorem pl_rdb_sm (A : pl_A) (f : Nat → Int32) (L : Nat) : ∀ i, pl_smB A (pl_rdb f L (pl_b0 A) i).1 := by
  intro i
  induction i with
  | zero =>
    refine ⟨fun g hg => ?_, fun i _ => rfl, rfl⟩
    funext i k
    have e : pl_N (pl_b0 A) g i k = if g = 0 ∧ k = 0 ∧ i ≤ 6 then 0 else A.1 g i k := rfl
    show pl_N (pl_b0 A) g i k = _
    rw [e, if_neg (by omega)]; rfl
  | succ i ih =>
    rw [pl_rdb1]
    by_cases c : (pl_rdb f L (pl_b0 A) i).2.2 = 0 ∧ (pl_rdb f L (pl_b0 A) i).2.1 < L
    · rw [if_pos c]; exact pl_item_sm ih _ _ _
    · rw [if_neg c]; exact ih
def pl_cpy (cap : Nat) (x u : Nat → Int32) (i : Nat) : Nat → Int32 := fun j => if j < i ∧ j < cap then x j else u j
theorem pl_cpy_1 {cap i : Nat} (x u : Nat → Int32) (h : i < cap) : pl_up (pl_cpy cap x u i) i (x i) = pl_cpy cap x u (i + 1) := by
  funext j
  unfold pl_up
  by_cases hj : j = i
  · rw [if_pos hj]
    show x i = if j < i + 1 ∧ j < cap then x j else u j
    rw [if_pos (by omega), hj]
  · rw [if_neg hj]
    show (if j < i ∧ j < cap then x j else u j) = if j < i + 1 ∧ j < cap then x j else u j
    by_cases h2 : j < i ∧ j < cap
    · rw [if_pos h2, if_pos (by omega)]
    · rw [if_neg h2, if_neg (by omega)]
theorem pl_cpy_2 {cap i : Nat} (x u : Nat → Int32) (h : cap ≤ i) : pl_cpy cap x u (i + 1) = pl_cpy cap x u i := by
  funext j
  show (if j < i + 1 ∧ j < cap then x j else u j) = if j < i ∧ j < cap then x j else u j
  by_cases h2 : j < i ∧ j < cap
  · rw [if_pos h2, if_pos (by omega)]
  · rw [if_neg h2, if_neg (by omega)]
theorem pl_cpy_0 (cap : Nat) (x u : Nat → Int32) : pl_cpy cap x u 0 = u := by
  funext j
  exact if_neg (fun q => Nat.not_lt_zero _ q.1)
def pl_cq (Y : ml_M) (a b c : Nat → Int32) : ml_M := pl_wI (pl_wI (pl_wI Y 40 a) 41 b) 42 c
theorem pl_cq_o (Y : ml_M) (a b c : Nat → Int32) {q : Nat} (h : q ≠ 40 ∧ q ≠ 41 ∧ q ≠ 42) : ml_I (pl_cq Y a b c) q = ml_I Y q := by
  unfold pl_cq
  rw [pl_I_wI, if_neg h.2.2, pl_I_wI, if_neg h.2.1, pl_I_wI, if_neg h.1]
theorem pl_cq_40 (Y : ml_M) (a b c : Nat → Int32) : ml_I (pl_cq Y a b c) 40 = a := by
  unfold pl_cq
  rw [pl_I_wI, if_neg (by decide), pl_I_wI, if_neg (by decide), pl_I_wI, if_pos rfl]
theorem pl_cq_41 (Y : ml_M) (a b c : Nat → Int32) : ml_I (pl_cq Y a b c) 41 = b := by
  unfold pl_cq
  rw [pl_I_wI, if_neg (by decide), pl_I_wI, if_pos rfl]
theorem pl_cq_42 (Y : ml_M) (a b c : Nat → Int32) : ml_I (pl_cq Y a b c) 42 = c := by
  unfold pl_cq
  rw [pl_I_wI, if_pos rfl]
theorem pl_cq_s40 (Y : ml_M) (a b c : Nat → Int32) (k : Nat) (w : Int32) : ml_sI (pl_cq Y a b c) 40 k w = pl_cq Y (pl_up a k w) b c := by
  unfold pl_cq
  rw [pl_sIsw _ (by decide), pl_sIsw _ (by decide), pl_wI_sI]; rfl
theorem pl_cq_s41 (Y : ml_M) (a b c : Nat → Int32) (k : Nat) (w : Int32) : ml_sI (pl_cq Y a b c) 41 k w = pl_cq Y a (pl_up b k w) c := by
  unfold pl_cq
  rw [pl_sIsw _ (by decide), pl_wI_sI]; rfl
theorem pl_cq_s42 (Y : ml_M) (a b c : Nat → Int32) (k : Nat) (w : Int32) : ml_sI (pl_cq Y a b c) 42 k w = pl_cq Y a b (pl_up c k w) := by
  unfold pl_cq
  rw [pl_wI_sI]; rfl
theorem pl_cq_K (Y : ml_M) (a b c : Nat → Int32) : ml_K (pl_cq Y a b c) = ml_K Y := rfl
theorem pl_cq_R (Y : ml_M) (a b c : Nat → Int32) : ml_R (pl_cq Y a b c) = ml_R Y := rfl
/-- the reference moves in -/
theorem pl_bookM {Y : ml_M} (hS : pl_Sh Y) {x y z : Nat → Int32} (h43 : ml_I Y 43 = x) (h44 : ml_I Y 44 = y) (h45 : ml_I Y 45 = z) : fX11_book_63 ml_fu 33 0 Y = fX11_book_123 33 (pl_cq Y (pl_cpy 40 x (ml_I Y 40) 40) (pl_cpy 16 y (ml_I Y 41) 40) (pl_cpy 24 z (ml_I Y 42) 40)) := by
  have k33 := pl_k33 hS
  have k40 := pl_k40 hS
  have k41 := pl_k41 hS
  have k42 := pl_k42 hS
  have k43 := pl_k43 hS
  have k44 := pl_k44 hS
  have k45 := pl_k45 hS
  have r12 := pl_r33_12 hS
  have r13 := pl_r33_13 hS
  have r14 := pl_r33_14 hS
  have r20 := pl_r33_20 hS
  have r21 := pl_r33_21 hS
  have r22 := pl_r33_22 hS
  have e40 : (40 : Int32) = nI 40 := rfl
  have e16 : (16 : Int32) = nI 16 := rfl
  have e24 : (24 : Int32) = nI 24 := rfl
  have i43 : ∀ a b c, ml_I (pl_cq Y a b c) 43 = x := fun a b c => by rw [pl_cq_o _ _ _ _ (by decide), h43]
  have i44 : ∀ a b c, ml_I (pl_cq Y a b c) 44 = y := fun a b c => by rw [pl_cq_o _ _ _ _ (by decide), h44]
  have i45 : ∀ a b c, ml_I (pl_cq Y a b c) 45 = z := fun a b c => by rw [pl_cq_o _ _ _ _ (by decide), h45]
  have hh := pl_for (F := fun fu i (_ : Unit) => fX11_book_63 fu 33 (nI i) (pl_cq Y (pl_cpy 40 x (ml_I Y 40) i) (pl_cpy 16 y (ml_I Y 41) i) (pl_cpy 24 z (ml_I Y 42) i))) (R := fX11_book_123 33 (pl_cq Y (pl_cpy 40 x (ml_I Y 40) 40) (pl_cpy 16 y (ml_I Y 41) 40) (pl_cpy 24 z (ml_I Y 42) 40))) 40 (fun _ => ()) (fun fu i hi => ?_) (fun fu => ?_) ml_fu (by rw [pl_fu]; omega)
  · have e0 : pl_cq Y (pl_cpy 40 x (ml_I Y 40) 0) (pl_cpy 16 y (ml_I Y 41) 0) (pl_cpy 24 z (ml_I Y 42) 0) = Y := by
      rw [pl_cpy_0, pl_cpy_0, pl_cpy_0]
      unfold pl_cq
      rw [pl_wI_0, pl_wI_0, pl_wI_0]
    rw [e0] at hh
    exact hh
  · show fX11_book_63 (fu + 1) 33 (nI i) (pl_cq Y (pl_cpy 40 x (ml_I Y 40) i) (pl_cpy 16 y (ml_I Y 41) i) (pl_cpy 24 z (ml_I Y 42) i)) = fX11_book_63 fu 33 (nI (i + 1)) (pl_cq Y (pl_cpy 40 x (ml_I Y 40) (i + 1)) (pl_cpy 16 y (ml_I Y 41) (i + 1)) (pl_cpy 24 z (ml_I Y 42) (i + 1)))
    have c40 := pl_cpy_1 x (ml_I Y 40) hi
    by_cases h16 : i < 16
    · have c16 := pl_cpy_1 y (ml_I Y 41) h16
      have c24 := pl_cpy_1 z (ml_I Y 42) (show i < 24 by omega)
      rw [← c40, ← c16, ← c24]
      simp (disch := omega) only [fX11_book_63, fX11_book_99, fX11_book_117, ↓pl_let, pl_b1, pl_b2, ↓reduceIte, pl_cq_K, pl_cq_R, k33, if_true, e40, e16, e24, nI_leI, show ¬ 40 ≤ i by omega, show ¬ 16 ≤ i by omega, show ¬ 24 ≤ i by omega, if_false, r12, r13, r14, r20, r21, r22, pl_in, nI_clamp, k40, k41, k42, k43, k44, k45, hi, h16, show i < 24 by omega, and_self, i43, i44, i45, pl_cq_s40, pl_cq_s41, pl_cq_s42, nI_1]
    · have c16 := pl_cpy_2 y (ml_I Y 41) (show 16 ≤ i by omega)
      by_cases h24 : i < 24
      · have c24 := pl_cpy_1 z (ml_I Y 42) h24
        rw [← c40, c16, ← c24]
        simp (disch := omega) only [fX11_book_63, fX11_book_99, fX11_book_117, ↓pl_let, pl_b1, pl_b2, ↓reduceIte, pl_cq_K, pl_cq_R, k33, if_true, e40, e16, e24, nI_leI, show ¬ 40 ≤ i by omega, show 16 ≤ i by omega, show ¬ 24 ≤ i by omega, if_false, r12, r13, r14, r20, r21, r22, pl_in, nI_clamp, k40, k41, k42, k43, k44, k45, hi, h24, and_self, i43, i44, i45, pl_cq_s40, pl_cq_s41, pl_cq_s42, nI_1]
      · have c24 := pl_cpy_2 z (ml_I Y 42) (show 24 ≤ i by omega)
        rw [← c40, c16, c24]
        simp (disch := omega) only [fX11_book_63, fX11_book_99, fX11_book_117, ↓pl_let, pl_b1, pl_b2, ↓reduceIte, pl_cq_K, pl_cq_R, k33, if_true, e40, e16, e24, nI_leI, show ¬ 40 ≤ i by omega, show 16 ≤ i by omega, show 24 ≤ i by omega, if_false, r12, r13, r14, r20, r21, r22, pl_in, nI_clamp, k40, k41, k42, k43, k44, k45, hi, and_self, i43, i44, i45, pl_cq_s40, pl_cq_s41, pl_cq_s42, nI_1]
  · have hle : (40 : Int32) ≤ nI 40 := by decide
    show fX11_book_63 (fu + 1) 33 (nI 40) _ = _
    rw [fX11_book_63, if_pos hle]
/-- the state behind a book is within its bounds -/
theorem pl_bookW {A B : pl_A} (hW : pl_W A) (h : pl_smB A B) (hB : pl_BW B) : pl_W B := by
  obtain ⟨⟨b1, b2, b3⟩, wl, wt, wp⟩ := hB
  obtain ⟨w1, w2, w3, w4, w5, w6, w7, w8, w9⟩ := hW
  unfold pl_Wc at w1
  have n3 : pl_N B 0 3 0 = 0 := h.2.1 3 (by decide)
  have n4 : pl_N B 0 4 0 = 0 := h.2.1 4 (by decide)
  have n5 : pl_N B 0 5 0 = 0 := h.2.1 5 (by decide)
  have n6 : pl_N B 0 6 0 = 0 := h.2.1 6 (by decide)
  have n7 : pl_N B 0 7 0 = pl_N A 0 7 0 := h.2.1 7 (by decide)
  have n8 : pl_N B 0 8 0 = pl_N A 0 8 0 := h.2.1 8 (by decide)
  have hV : pl_V B = pl_V A := by funext g i k; show B.2.1 g i k = A.2.1 g i k; rw [h.2.2]
  refine ⟨?_, wl, wt, wp, fun i hi => by omega, fun i hi => by omega, fun i hi => by omega, fun i hi => by omega, ?_⟩
  · unfold pl_Wc; omega
  · unfold pl_Wr; rw [h.1 8 (by decide), h.1 9 (by decide), hV]; exact w9

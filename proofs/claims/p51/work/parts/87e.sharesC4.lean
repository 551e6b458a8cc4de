/-! SHARINGS: the class's sums; its tables made anew. -/
def pl_u14 (A : pl_A) (W : List (List Nat)) (n : Nat) : Nat := (W.filter fun w => decide (pl_moved A w ≤ n)).length
def pl_aq (A : pl_A) (w : List Nat) (y : Nat) : Bool := decide (y % 64 / 8 < pl_N A 0 1 0) && decide (w.getD (y % 64 / 8) 0 = y % 8)
def pl_u15 (A : pl_A) (W : List (List Nat)) (y : Nat) : Nat := (W.filter fun w => decide (pl_moved A w ≤ y / 64) && pl_aq A w y).length
theorem pl_len_2 {p q r : List Nat → Bool} (W : List (List Nat)) (h : ∀ w, (p w = true ↔ (q w = true ∨ r w = true)) ∧ ¬ (q w = true ∧ r w = true)) : (W.filter p).length = (W.filter q).length + (W.filter r).length := by
  induction W with
  | nil => rfl
  | cons w W ih =>
    rw [List.filter_cons, List.filter_cons, List.filter_cons]
    have := h w
    by_cases hp : p w = true
    · rw [if_pos hp]
      rcases this.1.mp hp with hq | hr
      · rw [if_pos hq, if_neg (fun z => this.2 ⟨hq, z⟩), List.length_cons, List.length_cons, ih]; omega
      · rw [if_pos hr, if_neg (fun z => this.2 ⟨z, hr⟩), List.length_cons, List.length_cons, ih]; omega
    · rw [if_neg hp, if_neg (fun z => hp (this.1.mpr (Or.inl z))), if_neg (fun z => hp (this.1.mpr (Or.inr z))), ih]
theorem pl_len_eq {p q : List Nat → Bool} (W : List (List Nat)) (h : ∀ w ∈ W, p w = q w) : (W.filter p).length = (W.filter q).length := by
  induction W with
  | nil => rfl
  | cons w W ih =>
    have ih := ih fun x hx => h x (List.mem_cons_of_mem _ hx)
    rw [List.filter_cons, List.filter_cons, h w List.mem_cons_self]
    by_cases hq : q w = true
    · rw [if_pos hq, if_pos hq, List.length_cons, List.length_cons, ih]
    · rw [if_neg hq, if_neg hq, ih]
theorem pl_u14_0 (A : pl_A) (W : List (List Nat)) : pl_u14 A W 0 = pl_n14 A W 0 := by
  unfold pl_u14 pl_n14
  refine pl_len_eq W fun w _ => ?_
  by_cases h : pl_moved A w = 0
  · rw [decide_eq_true (by omega), h]; rfl
  · rw [decide_eq_false (by omega), eq_comm]; simpa using h
theorem pl_u14_1 (A : pl_A) (W : List (List Nat)) (n : Nat) : pl_u14 A W (n + 1) = pl_n14 A W (n + 1) + pl_u14 A W n := by
  unfold pl_u14 pl_n14
  refine pl_len_2 W fun w => ?_
  simp only [decide_eq_true_eq, beq_iff_eq]
  omega
theorem pl_u15_0 (A : pl_A) (W : List (List Nat)) {p : Nat} (hp : p < 64) : pl_u15 A W p = pl_n15 A W p := by
  unfold pl_u15 pl_n15
  refine pl_len_eq W fun w _ => ?_
  unfold pl_at pl_aq
  rw [show p / 64 = 0 by omega, ← Bool.and_assoc]
  have : decide (pl_moved A w ≤ 0) = decide (0 = pl_moved A w) := by
    by_cases h : pl_moved A w = 0
    · rw [decide_eq_true (by omega), decide_eq_true h.symm]
    · rw [decide_eq_false (by omega), decide_eq_false (fun z => h z.symm)]
  rw [this]
theorem pl_u15_1 (A : pl_A) (W : List (List Nat)) {m p : Nat} (hp : p < 64) : pl_u15 A W ((m + 1) * 64 + p) = pl_n15 A W ((m + 1) * 64 + p) + pl_u15 A W (m * 64 + p) := by
  unfold pl_u15 pl_n15
  refine pl_len_2 W fun w => ?_
  unfold pl_at pl_aq
  rw [show ((m + 1) * 64 + p) / 64 = m + 1 by omega, show (m * 64 + p) / 64 = m by omega, show ((m + 1) * 64 + p) % 64 = p by omega, show (m * 64 + p) % 64 = p by omega, show ((m + 1) * 64 + p) % 8 = p % 8 by omega, show (m * 64 + p) % 8 = p % 8 by omega]
  simp only [Bool.and_eq_true, decide_eq_true_eq]
  constructor
  · constructor
    · rintro ⟨h1, h2⟩
      by_cases c : m + 1 = pl_moved A w
      · exact Or.inl ⟨⟨c, h2.1⟩, h2.2⟩
      · exact Or.inr ⟨by omega, h2⟩
    · rintro (⟨⟨h1, h2⟩, h3⟩ | ⟨h1, h2⟩)
      · exact ⟨by omega, h2, h3⟩
      · exact ⟨by omega, h2⟩
  · rintro ⟨⟨⟨h1, -⟩, -⟩, h2, -⟩
    omega
theorem pl_lo2_1 (n : Nat) (f f' : Nat → Nat) (g : Nat → Int32) {k : Nat} (hk : k < n) (h : ∀ y, y ≠ k → f' y = f y) : pl_up (pl_lo2 n f g) k (nI (f' k)) = pl_lo2 n f' g := by
  funext y
  unfold pl_up pl_lo2
  by_cases hy : y = k
  · rw [if_pos hy, hy, if_pos hk]
  · rw [if_neg hy, h y hy]
theorem pl_sumsC {Z : ml_M} {A : pl_A} (hx : pl_sx A Z) (W : List (List Nat)) (v : Int32) (a c g14 g15 : Nat → Int32) : fX7_gather_76 ml_fu 12 1 (pl_sy Z v a (pl_lo2 21 (pl_n14 A W) g14) (pl_lo2 1344 (pl_n15 A W) g15) c) = some (ml_sI (pl_sy Z v a (pl_lo2 21 (pl_u14 A W) g14) (pl_lo2 1344 (pl_u15 A W) g15) c) 12 0 0) := by
  have hS := hx.1
  have k12 := pl_k12 hS
  have k14 := pl_k14 hS
  have k15 := pl_k15 hS
  have r3 := pl_r12_3 hS
  have r4 := pl_r12_4 hS
  have e1 : (1 : Int32) = nI 1 := rfl
  have e20 : (20 : Int32) = nI 20 := rfl
  have e64 : (64 : Int32) = nI 64 := rfl
  obtain ⟨T, hT⟩ : ∃ T : Nat → Nat → ml_M, T = fun k p => pl_sy Z v a (pl_lo2 21 (fun y => if y < k then pl_u14 A W y else pl_n14 A W y) g14) (pl_lo2 1344 (fun y => if y < p then pl_u15 A W y else pl_n15 A W y) g15) c := ⟨_, rfl⟩
  have hTK : ∀ k p, ml_K (T k p) = ml_K Z := fun k p => by rw [hT]; rfl
  have hTR : ∀ k p, ml_R (T k p) = ml_R Z := fun k p => by rw [hT]; rfl
  have hT14 : ∀ k p, ml_I (T k p) 14 = pl_lo2 21 (fun y => if y < k then pl_u14 A W y else pl_n14 A W y) g14 := fun k p => by rw [hT]; exact pl_sy_14 _ _ _ _ _ _
  have hT15 : ∀ k p, ml_I (T k p) 15 = pl_lo2 1344 (fun y => if y < p then pl_u15 A W y else pl_n15 A W y) g15 := fun k p => by rw [hT]; exact pl_sy_15 _ _ _ _ _ _
  have hs14 : ∀ m p, m < 21 → ml_sI (T m p) 14 m (nI (pl_u14 A W m)) = T (m + 1) p := fun m p hm => by
    rw [hT]
    show ml_sI (pl_sy _ _ _ _ _ _) 14 m _ = pl_sy _ _ _ _ _ _
    rw [pl_sy_s14]
    congr 1
    have := pl_lo2_1 21 (fun y => if y < m then pl_u14 A W y else pl_n14 A W y) (fun y => if y < m + 1 then pl_u14 A W y else pl_n14 A W y) g14 hm (fun y hy => by
      by_cases c : y < m
      · rw [if_pos c, if_pos (show y < m + 1 by omega)]
      · rw [if_neg c, if_neg (show ¬ y < m + 1 by omega)])
    rw [← this]
    congr 1
    rw [if_pos (show m < m + 1 by omega)]
  have hs15 : ∀ m p, p < 1344 → ml_sI (T m p) 15 p (nI (pl_u15 A W p)) = T m (p + 1) := fun m p hp => by
    rw [hT]
    show ml_sI (pl_sy _ _ _ _ _ _) 15 p _ = pl_sy _ _ _ _ _ _
    rw [pl_sy_s15]
    congr 1
    have := pl_lo2_1 1344 (fun y => if y < p then pl_u15 A W y else pl_n15 A W y) (fun y => if y < p + 1 then pl_u15 A W y else pl_n15 A W y) g15 hp (fun y hy => by
      by_cases c : y < p
      · rw [if_pos c, if_pos (show y < p + 1 by omega)]
      · rw [if_neg c, if_neg (show ¬ y < p + 1 by omega)])
    rw [← this]
    congr 1
    rw [if_pos (show p < p + 1 by omega)]
  have ei : ∀ (K : Nat → Int32 → ml_M → Option ml_M) (m : Nat), m < 20 → fX7_gather_105 K ml_fu 12 (nI (m + 1)) 0 (T (m + 2) ((m + 1) * 64)) = K 12 (nI (m + 2)) (T (m + 2) ((m + 2) * 64)) := fun K m hm => by
    have hh := pl_for (F := fun fu p (_ : Unit) => fX7_gather_105 K fu 12 (nI (m + 1)) (nI p) (T (m + 2) ((m + 1) * 64 + p))) (R := K 12 (nI (m + 2)) (T (m + 2) ((m + 2) * 64))) 64 (fun _ => ()) (fun fu p hp => ?_) (fun fu => ?_) ml_fu (by rw [pl_fu]; omega)
    · exact hh
    · show fX7_gather_105 K (fu + 1) 12 (nI (m + 1)) (nI p) (T (m + 2) ((m + 1) * 64 + p)) = fX7_gather_105 K fu 12 (nI (m + 1)) (nI (p + 1)) (T (m + 2) ((m + 1) * 64 + (p + 1)))
      have v1 : pl_lo2 1344 (fun y => if y < (m + 1) * 64 + p then pl_u15 A W y else pl_n15 A W y) g15 ((m + 1) * 64 + p) = nI (pl_n15 A W ((m + 1) * 64 + p)) := by
        unfold pl_lo2
        dsimp only
        rw [if_pos (by omega), if_neg (by omega)]
      have v2 : pl_lo2 1344 (fun y => if y < (m + 1) * 64 + p then pl_u15 A W y else pl_n15 A W y) g15 (m * 64 + p) = nI (pl_u15 A W (m * 64 + p)) := by
        unfold pl_lo2
        dsimp only
        rw [if_pos (by omega), if_pos (by omega)]
      have hu := pl_u15_1 A W (m := m) hp
      have hw := hs15 (m + 2) ((m + 1) * 64 + p) (by omega)
      rw [hu] at hw
      have hm1 : nI (m + 1) - nI 1 = nI m := pl_sub (by omega)
      rw [show (m + 1) * 64 + (p + 1) = (m + 1) * 64 + p + 1 by omega, ← hw]
      simp (disch := omega) only [fX7_gather_105, e64, nI_leI, show ¬ 64 ≤ p by omega, if_false, ↓pl_let, pl_b1, pl_b2, ↓reduceIte, hTK, hTR, k12, k15, if_true, r4, e1, hm1, pk_mul, nI_add, pl_in, nI_clamp, show (m + 1) * 64 + p < 1344 by omega, show m * 64 + p < 1344 by omega, and_self, hT15, v1, v2]
    · rw [show (m + 1) * 64 + 64 = (m + 2) * 64 by omega]
      simp (disch := omega) only [fX7_gather_105, fX7_gather_149, e64, nI_leI, Nat.le_refl, if_true, nI_1]
  have ho := pl_for (F := fun fu m (_ : Unit) => fX7_gather_76 fu 12 (nI (m + 1)) (T (m + 1) ((m + 1) * 64))) (R := some (ml_sI (T 21 1344) 12 0 0)) 20 (fun _ => ()) (fun fu m hm => ?_) (fun fu => ?_) ml_fu (by rw [pl_fu]; omega)
  · have hT0 : T (0 + 1) ((0 + 1) * 64) = pl_sy Z v a (pl_lo2 21 (pl_n14 A W) g14) (pl_lo2 1344 (pl_n15 A W) g15) c := by
      rw [hT]
      show pl_sy _ _ _ _ _ _ = _
      congr 1
      · funext y
        unfold pl_lo2
        dsimp only
        by_cases hy : y = 0
        · rw [if_pos (by omega), if_pos (by omega), if_pos (by omega), hy, pl_u14_0]
        · rw [if_neg (show ¬ y < 0 + 1 by omega)]
      · funext y
        unfold pl_lo2
        dsimp only
        by_cases hy : y < 64
        · rw [if_pos (by omega), if_pos (by omega), if_pos (by omega), pl_u15_0 A W hy]
        · rw [if_neg (show ¬ y < (0 + 1) * 64 by omega)]
    have hTe : T 21 1344 = pl_sy Z v a (pl_lo2 21 (pl_u14 A W) g14) (pl_lo2 1344 (pl_u15 A W) g15) c := by
      rw [hT]
      show pl_sy _ _ _ _ _ _ = _
      congr 1
      · funext y
        unfold pl_lo2
        dsimp only
        by_cases hy : y < 21
        · rw [if_pos hy, if_pos hy, if_pos hy]
        · rw [if_neg hy, if_neg hy]
      · funext y
        unfold pl_lo2
        dsimp only
        by_cases hy : y < 1344
        · rw [if_pos hy, if_pos hy, if_pos hy]
        · rw [if_neg hy, if_neg hy]
    rw [hT0, hTe] at ho
    exact ho
  · show fX7_gather_76 (fu + 1) 12 (nI (m + 1)) (T (m + 1) ((m + 1) * 64)) = fX7_gather_76 fu 12 (nI (m + 1 + 1)) (T (m + 1 + 1) ((m + 1 + 1) * 64))
    rw [← ei (fX7_gather_76 fu) m hm]
    have v1 : pl_lo2 21 (fun y => if y < m + 1 then pl_u14 A W y else pl_n14 A W y) g14 (m + 1) = nI (pl_n14 A W (m + 1)) := by
      unfold pl_lo2
      dsimp only
      rw [if_pos (by omega), if_neg (by omega)]
    have v2 : pl_lo2 21 (fun y => if y < m + 1 then pl_u14 A W y else pl_n14 A W y) g14 m = nI (pl_u14 A W m) := by
      unfold pl_lo2
      dsimp only
      rw [if_pos (by omega), if_pos (by omega)]
    have hu := pl_u14_1 A W m
    have hw := hs14 (m + 1) ((m + 1) * 64) (by omega)
    rw [hu] at hw
    have hm1 : nI (m + 1) - nI 1 = nI m := pl_sub (by omega)
    rw [show m + 2 = m + 1 + 1 by omega, ← hw]
    simp (disch := omega) only [fX7_gather_76, e20, nI_ltI, show ¬ 20 < m + 1 by omega, if_false, ↓pl_let, pl_b1, pl_b2, ↓reduceIte, hTK, hTR, k12, k14, if_true, r3, e1, hm1, pl_in, nI_clamp, show m + 1 < 21 by omega, show m < 21 by omega, and_self, hT14, v1, v2, nI_add]
  · simp (disch := omega) only [fX7_gather_76, fX7_gather_155, e20, nI_ltI, show 20 < 20 + 1 by omega, if_true, ↓pl_let, pl_b1, pl_b2, ↓reduceIte, hTK, k12]

/-! THE FIRST STATE: what stands when both are made. -/
def pl_o1 : Option ml_M := fX10_init 1 (ml_al ml_E0 10 0 19)
def pl_o2 : Option ml_M := ml_b1 pl_o1 fun m => fX11_init 33 (ml_al m 11 0 49)
def pl_m0 : ml_M := pl_o2.getD ml_E0
theorem pl_i1 : pl_o1.map ml_n = some 32 := by decide +kernel
theorem pl_i2 : pl_o2.isSome = true := by decide +kernel
theorem pl_i3 : ∀ q ∈ pl_kt, ml_K pl_m0 q.1 = q.2 := by decide +kernel
theorem pl_i4 : ∀ q ∈ pl_rt, ml_R pl_m0 q.1 q.2.1 = q.2.2 := by decide +kernel
theorem pl_i5 : ml_n pl_m0 = 60 ∧ ml_s pl_m0 ≤ 100000 := by decide +kernel
theorem pl_i6 : ∀ k ∈ [9, 10, 11, 24, 34, 37, 46, 0, 2], ml_I pl_m0 33 k = 0 := by decide +kernel
theorem pl_i7 : ml_I pl_m0 33 23 = nI 1 ∧ ml_J pl_m0 33 3 = 0 ∧ ∀ f, f < 6 → ml_I pl_m0 34 f = 0 := by decide +kernel
theorem pl_i8 : (∀ r, r < 6 → ml_I pl_m0 35 r = -1) ∧ ∀ r, r < 4 → ml_I pl_m0 38 r = -1 := by decide +kernel
theorem pl_i9 : ml_I pl_m0 1 3 = nI 1 ∧ (∀ k ∈ [5, 7, 9, 11, 17, 15], ml_I pl_m0 1 k = 0) ∧ ml_J pl_m0 1 16 = 0 ∧ ∀ f, f < 6 → ml_I pl_m0 32 f = 0 := by decide +kernel
theorem pl_i10 : (∀ r, r < 6 → ml_R pl_m0 2 r = 0) ∧ (∀ r, r < 4 → ml_R pl_m0 3 r = 0) ∧ ml_R pl_m0 1 2 = 4 ∧ ml_K pl_m0 4 = (1, 0) ∧ ml_R pl_m0 4 0 = 6 ∧ ml_R pl_m0 4 1 = 7 ∧ ml_K pl_m0 6 = (28, 8) ∧ ml_K pl_m0 7 = (30, 8) ∧ ml_I pl_m0 4 2 = 0 ∧ ml_I pl_m0 4 3 = 0 ∧ ml_I pl_m0 12 0 = 1 ∧ ml_I pl_m0 21 0 = 1 ∧ ml_I pl_m0 31 0 = 0 := by decide +kernel
def pl_A0 : pl_A := (fun g i k => if g = 0 ∧ i = 7 ∧ k = 0 then 1 else 0, fun _ _ _ => 0, 0)
theorem pl_A0N (g i k : Nat) : pl_N pl_A0 g i k = if g = 0 ∧ i = 7 ∧ k = 0 then 1 else 0 := by
  have h : pl_N pl_A0 g i k = if g = 0 ∧ i = 7 ∧ k = 0 then 1 else 0 := rfl
  exact h
theorem pl_A0V (g i k : Nat) : pl_V pl_A0 g i k = 0 := by
  have h : pl_V pl_A0 g i k = 0 := rfl
  exact h
theorem pl_A0L : pl_L pl_A0 = 0 := by
  have h : pl_L pl_A0 = 0 := rfl
  exact h
theorem pl_rel0 : pl_Rel pl_A0 pl_m0 := by
  obtain ⟨a1, a2, a3, a4, a5, a6, a7, a8, a9, a10, a11, a12, a13⟩ := pl_i10
  refine ⟨⟨pl_i3, pl_i4, by rw [pl_i5.1]; exact Nat.le_refl _⟩, ⟨?_, ?_, ?_, ?_, ?_, ?_, ?_, ?_, ?_⟩, ⟨?_, ?_, ?_, ?_, ?_, ?_⟩, ⟨?_, ?_, ?_, ?_, ?_, ?_, ?_, Or.inl a11, Or.inl a12, a13⟩⟩
  · unfold pl_Wc; simp [pl_A0N]
  · intro l hl; simp [pl_A0N] at hl
  · intro l hl; simp [pl_A0N] at hl
  · intro l hl; simp [pl_A0N] at hl
  · intro l hl; simp [pl_A0N] at hl
  · intro l hl; simp [pl_A0N] at hl
  · intro l hl; simp [pl_A0N] at hl
  · intro l hl; simp [pl_A0N] at hl
  · refine ⟨fun r _ => by simp [pl_A0N], fun t _ => by simp [pl_A0N], fun t j _ h => by simp [pl_A0N] at h⟩
  · unfold pl_Mb
    simp only [pl_A0N, pl_A0V, pl_A0L]
    simp only [Nat.reduceEqDiff, and_true, and_false, if_false, if_true, and_self, nI_0]
    exact ⟨pl_i6 9 (by decide), pl_i6 10 (by decide), pl_i6 11 (by decide), pl_i6 24 (by decide), pl_i6 34 (by decide), pl_i6 37 (by decide), pl_i6 46 (by decide), pl_i7.1, pl_i6 0 (by decide), pl_i6 2 (by decide), pl_i7.2.1, pl_i7.2.2⟩
  · intro r hr
    rw [pl_i8.1 r hr]
    exact ⟨by simp [pl_A0N, pl_sz], fun j h => by simp [pl_A0N] at h⟩
  · intro r hr
    rw [pl_i8.2 r hr]
    exact ⟨by simp [pl_A0N, pl_sz], fun j h => by simp [pl_A0N] at h⟩
  · refine ⟨fun l hl => ?_, fun l hl => ?_, fun l hl => ?_⟩ <;> simp [pl_A0N] at hl
  · intro l hl; simp [pl_A0N] at hl
  · refine ⟨fun l hl => ?_, fun l hl => ?_, fun l hl => ?_⟩ <;> simp [pl_A0N] at hl
  · unfold pl_Cb
    simp only [pl_A0N, pl_A0V, pl_A0L]
    simp only [Nat.reduceEqDiff, and_true, and_false, if_false, if_true, and_self, nI_0]
    exact ⟨pl_i9.1, pl_i9.2.1 5 (by decide), pl_i9.2.1 7 (by decide), pl_i9.2.1 9 (by decide), pl_i9.2.1 11 (by decide), pl_i9.2.1 17 (by decide), pl_i9.2.1 15 (by decide), pl_i9.2.2.1, pl_i9.2.2.2⟩
  · exact ⟨fun r hr => Or.inl ⟨by simp [pl_A0N], a1 r hr⟩, fun r q hr _ h0 _ => absurd (a1 r hr) h0⟩
  · exact ⟨fun r hr => Or.inl ⟨by simp [pl_A0N], a2 r hr⟩, fun r q hr _ h0 _ => absurd (a2 r hr) h0⟩
  · unfold pl_Ch
    rw [a3, a5, a6, a9, a10]
    refine ⟨⟨by omega, by rw [pl_i5.1]; omega, a4⟩, ⟨by omega, by rw [pl_i5.1]; omega, a7⟩, ⟨by omega, by rw [pl_i5.1]; omega, a8⟩, by simp [pl_A0N, nI_0], by simp [pl_A0N, nI_0], fun l hl => ?_, fun l hl => ?_⟩ <;> simp [pl_A0N] at hl
  · refine ⟨fun l hl => ?_, fun i j hi => ?_⟩
    · simp [pl_A0N] at hl
    · simp [pl_A0N] at hi
  · refine ⟨fun l hl => ?_, fun l hl => ?_⟩ <;> simp [pl_A0N] at hl
  · intro l hl; simp [pl_A0N] at hl
theorem pl_begin (L : Nat) (xs : Nat → Int32) : fL_law L xs ml_E0 = fL_law_18 L xs ml_fu 1 33 0 pl_m0 := by
  have hn0 : ml_n ml_E0 + 1 = 1 := rfl
  unfold fL_law
  rw [pl_let, pl_let, hn0]
  have h1 := pl_i1
  have h2 := pl_i2
  unfold pl_m0
  unfold pl_o2 at h2 ⊢
  unfold pl_o1 at h1 h2 ⊢
  cases ho : fX10_init 1 (ml_al ml_E0 10 0 19) with
  | none => rw [ho] at h1; cases h1
  | some m1 =>
    rw [ho] at h1 h2
    have hn1 : ml_n m1 = 32 := by simpa using h1
    rw [pl_b1] at h2
    rw [pl_b1, pl_b1, pl_let, pl_let, hn1]
    cases ho2 : fX11_init 33 (ml_al m1 11 0 49) with
    | none => rw [ho2] at h2; cases h2
    | some m2 => rw [pl_b1]; rfl

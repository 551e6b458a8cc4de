/-! PILING: how many orders; no dead end where there is one. -/
def pl_sum (f : Nat → Nat) : Nat → Nat
  | 0 => 0
  | n + 1 => pl_sum f n + f n
theorem pl_sum1 (f : Nat → Nat) (n : Nat) : pl_sum f (n + 1) = pl_sum f n + f n := rfl
theorem pl_sum_eq {f g : Nat → Nat} {n : Nat} (h : ∀ i, i < n → f i = g i) : pl_sum f n = pl_sum g n := by
  induction n with
  | zero => rfl
  | succ n ih => rw [pl_sum1, pl_sum1, ih (fun i hi => h i (by omega)), h n (by omega)]
theorem pl_sum_pos {f : Nat → Nat} {n : Nat} : pl_sum f n ≠ 0 ↔ ∃ i, i < n ∧ f i ≠ 0 := by
  induction n with
  | zero => simp [pl_sum]
  | succ n ih =>
    rw [pl_sum1]
    constructor
    · intro h
      by_cases h0 : f n = 0
      · obtain ⟨i, hi, hf⟩ := ih.mp (by omega)
        exact ⟨i, by omega, hf⟩
      · exact ⟨n, by omega, h0⟩
    · rintro ⟨i, hi, hf⟩
      by_cases hin : i = n
      · subst hin; omega
      · have := ih.mpr ⟨i, by omega, hf⟩
        omega
theorem pl_sum_le {f : Nat → Nat} {n b : Nat} (h : ∀ i, i < n → f i ≤ b) : pl_sum f n ≤ n * b := by
  induction n with
  | zero => simp [pl_sum]
  | succ n ih =>
    rw [pl_sum1, Nat.succ_mul]
    have := ih fun i hi => h i (by omega)
    have := h n (by omega)
    omega
/-- in how many ways the d trunks not in a set can follow -/
def pl_ow (A : pl_A) : Nat → Nat → Nat
  | 0, _ => 1
  | d + 1, S => pl_sum (fun t => if pl_cf A S t = true then pl_ow A d (S ||| 2 ^ t) else 0) (pl_N A 0 1 0)
def pl_po (A : pl_A) (S : Nat) : Nat := pl_ow A (pl_N A 0 1 0 - pl_bc S (pl_N A 0 1 0)) S
theorem pl_cf_tb {A : pl_A} {S t : Nat} (h : pl_cf A S t = true) : S.testBit t = false := by
  unfold pl_cf at h
  rw [Bool.and_eq_true] at h
  simpa using h.1
theorem pl_po_full (A : pl_A) : pl_po A (2 ^ pl_N A 0 1 0 - 1) = 1 := by
  unfold pl_po
  have hlt : 2 ^ pl_N A 0 1 0 - 1 < 2 ^ pl_N A 0 1 0 := by have := Nat.two_pow_pos (pl_N A 0 1 0); omega
  rw [(pl_bc_full hlt).mpr rfl, Nat.sub_self]
  rfl
theorem pl_po_eq (A : pl_A) {S : Nat} (hS : S < 2 ^ pl_N A 0 1 0) (hf : S ≠ 2 ^ pl_N A 0 1 0 - 1) : pl_po A S = pl_sum (fun t => if pl_cf A S t = true then pl_po A (S ||| 2 ^ t) else 0) (pl_N A 0 1 0) := by
  have hb := pl_bc_le S (pl_N A 0 1 0)
  have hb2 : pl_bc S (pl_N A 0 1 0) ≠ pl_N A 0 1 0 := fun z => hf ((pl_bc_full hS).mp z)
  obtain ⟨d, hd⟩ : ∃ d, pl_N A 0 1 0 - pl_bc S (pl_N A 0 1 0) = d + 1 := ⟨pl_N A 0 1 0 - pl_bc S (pl_N A 0 1 0) - 1, by omega⟩
  have e : pl_po A S = pl_ow A (d + 1) S := by unfold pl_po; rw [hd]
  rw [e]
  show pl_sum _ _ = _
  refine pl_sum_eq fun t ht => ?_
  by_cases hc : pl_cf A S t = true
  · rw [if_pos hc, if_pos hc]
    unfold pl_po
    rw [pl_bc_ins (pl_cf_tb hc) ht, show pl_N A 0 1 0 - (pl_bc S (pl_N A 0 1 0) + 1) = d by omega]
  · rw [if_neg hc, if_neg hc]
theorem pl_ow_le {A : pl_A} (hn : pl_N A 0 1 0 ≤ 8) : ∀ d S, pl_ow A d S ≤ 8 ^ d := by
  intro d
  induction d with
  | zero => intro S; exact Nat.le_refl _
  | succ d ih =>
    intro S
    have h : pl_ow A (d + 1) S ≤ pl_N A 0 1 0 * 8 ^ d := pl_sum_le fun t ht => by
      split
      · exact ih _
      · exact Nat.zero_le _
    rw [Nat.pow_succ, Nat.mul_comm]
    exact Nat.le_trans h (Nat.mul_le_mul_right _ hn)
theorem pl_po_lt {A : pl_A} (hn : pl_N A 0 1 0 ≤ 8) (S : Nat) : pl_po A S ≤ 2 ^ 24 := by
  have h1 := pl_ow_le hn (pl_N A 0 1 0 - pl_bc S (pl_N A 0 1 0)) S
  have h2 : 8 ^ (pl_N A 0 1 0 - pl_bc S (pl_N A 0 1 0)) ≤ 8 ^ 8 := Nat.pow_le_pow_right (by decide) (by omega)
  have h3 : (8 : Nat) ^ 8 = 2 ^ 24 := by decide
  unfold pl_po
  omega
theorem pl_chain {A : pl_A} {S : Nat} (hS : S < 2 ^ pl_N A 0 1 0) (hf : S ≠ 2 ^ pl_N A 0 1 0 - 1) : ∀ d T, T < 2 ^ pl_N A 0 1 0 → pl_bc T (pl_N A 0 1 0) + d = pl_N A 0 1 0 → pl_ow A d T ≠ 0 → (∀ i, T.testBit i = true → S.testBit i = true) → ∃ t, t < pl_N A 0 1 0 ∧ pl_cf A S t = true := by
  intro d
  induction d with
  | zero =>
    intro T hT hb _ hsub
    have : T = 2 ^ pl_N A 0 1 0 - 1 := (pl_bc_full hT).mp (by omega)
    exfalso
    apply hf
    rw [← pl_eq_full hS]
    intro i hi
    apply hsub
    rw [this, pl_full_tb, decide_eq_true hi]
  | succ d ih =>
    intro T hT hb h0 hsub
    obtain ⟨t, ht, hne⟩ := pl_sum_pos.mp h0
    by_cases hc : pl_cf A T t = true
    · rw [if_pos hc] at hne
      by_cases hst : S.testBit t = true
      · refine ih (T ||| 2 ^ t) (pl_ins_lt hT ht) (by rw [pl_bc_ins (pl_cf_tb hc) ht]; omega) hne fun i hi => ?_
        rw [pl_tb_ins, Bool.or_eq_true] at hi
        rcases hi with hi | hi
        · exact hsub i hi
        · rw [← of_decide_eq_true hi]; exact hst
      · refine ⟨t, ht, ?_⟩
        unfold pl_cf at hc ⊢
        rw [Bool.and_eq_true, pl_all_iff] at hc ⊢
        refine ⟨by simpa using hst, fun k hk => decide_eq_true fun hkt => hsub _ ?_⟩
        exact of_decide_eq_true (hc.2 k hk) hkt
    · rw [if_neg hc] at hne
      exact absurd rfl hne
theorem pl_bc0 (n : Nat) : pl_bc 0 n = 0 := by
  unfold pl_bc
  induction n with
  | zero => rfl
  | succ n ih => rw [pl_cnt1, ih, Nat.zero_testBit]; rfl
theorem pl_po_step {A : pl_A} (h0 : pl_po A 0 ≠ 0) {S : Nat} (hS : S < 2 ^ pl_N A 0 1 0) (hf : S ≠ 2 ^ pl_N A 0 1 0 - 1) : ∃ t, t < pl_N A 0 1 0 ∧ pl_cf A S t = true := by
  unfold pl_po at h0
  rw [pl_bc0, Nat.sub_zero] at h0
  exact pl_chain hS hf (pl_N A 0 1 0) 0 (Nat.two_pow_pos _) (by rw [pl_bc0]; omega) h0 fun i hi => by rw [Nat.zero_testBit] at hi; cases hi
theorem pl_ow_all {A : pl_A} (h0 : pl_po A 0 ≠ 0) : ∀ d S, S < 2 ^ pl_N A 0 1 0 → pl_bc S (pl_N A 0 1 0) + d = pl_N A 0 1 0 → pl_ow A d S ≠ 0 := by
  intro d
  induction d with
  | zero => intro S _ _; exact Nat.one_ne_zero
  | succ d ih =>
    intro S hS hb
    have hf : S ≠ 2 ^ pl_N A 0 1 0 - 1 := fun z => by have := (pl_bc_full hS).mpr z; omega
    obtain ⟨t, ht, hc⟩ := pl_po_step h0 hS hf
    refine pl_sum_pos.mpr ⟨t, ht, ?_⟩
    rw [if_pos hc]
    exact ih _ (pl_ins_lt hS ht) (by rw [pl_bc_ins (pl_cf_tb hc) ht]; omega)
theorem pl_po_all {A : pl_A} (h0 : pl_po A 0 ≠ 0) {S : Nat} (hS : S < 2 ^ pl_N A 0 1 0) : pl_po A S ≠ 0 := pl_ow_all h0 _ S hS (by have := pl_bc_le S (pl_N A 0 1 0); omega)
/-- the first trunk that can follow a set; the sets so made -/
def pl_ft (A : pl_A) (S : Nat) : Nat := pl_lst (pl_cf A S) (pl_N A 0 1 0)
def pl_gS (A : pl_A) : Nat → Nat
  | 0 => 0
  | k + 1 => pl_gS A k ||| 2 ^ pl_ft A (pl_gS A k)
theorem pl_gS1 (A : pl_A) (k : Nat) : pl_gS A (k + 1) = pl_gS A k ||| 2 ^ pl_ft A (pl_gS A k) := rfl
theorem pl_ft_ok {A : pl_A} {S : Nat} (h : pl_ft A S < pl_N A 0 1 0) : pl_cf A S (pl_ft A S) = true := (pl_lst_p _ _).1 h
theorem pl_gS_ok {A : pl_A} : ∀ k, k ≤ pl_N A 0 1 0 → (∀ j, j < k → pl_ft A (pl_gS A j) < pl_N A 0 1 0) → pl_gS A k < 2 ^ pl_N A 0 1 0 ∧ pl_bc (pl_gS A k) (pl_N A 0 1 0) = k := by
  intro k
  induction k with
  | zero => intro _ _; exact ⟨Nat.two_pow_pos _, pl_bc0 _⟩
  | succ k ih =>
    intro hk h
    obtain ⟨h1, h2⟩ := ih (by omega) fun j hj => h j (by omega)
    have h3 := h k (by omega)
    rw [pl_gS1]
    exact ⟨pl_ins_lt h1 h3, by rw [pl_bc_ins (pl_cf_tb (pl_ft_ok h3)) h3, h2]⟩
theorem pl_lst_ex {p : Nat → Bool} {n t : Nat} (ht : t < n) (hp : p t = true) : pl_lst p n < n := by
  have h := (pl_lst_any p n)
  have : pl_any p n = true := (pl_any_iff p n).mpr ⟨t, ht, hp⟩
  rw [this] at h
  exact of_decide_eq_true h.symm
theorem pl_go {A : pl_A} (h0 : pl_po A 0 ≠ 0) : ∀ k, k < pl_N A 0 1 0 → pl_ft A (pl_gS A k) < pl_N A 0 1 0 := by
  intro k
  induction k using Nat.strongRecOn with
  | _ k ih =>
    intro hk
    obtain ⟨h1, h2⟩ := pl_gS_ok (A := A) k (by omega) fun j hj => ih j hj (by omega)
    have hf : pl_gS A k ≠ 2 ^ pl_N A 0 1 0 - 1 := fun z => by have := (pl_bc_full h1).mpr z; omega
    obtain ⟨t, ht, hc⟩ := pl_po_step h0 h1 hf
    exact pl_lst_ex ht hc
theorem pl_stop {A : pl_A} (h0 : pl_po A 0 = 0) : ∃ k, k < pl_N A 0 1 0 ∧ ¬ pl_ft A (pl_gS A k) < pl_N A 0 1 0 := by
  refine Classical.byContradiction fun hc => ?_
  have hall : ∀ k, k < pl_N A 0 1 0 → pl_ft A (pl_gS A k) < pl_N A 0 1 0 := fun k hk => Classical.byContradiction fun z => hc ⟨k, hk, z⟩
  have : ∀ d, d ≤ pl_N A 0 1 0 → pl_ow A d (pl_gS A (pl_N A 0 1 0 - d)) ≠ 0 := by
    intro d
    induction d with
    | zero => intro _; exact Nat.one_ne_zero
    | succ d ih =>
      intro hd
      have ih := ih (by omega)
      have h1 := hall (pl_N A 0 1 0 - (d + 1)) (by omega)
      refine pl_sum_pos.mpr ⟨_, h1, ?_⟩
      rw [if_pos (pl_ft_ok h1), ← pl_gS1, show pl_N A 0 1 0 - (d + 1) + 1 = pl_N A 0 1 0 - d by omega]
      exact ih
  have h2 := this (pl_N A 0 1 0) (Nat.le_refl _)
  rw [Nat.sub_self] at h2
  unfold pl_po at h0
  rw [pl_bc0, Nat.sub_zero] at h0
  exact h2 h0
/-- a change of cells made in the call alone: all stands -/
theorem pl_Md.gb {A B : pl_A} {m m1 : ml_M} (h : pl_Md A B m) (hx : pl_ex [] m m1) (hco : pl_co m m1) (hJ : ml_J m1 1 = ml_J m 1) : pl_Md A B m1 := by
  obtain ⟨hS, hW, hM, hC⟩ := h
  have hn := hS.2.2
  have d : pl_dif [] [] [] B B := ⟨fun _ _ _ => rfl, fun _ _ => rfl, fun _ _ => rfl⟩
  have e : ∀ a, a ≤ 60 → ml_I m1 a = ml_I m a ∧ ml_R m1 a = ml_R m a := fun a ha => hx.2.2 a (by omega) (by simp)
  obtain ⟨fr, ft, fh, fi, fn, fk, fs, fy⟩ := pl_Cd d hS hC hx (by simp) (by rw [(e 1 (by decide)).2])
  refine ⟨hx.sh hS (fun q _ hq => by simp at hq), hW, hco.m hM, ?_, fr (by decide), ft (by decide), fh (by decide), fi (by decide), fn (by decide), fk (by decide), fs (by decide), fy (by decide)⟩
  have hb := hC.1
  unfold pl_Cb at *
  rw [(e 1 (by decide)).1, (e 32 (by decide)).1, hJ]
  exact hb

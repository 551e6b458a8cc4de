/-! READINGS: pure. phi l t: whether line l may be read as trunk t. -/
def pl_rd (nt L : Nat) (phi : Nat → Nat → Bool) : Nat → Nat → Nat
  | 0, _ => 1
  | d + 1, S => pl_sum (fun t => if (phi (L - (d + 1)) t && !S.testBit t) = true then pl_rd nt L phi d (S ||| 2 ^ t) else 0) nt
def pl_rg (nt L : Nat) (phi : Nat → Nat → Bool) (S : Nat) : Nat := if pl_bc S nt ≤ L then pl_rd nt L phi (L - pl_bc S nt) S else 0
def pl_wz (T g : Nat → Nat) (s N : Nat) : Nat := pl_sum (fun x => if s ≤ x then T x * g x else 0) N
/-- a table with v more at x -/
def pl_ad (T : Nat → Nat) (x v : Nat) : Nat → Nat := fun y => if y = x then T y + v else T y
theorem pl_wz_ad (T g : Nat → Nat) (s x v N : Nat) (hs : s ≤ x) (hx : x < N) : pl_wz (pl_ad T x v) g s N = pl_wz T g s N + v * g x := by
  unfold pl_wz
  induction N with
  | zero => omega
  | succ N ih =>
    rw [pl_sum1, pl_sum1]
    by_cases h : x = N
    · subst h
      have e : pl_sum (fun y => if s ≤ y then pl_ad T x v y * g y else 0) x = pl_sum (fun y => if s ≤ y then T y * g y else 0) x := pl_sum_eq fun i hi => by
        unfold pl_ad; rw [if_neg (show ¬ i = x by omega)]
      rw [e, if_pos hs, if_pos hs]
      unfold pl_ad
      rw [if_pos rfl, Nat.add_mul]
      omega
    · rw [ih (by omega)]
      have e : pl_ad T x v N = T N := by unfold pl_ad; rw [if_neg (show ¬ N = x by omega)]
      rw [e]
      omega
theorem pl_wz_step (T g : Nat → Nat) (s N : Nat) (hs : s < N) : pl_wz T g s N = T s * g s + pl_wz T g (s + 1) N := by
  unfold pl_wz
  induction N with
  | zero => omega
  | succ N ih =>
    rw [pl_sum1, pl_sum1]
    by_cases h : s = N
    · subst h
      have e1 : pl_sum (fun x => if s ≤ x then T x * g x else 0) s = 0 := by
        refine Classical.byContradiction fun z => ?_
        obtain ⟨i, hi, hne⟩ := pl_sum_pos.mp z
        rw [if_neg (show ¬ s ≤ i by omega)] at hne
        exact hne rfl
      have e2 : pl_sum (fun x => if s + 1 ≤ x then T x * g x else 0) s = 0 := by
        refine Classical.byContradiction fun z => ?_
        obtain ⟨i, hi, hne⟩ := pl_sum_pos.mp z
        rw [if_neg (show ¬ s + 1 ≤ i by omega)] at hne
        exact hne rfl
      rw [e1, e2, if_pos (Nat.le_refl s), if_neg (show ¬ s + 1 ≤ s by omega)]
      omega
    · rw [ih (by omega), if_pos (show s ≤ N by omega), if_pos (show s + 1 ≤ N by omega)]
      omega
theorem pl_wz_end (T g : Nat → Nat) (N : Nat) : pl_wz T g N N = 0 := by
  unfold pl_wz
  refine Classical.byContradiction fun z => ?_
  obtain ⟨i, hi, hne⟩ := pl_sum_pos.mp z
  rw [if_neg (show ¬ N ≤ i by omega)] at hne
  exact hne rfl
/-- what a set's turn adds to the table -/
def pl_pu (phi : Nat → Nat → Bool) (k s v : Nat) (T : Nat → Nat) : Nat → Nat → Nat
  | 0 => T
  | t + 1 => if (phi k t && !s.testBit t) = true then pl_ad (pl_pu phi k s v T t) (s ||| 2 ^ t) v else pl_pu phi k s v T t
theorem pl_pu1 (phi : Nat → Nat → Bool) (k s v : Nat) (T : Nat → Nat) (t : Nat) : pl_pu phi k s v T (t + 1) = if (phi k t && !s.testBit t) = true then pl_ad (pl_pu phi k s v T t) (s ||| 2 ^ t) v else pl_pu phi k s v T t := rfl
theorem pl_pu_s (phi : Nat → Nat → Bool) (k s v : Nat) (T : Nat → Nat) : ∀ t x, x ≤ s → pl_pu phi k s v T t x = T x := by
  intro t
  induction t with
  | zero => intro x _; rfl
  | succ t ih =>
    intro x hx
    rw [pl_pu1]
    split
    · rename_i h
      rw [Bool.and_eq_true] at h
      have hs : s.testBit t = false := by simpa using h.2
      have := pl_ins_gt hs
      unfold pl_ad
      rw [if_neg (show ¬ x = s ||| 2 ^ t by omega)]
      exact ih x hx
    · exact ih x hx
theorem pl_pu_wz (phi : Nat → Nat → Bool) (k s v nt : Nat) (T g : Nat → Nat) (hs : s < 2 ^ nt) : ∀ t, t ≤ nt → pl_wz (pl_pu phi k s v T t) g (s + 1) (2 ^ nt) = pl_wz T g (s + 1) (2 ^ nt) + v * pl_sum (fun i => if (phi k i && !s.testBit i) = true then g (s ||| 2 ^ i) else 0) t := by
  intro t
  induction t with
  | zero => intro _; rfl
  | succ t ih =>
    intro ht
    have ih := ih (by omega)
    rw [pl_pu1, pl_sum1]
    by_cases h : (phi k t && !s.testBit t) = true
    · have h' := h
      rw [Bool.and_eq_true] at h'
      have hst : s.testBit t = false := by simpa using h'.2
      have hgt := pl_ins_gt hst
      rw [if_pos h, if_pos h, pl_wz_ad _ _ _ _ _ _ (by omega) (pl_ins_lt hs (by omega)), ih, Nat.mul_add]
      omega
    · rw [if_neg h, if_neg h, ih]; simp
/-- a turn leaves the whole as it is: a set of as many trunks as there are lines is told, a smaller one handed on -/
theorem pl_rturn (nt L : Nat) (phi : Nat → Nat → Bool) (T : Nat → Nat) {s : Nat} (hs : s < 2 ^ nt) :
    pl_wz T (pl_rg nt L phi) s (2 ^ nt) = (if pl_bc s nt = L then T s else 0) + pl_wz (if pl_bc s nt < L then pl_pu phi (pl_bc s nt) s (T s) T nt else T) (pl_rg nt L phi) (s + 1) (2 ^ nt) := by
  rw [pl_wz_step _ _ _ _ hs]
  by_cases h1 : pl_bc s nt < L
  · rw [if_neg (show ¬ pl_bc s nt = L by omega), if_pos h1, pl_pu_wz phi _ s _ nt T _ hs nt (Nat.le_refl _)]
    have e : pl_rg nt L phi s = pl_sum (fun i => if (phi (pl_bc s nt) i && !s.testBit i) = true then pl_rg nt L phi (s ||| 2 ^ i) else 0) nt := by
      obtain ⟨d, hd⟩ : ∃ d, L - pl_bc s nt = d + 1 := ⟨L - pl_bc s nt - 1, by omega⟩
      have e1 : pl_rg nt L phi s = pl_rd nt L phi (d + 1) s := by unfold pl_rg; rw [if_pos (by omega), hd]
      rw [e1]
      show pl_sum _ _ = _
      refine pl_sum_eq fun i hi => ?_
      rw [show L - (d + 1) = pl_bc s nt by omega]
      by_cases h : (phi (pl_bc s nt) i && !s.testBit i) = true
      · have h' := h
        rw [Bool.and_eq_true] at h'
        have hst : s.testBit i = false := by simpa using h'.2
        rw [if_pos h, if_pos h]
        unfold pl_rg
        rw [pl_bc_ins hst hi, if_pos (by omega), show L - (pl_bc s nt + 1) = d by omega]
      · rw [if_neg h, if_neg h]
    rw [← e]
    omega
  · rw [if_neg h1]
    by_cases h2 : pl_bc s nt = L
    · have e : pl_rg nt L phi s = 1 := by unfold pl_rg; rw [if_pos (by omega), h2, Nat.sub_self]; rfl
      rw [if_pos h2, e, Nat.mul_one]
    · have e : pl_rg nt L phi s = 0 := by unfold pl_rg; rw [if_neg (by omega)]
      rw [if_neg h2, e, Nat.mul_zero]

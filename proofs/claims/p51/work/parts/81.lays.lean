/-! LAYS: the pure part. The fewest of some values, in how many ways: a fold. -/
def pl_am (q : Nat → Bool) (v w : Nat → Nat) : Nat → Nat × Nat
  | 0 => (100, 0)
  | k + 1 => if q k = true then pl_am q v w k else
      if v k < (pl_am q v w k).1 then (v k, w k)
      else if v k = (pl_am q v w k).1 then ((pl_am q v w k).1, (pl_am q v w k).2 + w k) else pl_am q v w k
theorem pl_am1 (q : Nat → Bool) (v w : Nat → Nat) (k : Nat) : pl_am q v w (k + 1) = if q k = true then pl_am q v w k else
      if v k < (pl_am q v w k).1 then (v k, w k)
      else if v k = (pl_am q v w k).1 then ((pl_am q v w k).1, (pl_am q v w k).2 + w k) else pl_am q v w k := rfl
def pl_gs (A : pl_A) (d set : Nat) (js : Nat → Bool) (j : Nat) : Nat := (pl_G A d (set ||| 2 ^ j) (pl_jn A j)).1 + (if js j then 0 else 1)
def pl_gt2 (A : pl_A) (d set : Nat) (j : Nat) : Nat := (pl_G A d (set ||| 2 ^ j) (pl_jn A j)).2
theorem pl_G_am (A : pl_A) (d set : Nat) (js : Nat → Bool) : pl_G A (d + 1) set js = pl_am (fun j => set.testBit j) (pl_gs A d set js) (pl_gt2 A d set) (pl_N A 0 5 0) := by
  have h : ∀ n, pl_it (fun j acc => if set.testBit j then acc else
      if (pl_G A d (set ||| 2 ^ j) (pl_jn A j)).1 + (if js j then 0 else 1) < acc.1 then ((pl_G A d (set ||| 2 ^ j) (pl_jn A j)).1 + (if js j then 0 else 1), (pl_G A d (set ||| 2 ^ j) (pl_jn A j)).2)
      else if (pl_G A d (set ||| 2 ^ j) (pl_jn A j)).1 + (if js j then 0 else 1) = acc.1 then (acc.1, acc.2 + (pl_G A d (set ||| 2 ^ j) (pl_jn A j)).2) else acc) n ((100, 0) : Nat × Nat) = pl_am (fun j => set.testBit j) (pl_gs A d set js) (pl_gt2 A d set) n := by
    intro n
    induction n with
    | zero => rfl
    | succ n ih =>
      rw [pl_am1, ← ih]
      rfl
  exact h _
theorem pl_am_ok (q : Nat → Bool) (v w : Nat → Nat) : ∀ n, (∀ j, j < n → q j = false → v j < 100 ∧ 0 < w j) → (∀ j, j < n → q j = false → (pl_am q v w n).1 ≤ v j) ∧ (((pl_am q v w n).1 = 100 ∧ (pl_am q v w n).2 = 0 ∧ ∀ j, j < n → q j = true) ∨ ((pl_am q v w n).1 < 100 ∧ 0 < (pl_am q v w n).2 ∧ ∃ j, j < n ∧ q j = false ∧ v j = (pl_am q v w n).1)) := by
  intro n
  induction n with
  | zero => intro _; exact ⟨fun j hj => by omega, Or.inl ⟨rfl, rfl, fun j hj => by omega⟩⟩
  | succ n ih =>
    intro h
    obtain ⟨i1, i2⟩ := ih fun j hj => h j (by omega)
    rw [pl_am1]
    by_cases hq : q n = true
    · rw [if_pos hq]
      refine ⟨fun j hj hqj => ?_, ?_⟩
      · by_cases hjn : j = n
        · rw [hjn, hq] at hqj; cases hqj
        · exact i1 j (by omega) hqj
      · rcases i2 with ⟨a, b, c⟩ | ⟨a, b, j, c⟩
        · refine Or.inl ⟨a, b, fun j hj => ?_⟩
          by_cases hjn : j = n
          · rw [hjn]; exact hq
          · exact c j (by omega)
        · exact Or.inr ⟨a, b, j, by omega, c.2⟩
    · have hq0 : q n = false := by simpa using hq
      have hn := h n (by omega) hq0
      rw [if_neg hq]
      by_cases c1 : v n < (pl_am q v w n).1
      · rw [if_pos c1]
        refine ⟨fun j hj hqj => ?_, Or.inr ⟨hn.1, hn.2, n, by omega, hq0, rfl⟩⟩
        show v n ≤ v j
        by_cases hjn : j = n
        · rw [hjn]; exact Nat.le_refl _
        · have := i1 j (by omega) hqj; omega
      · rw [if_neg c1]
        have hlow : ∀ j, j < n + 1 → q j = false → (pl_am q v w n).1 ≤ v j := fun j hj hqj => by
          by_cases hjn : j = n
          · rw [hjn]; omega
          · exact i1 j (by omega) hqj
        have hnot : ¬ (pl_am q v w n).1 = 100 := by omega
        rcases i2 with ⟨a, -⟩ | ⟨a, b, j, c⟩
        · exact absurd a hnot
        · by_cases c2 : v n = (pl_am q v w n).1
          · rw [if_pos c2]
            refine ⟨hlow, Or.inr ⟨a, ?_, j, by omega, c.2⟩⟩
            show 0 < (pl_am q v w n).2 + w n
            omega
          · rw [if_neg c2]
            exact ⟨hlow, Or.inr ⟨a, b, j, by omega, c.2⟩⟩
theorem pl_am_le (q : Nat → Bool) (v w : Nat → Nat) (B : Nat) : ∀ n, (∀ j, j < n → q j = false → w j ≤ B) → (pl_am q v w n).2 ≤ pl_cnt (fun j => !q j) n * B := by
  intro n
  induction n with
  | zero => intro _; exact Nat.zero_le _
  | succ n ih =>
    intro h
    have ih := ih fun j hj => h j (by omega)
    rw [pl_am1, pl_cnt1]
    by_cases hq : q n = true
    · rw [if_pos hq, if_neg (show ¬ (!q n) = true by simp [hq])]; exact ih
    · have hq0 : q n = false := by simpa using hq
      have hn := h n (by omega) hq0
      have e : (pl_cnt (fun j => !q j) n + 1) * B = pl_cnt (fun j => !q j) n * B + B := Nat.succ_mul _ _
      rw [if_neg hq, if_pos (show (!q n) = true by simp [hq0])]
      split
      · show w n ≤ _; omega
      · split
        · show (pl_am q v w n).2 + w n ≤ _; omega
        · omega
/-- the ways of the fewest, one by one -/
theorem pl_am_sum (q : Nat → Bool) (v w : Nat → Nat) : ∀ n, (∀ j, j < n → q j = false → v j < 100) → (pl_am q v w n).2 = pl_sum (fun j => if q j = false ∧ v j = (pl_am q v w n).1 then w j else 0) n ∧ ∀ L, L < (pl_am q v w n).1 → pl_sum (fun j => if q j = false ∧ v j = L then w j else 0) n = 0 := by
  intro n
  induction n with
  | zero => intro _; exact ⟨rfl, fun L _ => rfl⟩
  | succ n ih =>
    intro h
    obtain ⟨i1, i2⟩ := ih fun j hj => h j (by omega)
    rw [pl_am1]
    by_cases hq : q n = true
    · rw [if_pos hq]
      refine ⟨?_, fun L hL => ?_⟩
      · rw [pl_sum1, if_neg (by simp [hq]), Nat.add_zero]; exact i1
      · rw [pl_sum1, if_neg (by simp [hq]), Nat.add_zero]; exact i2 L hL
    · have hq0 : q n = false := by simpa using hq
      rw [if_neg hq]
      by_cases c1 : v n < (pl_am q v w n).1
      · rw [if_pos c1]
        refine ⟨?_, fun L hL => ?_⟩
        · show w n = pl_sum (fun j => if q j = false ∧ v j = v n then w j else 0) (n + 1)
          rw [pl_sum1, i2 _ c1, if_pos ⟨hq0, rfl⟩, Nat.zero_add]
        · have hL : L < v n := hL
          rw [pl_sum1, i2 L (by omega), if_neg (by omega)]
      · rw [if_neg c1]
        by_cases c2 : v n = (pl_am q v w n).1
        · rw [if_pos c2]
          refine ⟨?_, fun L hL => ?_⟩
          · show (pl_am q v w n).2 + w n = pl_sum (fun j => if q j = false ∧ v j = (pl_am q v w n).1 then w j else 0) (n + 1)
            rw [pl_sum1, ← i1, if_pos ⟨hq0, c2⟩]
          · have hL : L < (pl_am q v w n).1 := hL
            rw [pl_sum1, i2 L hL, if_neg (by omega)]
        · rw [if_neg c2]
          refine ⟨?_, fun L hL => ?_⟩
          · rw [pl_sum1, ← i1, if_neg (fun z => c2 z.2), Nat.add_zero]
          · rw [pl_sum1, i2 L hL, if_neg (by omega)]
theorem pl_cnt_not (p : Nat → Bool) (n : Nat) : pl_cnt (fun j => !p j) n + pl_cnt p n = n := by
  induction n with
  | zero => rfl
  | succ n ih =>
    rw [pl_cnt1, pl_cnt1]
    cases p n <;> simp <;> omega
def pl_fac : Nat → Nat
  | 0 => 1
  | n + 1 => (n + 1) * pl_fac n
theorem pl_fac_up : ∀ n, pl_fac n ≤ pl_fac (n + 1) := by
  intro n
  show pl_fac n ≤ (n + 1) * pl_fac n
  exact Nat.le_mul_of_pos_left _ (Nat.succ_pos n)
theorem pl_fac_10 : ∀ n, n ≤ 10 → pl_fac n ≤ 3628800 := by
  have h : ∀ n : Fin 11, pl_fac n.val ≤ 3628800 := by decide
  exact fun n hn => h ⟨n, by omega⟩
theorem pl_G_b (A : pl_A) : ∀ d set js, d ≤ 10 → set < 2 ^ pl_N A 0 5 0 → pl_bc set (pl_N A 0 5 0) + d = pl_N A 0 5 0 → (pl_G A d set js).1 ≤ d ∧ 0 < (pl_G A d set js).2 ∧ (pl_G A d set js).2 ≤ pl_fac d := by
  intro d
  induction d with
  | zero => intro set js _ _ _; exact ⟨Nat.le_refl _, Nat.zero_lt_one, Nat.le_refl _⟩
  | succ d ih =>
    intro set js hd hs hb
    have hv : ∀ j, j < pl_N A 0 5 0 → set.testBit j = false → pl_gs A d set js j ≤ d + 1 ∧ 0 < pl_gt2 A d set j ∧ pl_gt2 A d set j ≤ pl_fac d := fun j hj hq => by
      have := ih (set ||| 2 ^ j) (pl_jn A j) (by omega) (pl_ins_lt hs hj) (by rw [pl_bc_ins hq hj]; omega)
      unfold pl_gs pl_gt2
      refine ⟨?_, this.2⟩
      split <;> omega
    rw [pl_G_am]
    obtain ⟨h1, h2⟩ := pl_am_ok (fun j => set.testBit j) (pl_gs A d set js) (pl_gt2 A d set) (pl_N A 0 5 0) fun j hj hq => by
      have := hv j hj hq; omega
    have h3 := pl_am_le (fun j => set.testBit j) (pl_gs A d set js) (pl_gt2 A d set) (pl_fac d) (pl_N A 0 5 0) fun j hj hq => (hv j hj hq).2.2
    have h4 := pl_cnt_not (fun j => set.testBit j) (pl_N A 0 5 0)
    have h5 : pl_bc set (pl_N A 0 5 0) = pl_cnt (fun j => set.testBit j) (pl_N A 0 5 0) := rfl
    have h6 : pl_cnt (fun j => !set.testBit j) (pl_N A 0 5 0) = d + 1 := by omega
    rw [h6] at h3
    rcases h2 with ⟨-, -, hall⟩ | ⟨h7, h8, j, hj, hq, hvj⟩
    · exfalso
      have := pl_cnt_full.mpr hall
      rw [← h5] at this
      omega
    · refine ⟨?_, h8, h3⟩
      rw [← hvj]
      exact (hv j hj hq).1
/-- the first one that goes on to the fewest is there -/
theorem pl_fr_i (A : pl_A) {d set : Nat} (js : Nat → Bool) (hd : d + 1 ≤ 10) (hs : set < 2 ^ pl_N A 0 5 0) (hb : pl_bc set (pl_N A 0 5 0) + (d + 1) = pl_N A 0 5 0) : ∃ j, j < pl_N A 0 5 0 ∧ set.testBit j = false ∧ pl_gs A d set js j = (pl_G A (d + 1) set js).1 := by
  have hv : ∀ j, j < pl_N A 0 5 0 → set.testBit j = false → pl_gs A d set js j < 100 ∧ 0 < pl_gt2 A d set j := fun j hj hq => by
    have := pl_G_b A d (set ||| 2 ^ j) (pl_jn A j) (by omega) (pl_ins_lt hs hj) (by rw [pl_bc_ins hq hj]; omega)
    unfold pl_gs pl_gt2
    refine ⟨?_, this.2.1⟩
    split <;> omega
  obtain ⟨-, h2⟩ := pl_am_ok (fun j => set.testBit j) (pl_gs A d set js) (pl_gt2 A d set) (pl_N A 0 5 0) hv
  rw [pl_G_am]
  rcases h2 with ⟨-, -, hall⟩ | ⟨-, -, h⟩
  · exfalso
    have h5 : pl_bc set (pl_N A 0 5 0) = pl_cnt (fun j => set.testBit j) (pl_N A 0 5 0) := rfl
    have := pl_cnt_full.mpr hall
    rw [← h5] at this
    omega
  · exact h
def pl_fi (A : pl_A) (d set : Nat) (js : Nat → Bool) : Nat := pl_lst (fun j => !set.testBit j && decide (pl_gs A d set js j = (pl_G A (d + 1) set js).1)) (pl_N A 0 5 0)
theorem pl_fr1 (A : pl_A) (d set : Nat) (js : Nat → Bool) : pl_fr A (d + 1) set js = pl_fi A d set js :: pl_fr A d (set ||| 2 ^ pl_fi A d set js) (pl_jn A (pl_fi A d set js)) := rfl
theorem pl_fi_ok (A : pl_A) {d set : Nat} (js : Nat → Bool) (hd : d + 1 ≤ 10) (hs : set < 2 ^ pl_N A 0 5 0) (hb : pl_bc set (pl_N A 0 5 0) + (d + 1) = pl_N A 0 5 0) : pl_fi A d set js < pl_N A 0 5 0 ∧ set.testBit (pl_fi A d set js) = false ∧ pl_gs A d set js (pl_fi A d set js) = (pl_G A (d + 1) set js).1 := by
  obtain ⟨j, hj, hq, hv⟩ := pl_fr_i A js hd hs hb
  have hlt : pl_fi A d set js < pl_N A 0 5 0 := pl_lst_ex hj (by rw [hq, hv]; simp)
  have hp := (pl_lst_p (fun j => !set.testBit j && decide (pl_gs A d set js j = (pl_G A (d + 1) set js).1)) (pl_N A 0 5 0)).1 hlt
  rw [Bool.and_eq_true, decide_eq_true_eq] at hp
  exact ⟨hlt, by unfold pl_fi; simpa using hp.1, hp.2⟩
/-- behind a set with a last one -/
def pl_gw (A : pl_A) (set last : Nat) : Nat × Nat := pl_G A (pl_N A 0 5 0 - pl_bc set (pl_N A 0 5 0)) set (pl_jn A last)
theorem pl_gw_ins {A : pl_A} {d set j : Nat} (hq : set.testBit j = false) (hj : j < pl_N A 0 5 0) (hb : pl_bc set (pl_N A 0 5 0) + (d + 1) = pl_N A 0 5 0) : pl_gw A (set ||| 2 ^ j) j = pl_G A d (set ||| 2 ^ j) (pl_jn A j) := by
  unfold pl_gw
  rw [pl_bc_ins hq hj, show pl_N A 0 5 0 - (pl_bc set (pl_N A 0 5 0) + 1) = d by omega]
/-- who joins is looked at of those not laid alone -/
theorem pl_am_eq {q : Nat → Bool} {v w v' w' : Nat → Nat} {n : Nat} (h : ∀ j, j < n → q j = false → v j = v' j ∧ w j = w' j) : pl_am q v w n = pl_am q v' w' n := by
  induction n with
  | zero => rfl
  | succ n ih =>
    rw [pl_am1, pl_am1, ih fun j hj => h j (by omega)]
    by_cases hq : q n = true
    · rw [if_pos hq, if_pos hq]
    · obtain ⟨h1, h2⟩ := h n (by omega) (by simpa using hq)
      rw [if_neg hq, if_neg hq, h1, h2]
/-- a table by sets and last ones: filled for the sets above s, and for s below l -/
def pl_fd (n s l y : Nat) : Bool := decide (y % 10 < n) && decide (y / 10 < 2 ^ n) && (y / 10).testBit (y % 10) && (decide (s < y / 10) || (decide (y / 10 = s) && decide (y % 10 < l)))
def pl_lt1 (A : pl_A) (g0 : Nat → Int32) (s l : Nat) : Nat → Int32 := fun y => if pl_fd (pl_N A 0 5 0) s l y = true then nI (pl_gw A (y / 10) (y % 10)).1 else g0 y
def pl_lt2 (A : pl_A) (g0 : Nat → Int32) (s l : Nat) : Nat → Int32 := fun y => if pl_fd (pl_N A 0 5 0) s l y = true then nI (pl_gw A (y / 10) (y % 10)).2 else g0 y
theorem pl_fd_in {n s l set last : Nat} (hn : n ≤ 10) (h1 : last < n) (h2 : set < 2 ^ n) (h3 : set.testBit last = true) (h4 : s < set ∨ set = s ∧ last < l) : pl_fd n s l (10 * set + last) = true := by
  unfold pl_fd
  rw [show (10 * set + last) / 10 = set by omega, show (10 * set + last) % 10 = last by omega, decide_eq_true h1, decide_eq_true h2, h3]
  rcases h4 with h4 | h4
  · rw [decide_eq_true h4]; rfl
  · rw [decide_eq_true h4.1, decide_eq_true h4.2]; simp
theorem pl_fd_up {n s l : Nat} (hn : n ≤ 10) (h1 : l < n) (h2 : s < 2 ^ n) (h3 : s.testBit l = true) (y : Nat) : pl_fd n s (l + 1) y = (decide (y = 10 * s + l) || pl_fd n s l y) := by
  by_cases h : y = 10 * s + l
  · rw [decide_eq_true h, Bool.true_or, h]
    exact pl_fd_in hn h1 h2 h3 (Or.inr ⟨rfl, by omega⟩)
  · rw [decide_eq_false h, Bool.false_or]
    unfold pl_fd
    have e : (decide (y / 10 = s) && decide (y % 10 < l + 1)) = (decide (y / 10 = s) && decide (y % 10 < l)) := by
      by_cases c : y / 10 = s
      · have : (y % 10 < l + 1) = (y % 10 < l) := by apply propext; omega
        simp only [this]
      · rw [decide_eq_false c, Bool.false_and, Bool.false_and]
    rw [e]
theorem pl_fd_sk {n s l : Nat} (h3 : s.testBit l = false) (y : Nat) : pl_fd n s (l + 1) y = pl_fd n s l y := by
  unfold pl_fd
  by_cases c : y / 10 = s ∧ y % 10 = l
  · rw [c.1, c.2, h3, Bool.and_false, Bool.false_and, Bool.false_and]
  · have e : (decide (y / 10 = s) && decide (y % 10 < l + 1)) = (decide (y / 10 = s) && decide (y % 10 < l)) := by
      by_cases c1 : y / 10 = s
      · have : (y % 10 < l + 1) = (y % 10 < l) := by apply propext; omega
        simp only [this]
      · rw [decide_eq_false c1, Bool.false_and, Bool.false_and]
    rw [e]
theorem pl_fd_dn {n s : Nat} (hs : 0 < s) (y : Nat) : pl_fd n s n y = pl_fd n (s - 1) 0 y := by
  unfold pl_fd
  by_cases h1 : y % 10 < n
  · have e : (decide (s < y / 10) || (decide (y / 10 = s) && decide (y % 10 < n))) = (decide (s - 1 < y / 10) || (decide (y / 10 = s - 1) && decide (y % 10 < 0))) := by
      rw [decide_eq_true h1, Bool.and_true, decide_eq_false (Nat.not_lt_zero _), Bool.and_false, Bool.or_false]
      by_cases c1 : s < y / 10
      · rw [decide_eq_true c1, decide_eq_true (show s - 1 < y / 10 by omega)]; rfl
      · by_cases c2 : y / 10 = s
        · rw [decide_eq_true c2, Bool.or_true, decide_eq_true (by omega)]
        · rw [decide_eq_false c1, decide_eq_false c2, decide_eq_false (by omega)]; rfl
    rw [e]
  · rw [decide_eq_false h1]; rfl
theorem pl_fd_0 {n : Nat} (y : Nat) : pl_fd n (2 ^ n - 1) 0 y = false := by
  unfold pl_fd
  rw [decide_eq_false (Nat.not_lt_zero _), Bool.and_false, Bool.or_false]
  by_cases h : y / 10 < 2 ^ n
  · rw [decide_eq_false (show ¬ 2 ^ n - 1 < y / 10 by omega), Bool.and_false]
  · rw [decide_eq_false h, Bool.and_false, Bool.false_and, Bool.false_and]

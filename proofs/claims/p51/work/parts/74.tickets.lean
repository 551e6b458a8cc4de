/-! TICKETS: the pure part. n tickets of years a to b; on j k: j can be directly ahead of k. -/
theorem pl_xor_tb (s k i : Nat) : (s ^^^ 2 ^ k).testBit i = (s.testBit i ^^ decide (k = i)) := by
  rw [Nat.testBit_xor, Nat.testBit_two_pow]
theorem pl_xor_or {s p : Nat} (h : p &&& s = p) : (s ^^^ p) ||| p = s := by
  apply Nat.eq_of_testBit_eq
  intro i
  have h1 := congrArg (fun x => x.testBit i) h
  simp only [Nat.testBit_and] at h1
  rw [Nat.testBit_or, Nat.testBit_xor]
  cases hs : s.testBit i <;> cases hp : p.testBit i <;> simp_all
theorem pl_xor_lt {s p : Nat} (h : p &&& s = p) (hp : 0 < p) : s ^^^ p < s := by
  have h1 := pl_xor_or h
  have h2 : s ^^^ p ≤ (s ^^^ p) ||| p := Nat.left_le_or
  rw [h1] at h2
  refine Nat.lt_of_le_of_ne h2 fun hc => ?_
  have : p = 0 := by
    apply Nat.eq_of_testBit_eq
    intro i
    have h3 := congrArg (fun x => x.testBit i) hc
    simp only [Nat.testBit_xor] at h3
    rw [Nat.zero_testBit]
    cases hs : s.testBit i <;> cases hp : p.testBit i <;> simp_all
  omega
theorem pl_bit_sub {s k : Nat} (h : s.testBit k = true) : 2 ^ k &&& s = 2 ^ k := by
  apply Nat.eq_of_testBit_eq
  intro i
  rw [Nat.testBit_and, Nat.testBit_two_pow]
  by_cases hk : k = i
  · subst hk; simp [h]
  · simp [hk]
theorem pl_del_lt {s k : Nat} (h : s.testBit k = true) : s ^^^ 2 ^ k < s := pl_xor_lt (pl_bit_sub h) (Nat.two_pow_pos k)
theorem pl_del_tb {s k : Nat} (h : s.testBit k = true) : (s ^^^ 2 ^ k).testBit k = false := by rw [pl_xor_tb, h]; simp
theorem pl_del_ins {s k : Nat} (h : s.testBit k = true) : (s ^^^ 2 ^ k) ||| 2 ^ k = s := pl_xor_or (pl_bit_sub h)
theorem pl_bc_del {s k n : Nat} (h : s.testBit k = true) (hk : k < n) : pl_bc (s ^^^ 2 ^ k) n + 1 = pl_bc s n := by
  rw [← pl_bc_ins (pl_del_tb h) hk, pl_del_ins h]
/-- an int's set without a part of it -/
theorem pl_andn {s p : Nat} (h : p &&& s = p) : nI s &&& (nI p ^^^ (-1 : Int32)) = nI (s ^^^ p) := by
  apply Int32.toBitVec_inj.mp
  show BitVec.ofNat 32 s &&& (BitVec.ofNat 32 p ^^^ BitVec.allOnes 32) = BitVec.ofNat 32 (s ^^^ p)
  apply BitVec.eq_of_getLsbD_eq
  intro i hi
  have h1 := congrArg (fun x => x.testBit i) h
  simp only [Nat.testBit_and] at h1
  simp only [BitVec.getLsbD_and, BitVec.getLsbD_xor, BitVec.getLsbD_allOnes, BitVec.getLsbD_ofNat, hi, decide_true, Bool.true_and, Bool.xor_true, Nat.testBit_xor]
  cases hs : s.testBit i <;> cases hp : p.testBit i <;> simp_all
theorem pl_and_set (x : Nat) (p : Nat → Bool) (n : Nat) : (x &&& pl_set p n = 0) = (pl_any (fun j => x.testBit j && p j) n = false) := by
  apply propext
  constructor
  · intro h
    cases hc : pl_any (fun j => x.testBit j && p j) n with
    | false => rfl
    | true =>
      obtain ⟨j, hj, hp⟩ := (pl_any_iff _ _).mp hc
      have h1 := congrArg (fun y => y.testBit j) h
      simp only [Nat.testBit_and, pl_set_tb, Nat.zero_testBit, decide_eq_true hj, Bool.true_and] at h1
      rw [h1] at hp
      cases hp
  · intro h
    apply Nat.eq_of_testBit_eq
    intro i
    rw [Nat.testBit_and, pl_set_tb, Nat.zero_testBit]
    cases hc : (x.testBit i && (decide (i < n) && p i)) with
    | false => rfl
    | true =>
      simp only [Bool.and_eq_true, decide_eq_true_eq] at hc
      have : pl_any (fun j => x.testBit j && p j) n = true := (pl_any_iff _ _).mpr ⟨i, hc.2.1, by simp [hc.1, hc.2.2]⟩
      rw [h] at this; cases this
/-- the greatest a of a set -/
def pl_ov (a : Nat → Nat) (s : Nat) : Nat → Nat
  | 0 => 0
  | k + 1 => if s.testBit k = true ∧ pl_ov a s k < a k then a k else pl_ov a s k
theorem pl_ov1 (a : Nat → Nat) (s k : Nat) : pl_ov a s (k + 1) = if s.testBit k = true ∧ pl_ov a s k < a k then a k else pl_ov a s k := rfl
theorem pl_ov_le (a : Nat → Nat) (s c n : Nat) : pl_ov a s n ≤ c ↔ ∀ j, j < n → s.testBit j = true → a j ≤ c := by
  induction n with
  | zero => exact ⟨fun _ j hj => by omega, fun _ => Nat.zero_le _⟩
  | succ n ih =>
    rw [pl_ov1]
    constructor
    · intro h j hj hs
      by_cases hjn : j = n
      · subst hjn
        by_cases hlt : pl_ov a s j < a j
        · rw [if_pos ⟨hs, hlt⟩] at h; exact h
        · rw [if_neg (fun z => hlt z.2)] at h; omega
      · refine ih.mp ?_ j (by omega) hs
        split at h <;> omega
    · intro h
      split
      · rename_i hc; exact h n (by omega) hc.1
      · exact ih.mpr fun j hj hs => h j (by omega) hs
theorem pl_ov_del (a : Nat → Nat) {s k n : Nat} (hk : k < n) (h : s.testBit k = true) : pl_ov a s n = max (pl_ov a (s ^^^ 2 ^ k) n) (a k) := by
  have h1 : ∀ c, pl_ov a s n ≤ c ↔ max (pl_ov a (s ^^^ 2 ^ k) n) (a k) ≤ c := fun c => by
    rw [Nat.max_le, pl_ov_le, pl_ov_le]
    constructor
    · intro hc
      refine ⟨fun j hj hs => hc j hj ?_, hc k hk h⟩
      rw [pl_xor_tb] at hs
      by_cases hkj : k = j
      · rw [← hkj]; exact h
      · simpa [hkj] using hs
    · rintro ⟨hc, hc2⟩ j hj hs
      by_cases hkj : k = j
      · rw [← hkj]; exact hc2
      · refine hc j hj ?_
        rw [pl_xor_tb]
        simp [hkj, hs]
  have h2 := (h1 (pl_ov a s n)).mp (Nat.le_refl _)
  have h3 := (h1 (max (pl_ov a (s ^^^ 2 ^ k) n) (a k))).mpr (Nat.le_refl _)
  omega
theorem pl_ov_0 (a : Nat → Nat) (n : Nat) : pl_ov a 0 n = 0 := by
  have := (pl_ov_le a 0 0 n).mpr (fun j _ hs => by rw [Nat.zero_testBit] at hs; cases hs)
  omega
/-- whether k can be the last of a set, by a table of who can be the last of smaller ones -/
def pl_ce (n : Nat) (a b : Nat → Nat) (on : Nat → Nat → Bool) (T : Nat → Nat) (s k : Nat) : Bool :=
  s.testBit k && (decide (s ^^^ 2 ^ k = 0) || (decide (pl_ov a (s ^^^ 2 ^ k) n ≤ b k) && decide (T (s ^^^ 2 ^ k) &&& pl_set (fun j => on j k) n ≠ 0)))
def pl_tl (n : Nat) (a b : Nat → Nat) (on : Nat → Nat → Bool) : Nat → Nat → Nat
  | 0, _ => 0
  | s + 1, x => if x = s then pl_set (pl_ce n a b on (pl_tl n a b on s) s) n else pl_tl n a b on s x
theorem pl_tl1 (n : Nat) (a b : Nat → Nat) (on : Nat → Nat → Bool) (s x : Nat) : pl_tl n a b on (s + 1) x = if x = s then pl_set (pl_ce n a b on (pl_tl n a b on s) s) n else pl_tl n a b on s x := rfl
theorem pl_tl_st (n : Nat) (a b : Nat → Nat) (on : Nat → Nat → Bool) {s s' x : Nat} (hx : x < s) (h : s ≤ s') : pl_tl n a b on s' x = pl_tl n a b on s x := by
  induction s' with
  | zero => omega
  | succ s' ih =>
    by_cases hs : s = s' + 1
    · rw [hs]
    · rw [pl_tl1, if_neg (by omega), ih (by omega)]
theorem pl_tl_lt (n : Nat) (a b : Nat → Nat) (on : Nat → Nat → Bool) (s x : Nat) : pl_tl n a b on s x < 2 ^ n := by
  induction s with
  | zero => exact Nat.two_pow_pos n
  | succ s ih =>
    rw [pl_tl1]
    split
    · exact pl_set_lt _ _
    · exact ih
theorem pl_tl_own (n : Nat) (a b : Nat → Nat) (on : Nat → Nat → Bool) {s x : Nat} (hx : x < s) : pl_tl n a b on s x = pl_set (pl_ce n a b on (pl_tl n a b on x) x) n := by
  rw [pl_tl_st n a b on (show x < x + 1 by omega) hx, pl_tl1, if_pos rfl]
/-- one ticket can be one traveller's -/
theorem pl_tl_one (n : Nat) (a b : Nat → Nat) (on : Nat → Nat → Bool) {s k : Nat} (hx : 2 ^ k < s) (hk : k < n) : pl_tl n a b on s (2 ^ k) ≠ 0 := by
  rw [pl_tl_own n a b on hx]
  intro h
  have h1 := congrArg (fun y => y.testBit k) h
  simp only [pl_set_tb, Nat.zero_testBit, decide_eq_true hk, Bool.true_and] at h1
  unfold pl_ce at h1
  simp [Nat.xor_self] at h1
/-- the reference's first year of k behind all others of s -/
def pl_yb (n : Nat) (a b : Nat → Nat) (on : Nat → Nat → Bool) (s k : Nat) : Nat := if (pl_tl n a b on (s + 1) s).testBit k = true then pl_ov a s n else 1000
theorem pl_yb_eq (n : Nat) (a b : Nat → Nat) (on : Nat → Nat → Bool) {s k : Nat} (hk : k < n) (hs : s.testBit k = true) (hne : s ^^^ 2 ^ k ≠ 0) : pl_yb n a b on s k = if pl_ov a (s ^^^ 2 ^ k) n ≤ b k ∧ pl_any (fun j => (pl_tl n a b on s (s ^^^ 2 ^ k)).testBit j && on j k) n = true then max (pl_ov a (s ^^^ 2 ^ k) n) (a k) else 1000 := by
  unfold pl_yb
  rw [pl_tl_own n a b on (show s < s + 1 by omega), pl_set_tb, decide_eq_true hk, Bool.true_and, ← pl_ov_del a hk hs]
  have e : (pl_ce n a b on (pl_tl n a b on s) s k = true) = (pl_ov a (s ^^^ 2 ^ k) n ≤ b k ∧ pl_any (fun j => (pl_tl n a b on s (s ^^^ 2 ^ k)).testBit j && on j k) n = true) := by
    unfold pl_ce
    rw [hs, decide_eq_false hne, Bool.true_and, Bool.false_or, Bool.and_eq_true, decide_eq_true_eq, decide_eq_true_eq, Ne, pl_and_set, Bool.not_eq_false]
  simp only [e]
theorem pl_yb_one (n : Nat) (a b : Nat → Nat) (on : Nat → Nat → Bool) {s k : Nat} (hk : k < n) (hs : s.testBit k = true) (hne : s ^^^ 2 ^ k = 0) : pl_yb n a b on s k = a k := by
  unfold pl_yb
  rw [pl_tl_own n a b on (show s < s + 1 by omega), pl_set_tb, decide_eq_true hk, Bool.true_and, pl_ov_del a hk hs, hne, pl_ov_0]
  have e : pl_ce n a b on (pl_tl n a b on s) s k = true := by
    unfold pl_ce
    rw [hs, decide_eq_true hne, Bool.true_and, Bool.true_or]
  rw [if_pos e]; omega
theorem pl_yb_no (n : Nat) (a b : Nat → Nat) (on : Nat → Nat → Bool) {s k : Nat} (hs : s.testBit k = false) : pl_yb n a b on s k = 1000 := by
  unfold pl_yb
  rw [pl_tl_own n a b on (show s < s + 1 by omega), pl_set_tb]
  have e : pl_ce n a b on (pl_tl n a b on s) s k = false := by
    unfold pl_ce
    rw [hs, Bool.false_and]
  rw [e, Bool.and_false, if_neg (by decide)]
theorem pl_any_tb {x n : Nat} (hx : x < 2 ^ n) : pl_any (fun i => x.testBit i) n = decide (x ≠ 0) := by
  by_cases h : x = 0
  · subst h
    rw [decide_eq_false (by simp)]
    cases hc : pl_any (fun i => (0 : Nat).testBit i) n with
    | false => rfl
    | true =>
      obtain ⟨i, _, hi⟩ := (pl_any_iff _ _).mp hc
      rw [Nat.zero_testBit] at hi; cases hi
  · rw [decide_eq_true h]
    refine Classical.byContradiction fun hc => h ?_
    apply Nat.eq_of_testBit_eq
    intro i
    rw [Nat.zero_testBit]
    by_cases hi : i < n
    · cases hb : x.testBit i with
      | false => rfl
      | true => exact absurd ((pl_any_iff _ _).mpr ⟨i, hi, hb⟩) hc
    · exact Nat.testBit_lt_two_pow (Nat.lt_of_lt_of_le hx (Nat.pow_le_pow_right (by decide) (by omega)))
/-- parts of a set, one behind the other -/
def pl_pf (g : Nat → Nat → Nat) (s : Nat) : Nat → Nat → Nat → Nat
  | 0, _, v => v
  | f + 1, p, v => if p = 0 then v else pl_pf g s f ((p - 1) &&& s) (g p v)
theorem pl_pf1 (g : Nat → Nat → Nat) (s f p v : Nat) : pl_pf g s (f + 1) p v = if p = 0 then v else pl_pf g s f ((p - 1) &&& s) (g p v) := rfl
theorem pl_part_lt {p s : Nat} (hp : 0 < p) : (p - 1) &&& s < p := by
  have : (p - 1) &&& s ≤ p - 1 := Nat.and_le_left
  omega
theorem pl_part_sub (p s : Nat) : ((p - 1) &&& s) &&& s = (p - 1) &&& s := by rw [Nat.and_assoc, Nat.and_self]
/-- with one part as a journey -/
def pl_gp (L F : Nat → Nat) (s p v : Nat) : Nat := if L p ≠ 0 ∧ F (s ^^^ p) + 1 < v then F (s ^^^ p) + 1 else v
theorem pl_pf_min (L F : Nat → Nat) (s : Nat) : ∀ f p v, v ≤ 100 → pl_pf (pl_gp L F s) s f p v = min v (pl_pf (pl_gp L F s) s f p 100) := by
  intro f
  induction f with
  | zero => intro p v hv; show v = min v 100; omega
  | succ f ih =>
    intro p v hv
    rw [pl_pf1, pl_pf1]
    by_cases hp : p = 0
    · rw [if_pos hp, if_pos hp]; omega
    · rw [if_neg hp, if_neg hp]
      have h1 : pl_gp L F s p v ≤ v := by unfold pl_gp; split <;> omega
      have h2 : pl_gp L F s p 100 ≤ 100 := by unfold pl_gp; split <;> omega
      have h3 : pl_gp L F s p v = min v (pl_gp L F s p 100) := by
        unfold pl_gp
        by_cases hl : L p ≠ 0
        · by_cases c1 : F (s ^^^ p) + 1 < v
          · rw [if_pos ⟨hl, c1⟩, if_pos ⟨hl, by omega⟩]; omega
          · rw [if_neg (fun z => c1 z.2)]
            split <;> omega
        · rw [if_neg (fun z => hl z.1), if_neg (fun z => hl z.1)]; omega
      rw [ih _ _ (show pl_gp L F s p v ≤ 100 by omega), ih _ (pl_gp L F s p 100) h2]
      omega
theorem pl_low : ∀ p : Fin 1024, 0 < p.val → (p.val - 1) &&& p.val = 0 → ∃ k : Fin 10, p.val = 2 ^ k.val := by decide +kernel
theorem pl_pf_one (L F : Nat → Nat) (s n : Nat) (hn : n ≤ 10) (hs : s < 2 ^ n) (hL : ∀ k, k < n → L (2 ^ k) ≠ 0) : ∀ f p v, p < f → 0 < p → p &&& s = p → ∃ k, k < n ∧ s.testBit k = true ∧ pl_pf (pl_gp L F s) s f p v ≤ F (s ^^^ 2 ^ k) + 1 := by
  intro f
  induction f with
  | zero => intro p v hf; omega
  | succ f ih =>
    intro p v hf hp hsub
    rw [pl_pf1, if_neg (by omega)]
    have hq := pl_part_lt (s := s) hp
    by_cases hz : (p - 1) &&& s = 0
    · have hps : p ≤ s := by rw [← hsub]; exact Nat.and_le_right
      have hs10 : 2 ^ n ≤ 2 ^ 10 := Nat.pow_le_pow_right (by decide) hn
      have hself : (p - 1) &&& p = 0 := by
        have h1 : (p - 1) &&& p = (p - 1) &&& (p &&& s) := by rw [hsub]
        rw [h1, Nat.and_comm p s, ← Nat.and_assoc, hz, Nat.zero_and]
      obtain ⟨k, hk⟩ := pl_low ⟨p, by omega⟩ hp hself
      have hk : p = 2 ^ k.val := hk
      have hst : s.testBit k.val = true := by
        have h1 := congrArg (fun y => y.testBit k.val) hsub
        simp only [Nat.testBit_and, hk, Nat.testBit_two_pow_self, Bool.true_and] at h1
        exact h1
      have hkn : k.val < n := by
        refine Classical.byContradiction fun hc => ?_
        have := Nat.testBit_lt_two_pow (x := s) (i := k.val) (Nat.lt_of_lt_of_le hs (Nat.pow_le_pow_right (by decide) (by omega)))
        rw [this] at hst; cases hst
      refine ⟨k.val, hkn, hst, ?_⟩
      rw [hz]
      have e : ∀ w, pl_pf (pl_gp L F s) s f 0 w = w := fun w => by
        cases f with
        | zero => rfl
        | succ f => rw [pl_pf1, if_pos rfl]
      rw [e, hk]
      unfold pl_gp
      have hl := hL k.val hkn
      by_cases c : F (s ^^^ 2 ^ k.val) + 1 < v
      · rw [if_pos ⟨hl, c⟩]; exact Nat.le_refl _
      · rw [if_neg (fun z => c z.2)]; omega
    · exact ih _ _ (by omega) (by omega) (pl_part_sub p s)
/-- the fewest travellers, by sets -/
def pl_pp (L : Nat → Nat) : Nat → Nat → Nat
  | 0, _ => 0
  | s + 1, x => if x = s then (if s = 0 then 0 else pl_pf (pl_gp L (pl_pp L s) s) s (s + 1) s 100) else pl_pp L s x
theorem pl_pp1 (L : Nat → Nat) (s x : Nat) : pl_pp L (s + 1) x = if x = s then (if s = 0 then 0 else pl_pf (pl_gp L (pl_pp L s) s) s (s + 1) s 100) else pl_pp L s x := rfl
theorem pl_pp_le (L : Nat → Nat) {n : Nat} (hn : n ≤ 10) (hL : ∀ k, k < n → L (2 ^ k) ≠ 0) : ∀ s, s ≤ 2 ^ n → ∀ x, x < s → pl_pp L s x ≤ pl_bc x n := by
  intro s
  induction s with
  | zero => intro _ x hx; omega
  | succ s ih =>
    intro hs x hx
    rw [pl_pp1]
    by_cases hxs : x = s
    · rw [if_pos hxs, hxs]
      by_cases h0 : s = 0
      · rw [if_pos h0]; exact Nat.zero_le _
      · rw [if_neg h0]
        obtain ⟨k, hk, hst, hle⟩ := pl_pf_one L (pl_pp L s) s n hn (by omega) hL (s + 1) s 100 (by omega) (by omega) (Nat.and_self s)
        have h1 := ih (by omega) (s ^^^ 2 ^ k) (pl_del_lt hst)
        have h2 := pl_bc_del hst hk
        omega
    · rw [if_neg hxs]; exact ih (by omega) x (by omega)
/-- the class begins with n, the reference with 100: all the same -/
theorem pl_pp_n (L : Nat → Nat) {n : Nat} (hn : n ≤ 10) (hL : ∀ k, k < n → L (2 ^ k) ≠ 0) {s : Nat} (h0 : 0 < s) (hs : s < 2 ^ n) : pl_pf (pl_gp L (pl_pp L s) s) s (s + 1) s n = pl_pf (pl_gp L (pl_pp L s) s) s (s + 1) s 100 := by
  have h1 := pl_pp_le L hn hL (s + 1) (by omega) s (by omega)
  rw [pl_pp1, if_pos rfl, if_neg (by omega)] at h1
  have h2 := pl_bc_le s n
  rw [pl_pf_min L _ s _ _ n (by omega)]
  omega
theorem pl_pf_le (L F : Nat → Nat) (s : Nat) : ∀ f p v, pl_pf (pl_gp L F s) s f p v ≤ v := by
  intro f
  induction f with
  | zero => intro p v; exact Nat.le_refl _
  | succ f ih =>
    intro p v
    rw [pl_pf1]
    have h1 : pl_gp L F s p v ≤ v := by unfold pl_gp; split <;> omega
    split
    · exact Nat.le_refl _
    · exact Nat.le_trans (ih _ _) h1
theorem pl_pp_100 (L : Nat → Nat) : ∀ s x, pl_pp L s x ≤ 100 := by
  intro s
  induction s with
  | zero => intro x; exact Nat.zero_le _
  | succ s ih =>
    intro x
    rw [pl_pp1]
    split
    · split
      · exact Nat.zero_le _
      · exact pl_pf_le _ _ _ _ _ _
    · exact ih x
/-- the k-th of those below n that have p -/
def pl_rnk (p : Nat → Bool) : Nat → Nat → Nat
  | 0, _ => 0
  | n + 1, k => if p n = true ∧ k = pl_cnt p n then n else pl_rnk p n k
theorem pl_rnk1 (p : Nat → Bool) (n k : Nat) : pl_rnk p (n + 1) k = if p n = true ∧ k = pl_cnt p n then n else pl_rnk p n k := rfl
theorem pl_rnk_y {p : Nat → Bool} {n k : Nat} (h : p n = true ∧ k = pl_cnt p n) : pl_rnk p (n + 1) k = n := by rw [pl_rnk1, if_pos h]
theorem pl_rnk_n {p : Nat → Bool} {n k : Nat} (h : ¬ (p n = true ∧ k = pl_cnt p n)) : pl_rnk p (n + 1) k = pl_rnk p n k := by rw [pl_rnk1, if_neg h]
theorem pl_rnk_ok (p : Nat → Bool) : ∀ n k, k < pl_cnt p n → pl_rnk p n k < n ∧ p (pl_rnk p n k) = true := by
  intro n
  induction n with
  | zero => intro k hk; exact absurd hk (Nat.not_lt_zero k)
  | succ n ih =>
    intro k hk
    rw [pl_cnt1] at hk
    rw [pl_rnk1]
    by_cases hp : p n = true
    · rw [if_pos hp] at hk
      by_cases hc : k = pl_cnt p n
      · rw [if_pos ⟨hp, hc⟩]; exact ⟨Nat.lt_succ_self n, hp⟩
      · rw [if_neg (fun z => hc z.2)]
        have := ih k (by omega)
        exact ⟨by omega, this.2⟩
    · rw [if_neg hp] at hk
      rw [if_neg (fun z => hp z.1)]
      have := ih k hk
      exact ⟨by omega, this.2⟩

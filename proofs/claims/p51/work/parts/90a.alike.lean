/-! WHAT BOTH OBJECTS ANSWER ALIKE. -/
theorem pm_setc {p q : Nat → Bool} {n : Nat} (h : ∀ i, i < n → p i = q i) : pl_set p n = pl_set q n := by
  induction n with
  | zero => rfl
  | succ n ih => rw [pl_set1, pl_set1, ih fun i hi => h i (by omega), h n (by omega)]
theorem pm_cntc {p q : Nat → Bool} {n : Nat} (h : ∀ i, i < n → p i = q i) : pl_cnt p n = pl_cnt q n := by
  induction n with
  | zero => rfl
  | succ n ih => rw [pl_cnt1, pl_cnt1, ih fun i hi => h i (by omega), h n (by omega)]
theorem pm_allc {p q : Nat → Bool} {n : Nat} (h : ∀ i, i < n → p i = q i) : pl_all p n = pl_all q n := by
  induction n with
  | zero => rfl
  | succ n ih =>
    show (pl_all p n && p n) = (pl_all q n && q n)
    rw [ih fun i hi => h i (by omega), h n (by omega)]
theorem pm_sumc {f g : Nat → Nat} {n : Nat} (h : ∀ i, i < n → f i = g i) : pl_sum f n = pl_sum g n := by
  induction n with
  | zero => rfl
  | succ n ih => rw [pl_sum1, pl_sum1, ih fun i hi => h i (by omega), h n (by omega)]
theorem pm_all_t {p : Nat → Bool} {n : Nat} : pl_all p n = true ↔ ∀ i, i < n → p i = true := by
  induction n with
  | zero => exact ⟨fun _ i hi => absurd hi (Nat.not_lt_zero i), fun _ => rfl⟩
  | succ n ih =>
    have e : pl_all p (n + 1) = (pl_all p n && p n) := rfl
    rw [e, Bool.and_eq_true, ih]
    constructor
    · rintro ⟨h1, h2⟩ i hi
      by_cases e : i = n
      · rw [e]; exact h2
      · exact h1 i (by omega)
    · intro h; exact ⟨fun i hi => h i (by omega), h n (by omega)⟩
/-- counting back to front -/
theorem pm_cntL (p : Nat → Bool) (n : Nat) : pl_cnt p (n + 1) = (if p 0 = true then 1 else 0) + pl_cnt (fun i => p (i + 1)) n := by
  induction n with
  | zero =>
    show (if p 0 = true then 0 + 1 else 0) = _
    by_cases h : p 0 = true
    · simp [h, pl_cnt]
    · simp [h, pl_cnt]
  | succ n ih =>
    rw [pl_cnt1, ih, pl_cnt1]
    by_cases h : p (n + 1) = true
    · simp only [h, if_true]; omega
    · simp only [h, if_false, Bool.false_eq_true]
theorem pm_cntR (p : Nat → Bool) : ∀ n, pl_cnt (fun i => p (n - 1 - i)) n = pl_cnt p n := by
  intro n
  induction n with
  | zero => rfl
  | succ n ih =>
    rw [pm_cntL, pl_cnt1]
    have e1 : n + 1 - 1 - 0 = n := by omega
    have e2 : pl_cnt (fun i => p (n + 1 - 1 - (i + 1))) n = pl_cnt (fun i => p (n - 1 - i)) n := pm_cntc fun i hi => by rw [show n + 1 - 1 - (i + 1) = n - 1 - i by omega]
    show (if p (n + 1 - 1 - 0) = true then 1 else 0) + pl_cnt (fun i => p (n + 1 - 1 - (i + 1))) n = _
    rw [e1, e2, ih]
    by_cases h : p n = true
    · simp only [h, if_true]; omega
    · simp only [h, if_false, Bool.false_eq_true]; omega
theorem pm_pc {S nl : Nat} (hS : S < 2 ^ nl) (hnl : nl ≤ 8) : pl_pc S = pl_cnt (fun i => S.testBit i) nl := by
  unfold pl_pc
  have : ∀ d, nl + d ≤ 8 → pl_cnt (fun i => S.testBit i) (nl + d) = pl_cnt (fun i => S.testBit i) nl := fun d => by
    induction d with
    | zero => exact fun _ => rfl
    | succ d ih =>
      intro hd
      rw [← Nat.add_assoc, pl_cnt1, ih (by omega)]
      have hb : S.testBit (nl + d) = false := Nat.testBit_lt_two_pow (Nat.lt_of_lt_of_le hS (Nat.pow_le_pow_right (by decide) (by omega)))
      rw [hb, if_neg (by decide)]
  have := this (8 - nl) (by omega)
  rw [show nl + (8 - nl) = 8 by omega] at this
  exact this
/-- a set seen from the other end has as many -/
theorem pm_pcR {S T nl : Nat} (hS : S < 2 ^ nl) (hT : T < 2 ^ nl) (hnl : nl ≤ 8) (h : ∀ j, j < nl → T.testBit (nl - 1 - j) = S.testBit j) : pl_pc T = pl_pc S := by
  rw [pm_pc hS hnl, pm_pc hT hnl, ← pm_cntR]
  exact pm_cntc h
def pm_rv (nl S : Nat) : Nat := pl_set (fun j => S.testBit (nl - 1 - j)) nl
theorem pm_rv_lt (nl S : Nat) : pm_rv nl S < 2 ^ nl := pl_set_lt _ _
theorem pm_rv_tb {nl S j : Nat} (hj : j < nl) : (pm_rv nl S).testBit (nl - 1 - j) = S.testBit j := by
  unfold pm_rv
  rw [pl_set_tb, decide_eq_true (show nl - 1 - j < nl by omega), Bool.true_and, show nl - 1 - (nl - 1 - j) = j by omega]
theorem pm_rv2 {nl S : Nat} (hS : S < 2 ^ nl) : pm_rv nl (pm_rv nl S) = S := by
  apply Nat.eq_of_testBit_eq
  intro j
  by_cases hj : j < nl
  · have := pm_rv_tb (nl := nl) (S := pm_rv nl S) (j := nl - 1 - j) (by omega)
    rw [show nl - 1 - (nl - 1 - j) = j by omega] at this
    rw [this, pm_rv_tb hj]
  · have h1 : (pm_rv nl (pm_rv nl S)).testBit j = false := Nat.testBit_lt_two_pow (Nat.lt_of_lt_of_le (pm_rv_lt _ _) (Nat.pow_le_pow_right (by decide) (by omega)))
    have h2 : S.testBit j = false := Nat.testBit_lt_two_pow (Nat.lt_of_lt_of_le hS (Nat.pow_le_pow_right (by decide) (by omega)))
    rw [h1, h2]
theorem pm_rv_pc {nl S : Nat} (hS : S < 2 ^ nl) (hnl : nl ≤ 8) : pl_pc (pm_rv nl S) = pl_pc S := pm_pcR hS (pm_rv_lt nl S) hnl fun _ hj => pm_rv_tb hj
section alike
variable {A B : pl_A} {nl nt np n : Nat}
theorem pm_kind (h : pm_R A B nl nt np n) (hW : pl_W A) {i : Nat} (hi : i < n) : pl_N A 4 i 0 ≤ 5 := by
  have := (hW.2.2.2.2.1 i (by rw [h.1.2.2.2.1.1]; exact hi)).1.2
  exact this
theorem pm_ownlt (h : pm_R A B nl nt np n) (i : Nat) : pl_own A i < 2 ^ nl ∧ pl_own B i < 2 ^ nl := by
  have h0 := h.1.1
  unfold pl_own
  rw [h0.1, h0.2]
  exact ⟨pl_set_lt _ _, pl_set_lt _ _⟩
theorem pm_pr (h : pm_R A B nl nt np n) (hW : pl_W A) (hnl : nl ≤ 8) : ∀ i, i ≤ n → pl_pr B i = pl_pr A i := by
  intro i
  induction i with
  | zero => exact fun _ => rfl
  | succ i ih =>
    intro hi
    show pl_pr B i * pl_pc (pl_own B i) = pl_pr A i * pl_pc (pl_own A i)
    rw [ih (by omega), pm_pcR (pm_ownlt h i).1 (pm_ownlt h i).2 hnl fun j hj => pm_own h hj (by omega) (pm_kind h hW (by omega))]
/-- two sets meet as they do seen from the other end -/
theorem pm_meet {nl S S' T T' : Nat} (hS : S < 2 ^ nl) (hT : S' < 2 ^ nl) (h1 : ∀ j, j < nl → S'.testBit (nl - 1 - j) = S.testBit j) (h2 : ∀ j, j < nl → T'.testBit (nl - 1 - j) = T.testBit j) : (S' &&& T' ≠ 0) ↔ (S &&& T ≠ 0) := by
  have key : ∀ {S T S' T' : Nat}, S < 2 ^ nl → (∀ j, j < nl → S'.testBit (nl - 1 - j) = S.testBit j) → (∀ j, j < nl → T'.testBit (nl - 1 - j) = T.testBit j) → S &&& T ≠ 0 → S' &&& T' ≠ 0 := fun {S T S' T'} hS h1 h2 hz => by
    obtain ⟨j, hj⟩ := Nat.exists_testBit_of_ne_zero hz
    rw [Nat.testBit_and, Bool.and_eq_true] at hj
    have hjl : j < nl := by
      by_cases c : j < nl
      · exact c
      · have : S.testBit j = false := Nat.testBit_lt_two_pow (Nat.lt_of_lt_of_le hS (Nat.pow_le_pow_right (by decide) (by omega)))
        rw [this] at hj; cases hj.1
    intro hz2
    have : (S' &&& T').testBit (nl - 1 - j) = true := by rw [Nat.testBit_and, h1 j hjl, h2 j hjl, hj.1, hj.2]; rfl
    rw [hz2, Nat.zero_testBit] at this
    cases this
  refine ⟨key hT (fun j hj => ?_) (fun j hj => ?_), key hS h1 h2⟩
  · have := h1 (nl - 1 - j) (by omega)
    rw [show nl - 1 - (nl - 1 - j) = j by omega] at this
    exact this.symm
  · have := h2 (nl - 1 - j) (by omega)
    rw [show nl - 1 - (nl - 1 - j) = j by omega] at this
    exact this.symm
theorem pm_cov (h : pm_R A B nl nt np n) (hW : pl_W A) {S T : Nat} (hST : ∀ j, j < nl → T.testBit (nl - 1 - j) = S.testBit j) : pl_cov B T = pl_cov A S := by
  unfold pl_cov
  rw [h.1.2.2.2.1.1, h.1.2.2.2.1.2]
  refine pm_allc fun i hi => ?_
  rw [decide_eq_decide]
  exact pm_meet (pm_ownlt h i).1 (pm_ownlt h i).2 (fun j hj => pm_own h hj hi (pm_kind h hW hi)) hST
/-- the fewest who could own all -/
theorem pm_few (h : pm_R A B nl nt np n) (hW : pl_W A) (hnl : nl ≤ 8) : (pl_fb A (2 ^ nl) = 999 ↔ pl_fb B (2 ^ nl) = 999) ∧ (pl_fb A (2 ^ nl) ≠ 999 → pl_pc (pl_fb A (2 ^ nl)) = pl_pc (pl_fb B (2 ^ nl))) := by
  have p256 : 2 ^ nl ≤ 256 := Nat.le_trans (Nat.pow_le_pow_right (by decide) hnl) (by decide)
  have hc : ∀ S, S < 2 ^ nl → pl_cov B (pm_rv nl S) = pl_cov A S := fun S hS => pm_cov h hW fun j hj => pm_rv_tb hj
  have hc' : ∀ S, S < 2 ^ nl → pl_cov A (pm_rv nl S) = pl_cov B S := fun S hS => by
    rw [← hc _ (pm_rv_lt nl S), pm_rv2 hS]
  rcases pl_fb_ok A (2 ^ nl) p256 with ⟨a1, a2⟩ | ⟨a1, a2, a3⟩
  · rcases pl_fb_ok B (2 ^ nl) p256 with ⟨b1, b2⟩ | ⟨b1, b2, b3⟩
    · exact ⟨⟨fun _ => b1, fun _ => a1⟩, fun z => absurd a1 z⟩
    · have := a2 (pm_rv nl (pl_fb B (2 ^ nl))) (pm_rv_lt _ _)
      rw [hc' _ b1, b2] at this; cases this
  · rcases pl_fb_ok B (2 ^ nl) p256 with ⟨b1, b2⟩ | ⟨b1, b2, b3⟩
    · have := b2 (pm_rv nl (pl_fb A (2 ^ nl))) (pm_rv_lt _ _)
      rw [hc _ a1, a2] at this; cases this
    · refine ⟨⟨fun z => by omega, fun z => by omega⟩, fun _ => ?_⟩
      have u := a3 (pm_rv nl (pl_fb B (2 ^ nl))) (pm_rv_lt _ _) (by rw [hc' _ b1]; exact b2)
      have v := b3 (pm_rv nl (pl_fb A (2 ^ nl))) (pm_rv_lt _ _) (by rw [hc _ a1]; exact a2)
      rw [pm_rv_pc b1 hnl] at u
      rw [pm_rv_pc a1 hnl] at v
      omega
theorem pm_cf (h : pm_R A B nl nt np n) (S t : Nat) : pl_cf B S t = pl_cf A S t := by
  unfold pl_cf
  rw [h.1.2.2.1.1, h.1.2.2.1.2]
  congr 1
  refine pm_allc fun k hk => ?_
  rw [h.2.2.2.1 k 0 hk (by decide), h.2.2.2.1 k 1 hk (by decide)]
theorem pm_po (h : pm_R A B nl nt np n) : pl_po B 0 = pl_po A 0 := by
  have : ∀ d S, pl_ow B d S = pl_ow A d S := fun d => by
    induction d with
    | zero => exact fun _ => rfl
    | succ d ih =>
      intro S
      show pl_sum (fun t => if pl_cf B S t = true then pl_ow B d (S ||| 2 ^ t) else 0) (pl_N B 0 1 0) = pl_sum (fun t => if pl_cf A S t = true then pl_ow A d (S ||| 2 ^ t) else 0) (pl_N A 0 1 0)
      rw [h.1.2.1.1, h.1.2.1.2]
      exact pm_sumc fun t _ => by rw [pm_cf h, ih]
  unfold pl_po
  rw [this, h.1.2.1.1, h.1.2.1.2]
theorem pm_os (h : pm_R A B nl nt np n) (i : Nat) : pl_os B i = pl_os A i := by
  unfold pl_os
  rw [h.1.2.1.1, h.1.2.1.2, h.1.2.2.2.2.1.1, h.1.2.2.2.2.1.2]
  exact pm_setc fun t ht => by rw [h.2.2.1 t 0 ht (by decide), h.2.2.2.2.1 i 5 (by decide)]
theorem pm_sp (h : pm_R A B nl nt np n) : pl_cnt (pl_sp B) n = pl_cnt (pl_sp A) n := by
  refine pm_cntc fun i _ => ?_
  unfold pl_sp
  rw [pm_os h, h.2.2.2.2.1 i 0 (by decide), h.2.2.2.2.1 i 3 (by decide)]
theorem pm_lohi (h : pm_R A B nl nt np n) (hW : pl_W A) : ∀ i, i ≤ n → pl_lo B i = pl_lo A i ∧ pl_hi B i = pl_hi A i := by
  intro i
  induction i with
  | zero => exact fun _ => ⟨rfl, rfl⟩
  | succ i ih =>
    intro hi
    obtain ⟨e1, e2⟩ := ih (by omega)
    have hw := (hW.2.2.2.2.1 i (by rw [h.1.2.2.2.1.1]; exact hi)).2.2.2.1
    rw [h.1.2.1.1] at hw
    rw [pl_lo1, pl_lo1, pl_hi1, pl_hi1, e1, e2, h.2.2.2.2.1 i 3 (by decide), h.2.2.2.2.1 i 4 (by decide)]
    by_cases h100 : pl_N A 4 i 3 = 100
    · simp [h100]
    · rw [h.2.2.1 _ 1 (by omega) (by decide)]
      exact ⟨rfl, rfl⟩
theorem pm_trav (h : pm_R A B nl nt np n) (S : Nat) : pl_tn B S = pl_tn A S ∧ pl_ta B S = pl_ta A S ∧ pl_tb2 B S = pl_tb2 A S ∧ pl_tx B S = pl_tx A S := by
  have hq : pl_tq B S = pl_tq A S := by
    funext i; unfold pl_tq; rw [h.2.2.2.2.1 i 0 (by decide)]
  have hn : pl_N B 0 3 0 = pl_N A 0 3 0 := by rw [h.1.2.2.2.1.1, h.1.2.2.2.1.2]
  refine ⟨?_, ?_, ?_, ?_⟩
  · unfold pl_tn; rw [hq, hn]
  · funext k; unfold pl_ta; rw [hq, hn, h.2.2.2.2.1 _ 1 (by decide)]
  · funext k; unfold pl_tb2; rw [hq, hn, h.2.2.2.2.1 _ 2 (by decide)]
  · funext k; unfold pl_tx; rw [hq, hn, h.2.2.2.2.1 _ 5 (by decide)]
end alike

/-! TICKETS: the reference's side. -/
def pl_ht (A : pl_A) (g0 : Nat → Int32) (S i : Nat) : Nat → Int32 := fun k => if k < pl_cnt (pl_tq A S) i then nI (pl_rnk (pl_tq A S) i k) else g0 k
def pl_w41 (g : Nat → Int32) (c : Nat) : Nat → Int32 := fun j => if j = 41 then nI c else g j
theorem pl_w41u (g : Nat → Int32) (c d : Nat) : (fun j => if j = 41 then nI d else pl_w41 g c j) = pl_w41 g d := by
  funext j
  unfold pl_w41
  by_cases h : j = 41
  · rw [if_pos h, if_pos h]
  · rw [if_neg h, if_neg h, if_neg h]
/-- the reference with n tickets laid -/
def pl_lyM (A : pl_A) (M : ml_M) (S i : Nat) : ml_M := pl_wI (pl_wI M 33 (pl_w41 (ml_I M 33) (pl_cnt (pl_tq A S) i))) 56 (pl_ht A (ml_I M 56) S i)
theorem pl_s5633 (m : ml_M) (g : Nat → Int32) (k : Nat) (v : Int32) : ml_sI (pl_wI m 56 g) 33 k v = pl_wI (ml_sI m 33 k v) 56 g := pl_sIsw m (by decide) g k v
theorem pl_lyM_kp (A : pl_A) (M : ml_M) (S i : Nat) : pl_kp M (pl_lyM A M S i) := by
  have h1 : pl_kp M (pl_wI M 33 (pl_w41 (ml_I M 33) (pl_cnt (pl_tq A S) i))) := by
    have e : pl_wI M 33 (pl_w41 (ml_I M 33) (pl_cnt (pl_tq A S) i)) = ml_sI M 33 41 (nI (pl_cnt (pl_tq A S) i)) := by rw [pl_sI_w]; rfl
    rw [e]
    exact (pl_kp.refl M).s33 (by decide)
  exact h1.wI (by decide)
theorem pl_lyM_mo (A : pl_A) (M : ml_M) (S i : Nat) : pl_mo M (pl_lyM A M S i) := ((pl_mo.refl M).wI (by decide)).wI (by decide)
theorem pl_layM {A : pl_A} {M : ml_M} (hS : pl_Sh M) (hW : pl_W A) (hM : pl_M A M) {S : Nat} {q : Int32} (hq : ∀ i, i < pl_N A 0 3 0 → ∀ Z, fX11_has q (nI i) Z = some (if S.testBit i then 1 else 0)) : fX11_layTickets 33 q M = some (nI (pl_tn A S), pl_lyM A M S (pl_N A 0 3 0)) := by
  have hw := hW.1
  unfold pl_Wc at hw
  have e1 : (1 : Int32) = nI 1 := rfl
  have e4 : (4 : Int32) = nI 4 := rfl
  have hSg : ∀ i, pl_Sh (pl_lyM A M S i) := fun i => (hS.wI 33 _).wI 56 _
  have hMg : ∀ i, pl_M A (pl_lyM A M S i) := fun i => (pl_lyM_kp A M S i).M hM
  have h24 : ∀ i, ml_I (pl_lyM A M S i) 33 24 = nI (pl_N A 0 3 0) := fun i => (hMg i).1.2.2.2.1
  have h41 : ∀ i, ml_I (pl_lyM A M S i) 33 41 = nI (pl_cnt (pl_tq A S) i) := fun i => by
    unfold pl_lyM
    rw [pl_I_wI, if_neg (by decide), pl_I_wI, if_pos rfl]; unfold pl_w41; rw [if_pos rfl]
  have hx := pl_for (F := fun fu i (_ : Unit) => fX11_layTickets_7 fu 33 q (nI i) (pl_lyM A M S i)) (R := some (nI (pl_tn A S), pl_lyM A M S (pl_N A 0 3 0))) (pl_N A 0 3 0) (fun _ => ()) (fun fu i hi => ?_) (fun fu => ?_) ml_fu (by rw [pl_fu]; omega)
  · have e : ml_sI M 33 41 0 = pl_lyM A M S 0 := by
      unfold pl_lyM
      have e56 : pl_ht A (ml_I M 56) S 0 = ml_I (pl_wI M 33 (pl_w41 (ml_I M 33) (pl_cnt (pl_tq A S) 0))) 56 := by
        rw [pl_I_wI, if_neg (by decide)]
        funext k
        exact if_neg (fun z => Nat.not_lt_zero k z)
      rw [e56, pl_wI_0, pl_sI_w]
      rfl
    unfold fX11_layTickets
    rw [pl_k33 hS, if_pos rfl, pl_let, e]
    exact hx
  · show fX11_layTickets_7 (fu + 1) 33 q (nI i) (pl_lyM A M S i) = fX11_layTickets_7 fu 33 q (nI (i + 1)) (pl_lyM A M S (i + 1))
    obtain ⟨t1, -⟩ := pl_thgM (hSg i) hW (hMg i) hi
    have hwi := (hW.2.2.2.2.1 i hi).1
    have hle := pl_cnt_le (pl_tq A S) i
    have hqi := hq i hi
    have k33 := pl_k33 (hSg i)
    have k56 := pl_k56 (hSg i)
    have r42 := pl_r33_42 (hSg i)
    by_cases hp : pl_tq A S i = true
    · have hp' := hp
      unfold pl_tq at hp'
      rw [Bool.and_eq_true, decide_eq_true_eq] at hp'
      have e : pl_lyM A M S (i + 1) = ml_sI (ml_sI (pl_lyM A M S i) 56 (pl_cnt (pl_tq A S) i) (nI i)) 33 41 (nI (pl_cnt (pl_tq A S) i + 1)) := by
        unfold pl_lyM
        have e56 : (fun j => if j = pl_cnt (pl_tq A S) i then nI i else pl_ht A (ml_I M 56) S i j) = pl_ht A (ml_I M 56) S (i + 1) := by
          funext k
          unfold pl_ht
          rw [pl_cnt1, if_pos hp]
          by_cases h2 : k = pl_cnt (pl_tq A S) i
          · rw [if_pos h2, if_pos (by omega), pl_rnk_y ⟨hp, h2⟩]
          · rw [if_neg h2, pl_rnk_n (fun z => h2 z.2)]
            by_cases h3 : k < pl_cnt (pl_tq A S) i
            · rw [if_pos (by omega), if_pos (by omega)]
            · rw [if_neg (by omega), if_neg (by omega)]
        rw [pl_wI_sI, pl_s5633, pl_wI_sI, e56, pl_w41u, pl_cnt1, if_pos hp]
      rw [e]
      have h41' : ml_I (ml_sI (pl_lyM A M S i) 56 (pl_cnt (pl_tq A S) i) (nI i)) 33 41 = nI (pl_cnt (pl_tq A S) i) := by
        rw [pl_I_sI, if_neg (by omega), h41]
      simp (disch := omega) only [fX11_layTickets_7, fX11_layTickets_52, ↓pl_let, pl_b1, pl_b2, ↓reduceIte, k33, if_true, h24, nI_leI, show ¬ pl_N A 0 3 0 ≤ i by omega, if_false, t1, hp'.1, e4, hqi, hp'.2, e1, pl_eq0, Nat.reduceEqDiff, r42, h41, pl_in, nI_clamp, k56, show pl_cnt (pl_tq A S) i < 20 by omega, and_self, h41', nI_add]
    · have hp0 : pl_tq A S i = false := by simpa using hp
      have e : pl_lyM A M S (i + 1) = pl_lyM A M S i := by
        unfold pl_lyM
        have e56 : pl_ht A (ml_I M 56) S (i + 1) = pl_ht A (ml_I M 56) S i := by
          funext k
          unfold pl_ht
          rw [pl_cnt1, if_neg hp, pl_rnk_n (fun z => hp z.1)]
        rw [e56, pl_cnt1, if_neg hp]
      rw [e]
      by_cases hk : pl_N A 4 i 0 = 4
      · have hb : S.testBit i = false := by
          unfold pl_tq at hp0
          rw [decide_eq_true hk, Bool.true_and] at hp0; exact hp0
        simp (disch := omega) only [fX11_layTickets_7, fX11_layTickets_52, ↓pl_let, pl_b1, pl_b2, ↓reduceIte, k33, if_true, h24, nI_leI, show ¬ pl_N A 0 3 0 ≤ i by omega, if_false, t1, hk, e4, hqi, hb, Bool.false_eq_true, e1, nI_add]
      · simp (disch := omega) only [fX11_layTickets_7, fX11_layTickets_52, ↓pl_let, pl_b1, pl_b2, ↓reduceIte, k33, if_true, h24, nI_leI, show ¬ pl_N A 0 3 0 ≤ i by omega, if_false, t1, e4, nI_eq, hk, e1, nI_add]
  · have k33 := pl_k33 (hSg (pl_N A 0 3 0))
    have h41' := h41 (pl_N A 0 3 0)
    have h24' := h24 (pl_N A 0 3 0)
    simp (disch := omega) only [fX11_layTickets_7, fX11_layTickets_58, ↓pl_let, pl_b1, pl_b2, ↓reduceIte, k33, if_true, h24', nI_leI, Nat.le_refl, h41']
    rfl
/-- n tickets, years a to b, numbers x, laid before the reference -/
def pl_tkM (m : ml_M) (n : Nat) (a b x : Nat → Nat) : Prop := ml_I m 33 41 = nI n ∧ n ≤ 10 ∧ ∀ k, k < n → ∃ t, t < 20 ∧ ml_I m 56 k = nI t ∧ ml_I m 46 (7 * t + 1) = nI (a k) ∧ ml_I m 46 (7 * t + 2) = nI (b k) ∧ ml_I m 46 (7 * t + 5) = nI (x k) ∧ a k ≤ b k ∧ b k ≤ 99 ∧ x k ≤ 9999
theorem pl_tkM_ok {A : pl_A} {M : ml_M} (hW : pl_W A) (hM : pl_M A M) {S : Nat} (h10 : pl_tn A S ≤ 10) : pl_tkM (pl_lyM A M S (pl_N A 0 3 0)) (pl_tn A S) (pl_ta A S) (pl_tb2 A S) (pl_tx A S) := by
  have hw := hW.1
  unfold pl_Wc at hw
  have hM1 := (pl_lyM_kp A M S (pl_N A 0 3 0)).M hM
  refine ⟨?_, h10, fun k hk => ?_⟩
  · unfold pl_lyM
    rw [pl_I_wI, if_neg (by decide), pl_I_wI, if_pos rfl]; unfold pl_w41; rw [if_pos rfl]; rfl
  · obtain ⟨h1, h2, h3, h4⟩ := pl_tk_b hW hk
    have hi := hM1.2.2.2.2.1 _ h1
    refine ⟨pl_rnk (pl_tq A S) (pl_N A 0 3 0) k, by omega, ?_, ?_, ?_, ?_, h2, h3, h4⟩
    · unfold pl_lyM
      rw [pl_I_wI, if_pos rfl]; exact if_pos hk
    · rw [hi 1 (by decide), if_neg (by decide)]; rfl
    · rw [hi 2 (by decide), if_neg (by decide)]; rfl
    · rw [hi 5 (by decide), if_neg (by decide)]; rfl
theorem pl_tkM.wI {m : ml_M} {n : Nat} {a b x : Nat → Nat} (h : pl_tkM m n a b x) {c : Nat} (g : Nat → Int32) (hc : 57 ≤ c ∧ c ≤ 59) : pl_tkM (pl_wI m c g) n a b x := by
  obtain ⟨h1, h2, h3⟩ := h
  refine ⟨by rw [pl_I_wI, if_neg (by omega)]; exact h1, h2, fun k hk => ?_⟩
  rw [pl_I_wI, if_neg (by omega), pl_I_wI, if_neg (by omega)]
  exact h3 k hk
/-- the first year so far of k behind a set S, over the first j -/
def pl_es (n : Nat) (a b : Nat → Nat) (on : Nat → Nat → Bool) (T : Nat) (S k j : Nat) : Nat := if pl_ov a S n ≤ b k ∧ pl_any (fun j => T.testBit j && on j k) j = true then max (pl_ov a S n) (a k) else 1000
theorem pl_es0 (n : Nat) (a b : Nat → Nat) (on : Nat → Nat → Bool) (T S k : Nat) : pl_es n a b on T S k 0 = 1000 := by
  unfold pl_es
  rw [if_neg]
  rintro ⟨-, h⟩
  cases h
theorem pl_es1 (n : Nat) (a b : Nat → Nat) (on : Nat → Nat → Bool) (T S k j y : Nat) (hab : a k ≤ b k) (hb : b k ≤ 99) (hy : y = if T.testBit j = true ∧ on j k = true then pl_ov a S n else 1000) : pl_es n a b on T S k (j + 1) = if (if y ≤ a k then a k else y) ≤ b k ∧ (if y ≤ a k then a k else y) < pl_es n a b on T S k j then (if y ≤ a k then a k else y) else pl_es n a b on T S k j := by
  have hmx : (if y ≤ a k then a k else y) = max y (a k) := by split <;> omega
  have g : ∀ (o : Nat) (c : Bool), (if o ≤ b k ∧ true = true then max o (a k) else 1000) = if max o (a k) ≤ b k ∧ max o (a k) < (if o ≤ b k ∧ c = true then max o (a k) else 1000) then max o (a k) else (if o ≤ b k ∧ c = true then max o (a k) else 1000) := fun o c => by
    by_cases ho : o ≤ b k
    · have hm : max o (a k) ≤ b k := by omega
      cases c
      · have e1 : (if o ≤ b k ∧ false = true then max o (a k) else 1000) = 1000 := if_neg (fun z => by cases z.2)
        rw [e1, if_pos ⟨ho, rfl⟩, if_pos ⟨hm, by omega⟩]
      · have e1 : (if o ≤ b k ∧ true = true then max o (a k) else 1000) = max o (a k) := if_pos ⟨ho, rfl⟩
        rw [e1, if_neg (fun z => by have := z.2; omega)]
    · have e1 : ∀ c : Bool, (if o ≤ b k ∧ c = true then max o (a k) else 1000) = 1000 := fun c => if_neg (fun z => ho z.1)
      rw [e1, e1, if_neg (fun z => by have := z.1; omega)]
  rw [hmx]
  unfold pl_es
  rw [pl_any1]
  by_cases ht : T.testBit j = true ∧ on j k = true
  · rw [if_pos ht] at hy
    have e : (pl_any (fun j => T.testBit j && on j k) j || T.testBit j && on j k) = true := by rw [ht.1, ht.2]; simp
    rw [e, hy]
    exact g _ _
  · rw [if_neg ht] at hy
    have e : (T.testBit j && on j k) = false := by
      cases h1 : T.testBit j <;> cases h2 : on j k <;> simp_all
    rw [e, Bool.or_false, hy]
    exact (if_neg (fun z => by have := z.1; omega)).symm
theorem pl_yb_le {n : Nat} {a b : Nat → Nat} {on : Nat → Nat → Bool} (ha : ∀ k, k < n → a k ≤ 99) (s k : Nat) : pl_yb n a b on s k ≤ 1000 := by
  unfold pl_yb
  have := pl_ov_99 ha s n (Nat.le_refl n)
  split <;> omega
/-- the table of first years -/
def pl_yt (n : Nat) (a b x : Nat → Nat) (y : Nat) : Int32 := nI (pl_yb n a b (pl_on x) (y / 10) (y % 10))
theorem pl_earliest {m : ml_M} (hS : pl_Sh m) {n : Nat} {a b x : Nat → Nat} (ht : pl_tkM m n a b x) {s k : Nat} (hs : s < 2 ^ n) (hk : k < n) (hb : s.testBit k = true) (h57 : ∀ j, j < n → ml_I m 57 (10 * (s ^^^ 2 ^ k) + j) = nI (pl_yb n a b (pl_on x) (s ^^^ 2 ^ k) j)) :
    fX11_earliest 33 (nI (s ^^^ 2 ^ k)) (nI k) m = some (nI (pl_yb n a b (pl_on x) s k)) := by
  obtain ⟨hn, hn10, hkk⟩ := ht
  have p2 : 2 ^ n ≤ 1024 := Nat.le_trans (Nat.pow_le_pow_right (by decide) hn10) (by decide)
  have hdl := pl_del_lt hb
  have ha99 : ∀ k, k < n → a k ≤ 99 := fun k hkn => by obtain ⟨t, h⟩ := hkk k hkn; omega
  obtain ⟨t, ht20, u1, u2, u3, u4, u5, u6, u7⟩ := hkk k hk
  have k33 := pl_k33 hS
  have k46 := pl_k46 hS
  have k56 := pl_k56 hS
  have k57 := pl_k57 hS
  have r25 := pl_r33_25 hS
  have r42 := pl_r33_42 hS
  have r43 := pl_r33_43 hS
  have e1 : (1 : Int32) = nI 1 := rfl
  have e2 : (2 : Int32) = nI 2 := rfl
  have e5 : (5 : Int32) = nI 5 := rfl
  have e7 : (7 : Int32) = nI 7 := rfl
  have e10 : (10 : Int32) = nI 10 := rfl
  have e1000 : (1000 : Int32) = nI 1000 := rfl
  generalize hSd : s ^^^ 2 ^ k = S at *
  by_cases h0 : S = 0
  · rw [pl_yb_one n a b (pl_on x) hk hb (hSd.trans h0)]
    simp (disch := omega) only [fX11_earliest, ↓pl_let, pl_b1, pl_b2, ↓reduceIte, k33, if_true, r25, r42, pl_in, nI_clamp, k56, show k < 20 by omega, and_self, u1, e7, e1, e2, pk_mul, nI_add, k46, show 7 * t + 1 < 140 by omega, show 7 * t + 2 < 140 by omega, u2, u3, pl_eq0, eq_true h0]
  · have hyb := pl_yb_eq n a b (pl_on x) hk hb (fun z => h0 (hSd.symm.trans z))
    rw [hSd] at hyb
    have hT : pl_tl n a b (pl_on x) s S = pl_tl n a b (pl_on x) (S + 1) S := pl_tl_st n a b (pl_on x) (by omega) (by omega)
    rw [hT] at hyb
    have hes : pl_yb n a b (pl_on x) s k = pl_es n a b (pl_on x) (pl_tl n a b (pl_on x) (S + 1) S) S k n := hyb
    rw [hes]
    have hesb : ∀ j, pl_es n a b (pl_on x) (pl_tl n a b (pl_on x) (S + 1) S) S k j ≤ 1000 := fun j => by
      have := pl_ov_99 ha99 S n (Nat.le_refl n)
      unfold pl_es; split <;> omega
    have h164 : ∀ (K : Nat → Int32 → Int32 → Int32 → Int32 → Int32 → Int32 → ml_M → Option Int32) (j y : Nat), j < n → y ≤ 1000 → y = (if (pl_tl n a b (pl_on x) (S + 1) S).testBit j = true ∧ pl_on x j k = true then pl_ov a S n else 1000) → fX11_earliest_127 K 33 (nI S) (nI k) (nI (a k)) (nI (b k)) (nI (pl_es n a b (pl_on x) (pl_tl n a b (pl_on x) (S + 1) S) S k j)) (nI j) (nI y) m = K 33 (nI S) (nI k) (nI (a k)) (nI (b k)) (nI (pl_es n a b (pl_on x) (pl_tl n a b (pl_on x) (S + 1) S) S k (j + 1))) (nI (j + 1)) m := fun K j y hj hy1 hy => by
      rw [pl_es1 n a b (pl_on x) _ S k j y u5 u6 hy]
      have hb1 := hesb j
      generalize pl_es n a b (pl_on x) (pl_tl n a b (pl_on x) (S + 1) S) S k j = v at *
      by_cases c1 : y ≤ a k
      · rw [if_pos c1]
        by_cases c2 : a k < v
        · rw [if_pos ⟨u5, c2⟩]
          simp (disch := omega) only [fX11_earliest_127, fX11_earliest_141, fX11_earliest_162, fX11_earliest_164, nI_leI, c1, if_true, nI_ltI, show ¬ b k < a k by omega, if_false, show ¬ v ≤ a k by omega, e1, nI_add]
        · rw [if_neg (fun z => c2 z.2)]
          simp (disch := omega) only [fX11_earliest_127, fX11_earliest_141, fX11_earliest_162, fX11_earliest_164, nI_leI, c1, if_true, nI_ltI, show ¬ b k < a k by omega, if_false, show v ≤ a k by omega, e1, nI_add]
      · rw [if_neg c1]
        by_cases c3 : y ≤ b k
        · by_cases c2 : y < v
          · rw [if_pos ⟨c3, c2⟩]
            simp (disch := omega) only [fX11_earliest_127, fX11_earliest_141, fX11_earliest_162, fX11_earliest_164, nI_leI, c1, if_true, nI_ltI, show ¬ b k < y by omega, if_false, show ¬ v ≤ y by omega, e1, nI_add]
          · rw [if_neg (fun z => c2 z.2)]
            simp (disch := omega) only [fX11_earliest_127, fX11_earliest_141, fX11_earliest_162, fX11_earliest_164, nI_leI, c1, if_true, nI_ltI, show ¬ b k < y by omega, if_false, show v ≤ y by omega, e1, nI_add]
        · rw [if_neg (fun z => c3 z.1)]
          simp (disch := omega) only [fX11_earliest_127, fX11_earliest_141, fX11_earliest_162, fX11_earliest_164, nI_leI, c1, if_true, nI_ltI, show b k < y by omega, if_false, e1, nI_add]
    have hx := pl_for (F := fun fu j (_ : Unit) => fX11_earliest_49 fu 33 (nI S) (nI k) (nI (a k)) (nI (b k)) (nI (pl_es n a b (pl_on x) (pl_tl n a b (pl_on x) (S + 1) S) S k j)) (nI j) m) (R := some (nI (pl_es n a b (pl_on x) (pl_tl n a b (pl_on x) (S + 1) S) S k n))) n (fun _ => ()) (fun fu j hj => ?_) (fun fu => ?_) ml_fu (by rw [pl_fu]; omega)
    · rw [pl_es0] at hx
      simp (disch := omega) only [fX11_earliest, ↓pl_let, pl_b1, pl_b2, ↓reduceIte, k33, if_true, r25, r42, pl_in, nI_clamp, k56, show k < 20 by omega, and_self, u1, e7, e1, e2, pk_mul, nI_add, k46, show 7 * t + 1 < 140 by omega, show 7 * t + 2 < 140 by omega, u2, u3, pl_eq0, h0, if_false, e1000]
      exact hx
    · show fX11_earliest_49 (fu + 1) 33 (nI S) (nI k) (nI (a k)) (nI (b k)) (nI (pl_es n a b (pl_on x) (pl_tl n a b (pl_on x) (S + 1) S) S k j)) (nI j) m = fX11_earliest_49 fu 33 (nI S) (nI k) (nI (a k)) (nI (b k)) (nI (pl_es n a b (pl_on x) (pl_tl n a b (pl_on x) (S + 1) S) S k (j + 1))) (nI (j + 1)) m
      obtain ⟨t', ht20', v1, v2, v3, v4, v5, v6, v7⟩ := hkk j hj
      have hh := (pl_has (s := S) (t := j) (by omega) (by omega) m).2
      have h57j := h57 j hj
      have hyle := pl_yb_le (b := b) (on := pl_on x) ha99 S j
      by_cases hSj : S.testBit j = true
      · by_cases ho : pl_on x j k = true
        · have ho' : x j % 10 = x k / 10 := by unfold pl_on at ho; exact of_decide_eq_true ho
          rw [← h164 (fX11_earliest_49 fu) j (pl_yb n a b (pl_on x) S j) hj hyle (by unfold pl_yb; rw [ho]; simp)]
          simp (disch := omega) only [fX11_earliest_49, fX11_earliest_102, fX11_x, ↓pl_let, pl_b1, pl_b2, ↓reduceIte, k33, if_true, hn, nI_leI, show ¬ n ≤ j by omega, if_false, hh, hSj, e1, pl_eq0, Nat.reduceEqDiff, r42, r25, pl_in, nI_clamp, k56, show j < 20 by omega, show k < 20 by omega, and_self, v1, u1, e7, e5, e10, pk_mul, nI_add, k46, show 7 * t + 5 < 140 by omega, show 7 * t' + 5 < 140 by omega, u4, v4, pl_rem3, pk_div, nI_eq, ho', r43, k57, show 10 * S + j < 10240 by omega, h57j]
        · have ho' : ¬ x j % 10 = x k / 10 := fun z => ho (by unfold pl_on; exact decide_eq_true z)
          rw [← h164 (fX11_earliest_49 fu) j 1000 hj (Nat.le_refl _) (by rw [if_neg (fun z => ho z.2)])]
          simp (disch := omega) only [fX11_earliest_49, fX11_earliest_101, fX11_earliest_102, fX11_x, ↓pl_let, pl_b1, pl_b2, ↓reduceIte, k33, if_true, hn, nI_leI, show ¬ n ≤ j by omega, if_false, hh, hSj, e1, pl_eq0, Nat.reduceEqDiff, r42, r25, pl_in, nI_clamp, k56, show j < 20 by omega, show k < 20 by omega, and_self, v1, u1, e7, e5, e10, pk_mul, nI_add, k46, show 7 * t + 5 < 140 by omega, show 7 * t' + 5 < 140 by omega, u4, v4, pl_rem3, pk_div, nI_eq, ho', e1000]
      · have hS0 : S.testBit j = false := by simpa using hSj
        have hTj : ¬ (pl_tl n a b (pl_on x) (S + 1) S).testBit j = true := by
          rw [pl_tl_own n a b (pl_on x) (show S < S + 1 by omega), pl_set_tb]
          unfold pl_ce
          rw [hS0]; simp
        rw [← h164 (fX11_earliest_49 fu) j 1000 hj (Nat.le_refl _) (by rw [if_neg (fun z => hTj z.1)])]
        simp (disch := omega) only [fX11_earliest_49, fX11_earliest_101, fX11_earliest_102, ↓pl_let, pl_b1, pl_b2, ↓reduceIte, k33, if_true, hn, nI_leI, show ¬ n ≤ j by omega, if_false, hh, hS0, Bool.false_eq_true, e1000]
    · simp (disch := omega) only [fX11_earliest_49, k33, if_true, hn, nI_leI, Nat.le_refl]

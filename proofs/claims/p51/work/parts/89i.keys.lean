/-! ONE TURN, on: the law's keys, its comparison, the whole turn. -/
theorem pw_sN2 (A : pl_A) (g i k v w : Nat) : pl_sN (pl_sN A g i k v) g i k w = pl_sN A g i k w := by
  have e : (fun a b c => if a = g ∧ b = i ∧ c = k then w else (if a = g ∧ b = i ∧ c = k then v else A.1 a b c)) = fun a b c => if a = g ∧ b = i ∧ c = k then w else A.1 a b c := by
    funext a b c
    by_cases h : a = g ∧ b = i ∧ c = k
    · rw [if_pos h, if_pos h]
    · rw [if_neg h, if_neg h, if_neg h]
  show ((fun a b c => if a = g ∧ b = i ∧ c = k then w else (if a = g ∧ b = i ∧ c = k then v else A.1 a b c)), A.2.1, A.2.2) = _
  rw [e]; rfl
theorem pw_sN0 (A : pl_A) {g i k v : Nat} (h : pl_N A g i k = v) : pl_sN A g i k v = A := by
  have e : (fun a b c => if a = g ∧ b = i ∧ c = k then v else A.1 a b c) = A.1 := by
    funext a b c
    by_cases z : a = g ∧ b = i ∧ c = k
    · rw [if_pos z, ← h, z.1, z.2.1, z.2.2]; rfl
    · rw [if_neg z]
  show ((fun a b c => if a = g ∧ b = i ∧ c = k then v else A.1 a b c), A.2.1, A.2.2) = A
  rw [e]
theorem pw_os_mono {A : pl_A} {w w' i : Nat} (h : w ≤ w') : ∀ j, (pl_os (pl_sN A 0 7 0 w) i).testBit j = true → (pl_os (pl_sN A 0 7 0 w') i).testBit j = true := by
  intro j hj
  unfold pl_os at hj ⊢
  have n7 : ∀ w, pl_N (pl_sN A 0 7 0 w) 0 7 0 = w := fun w => by rw [pl_N_sN, if_pos ⟨rfl, rfl, rfl⟩]
  have n4 : ∀ w, pl_N (pl_sN A 0 7 0 w) 4 i 5 = pl_N A 4 i 5 := fun w => by rw [pl_N_sN, if_neg (by omega)]
  have n2 : ∀ w t, pl_N (pl_sN A 0 7 0 w) 2 t 0 = pl_N A 2 t 0 := fun w t => by rw [pl_N_sN, if_neg (by omega)]
  have n1 : ∀ w, pl_N (pl_sN A 0 7 0 w) 0 1 0 = pl_N A 0 1 0 := fun w => by rw [pl_N_sN, if_neg (by omega)]
  simp only [n7, n4, n2, n1] at hj ⊢
  rw [pl_set_tb] at hj ⊢
  simp only [Bool.and_eq_true, decide_eq_true_eq] at hj ⊢
  refine ⟨hj.1, ?_⟩
  have h2 := hj.2
  unfold pl_do at h2 ⊢
  simp only [Bool.and_eq_true, decide_eq_true_eq] at h2 ⊢
  exact ⟨h2.1, by omega⟩
/-- a key, worn more and more -/
theorem pw_keys {L : Nat} {xs : Nat → Int32} {A B : pl_A} {r : ml_M} (h : ph_2 1 33 A B r) {i : Nat} (hi : i < pl_N A 0 3 0) (h5 : pl_N A 4 i 0 = 5) (h7 : pl_N A 0 7 0 = 1) (K : Nat → Nat → Nat → Int32 → Int32 → Int32 → Int32 → ml_M → Option (Int32 × ml_M)) (l8 l9 l11 : Int32) :
    ∃ r1, fL_law_469 L xs K ml_fu 1 33 69 l8 l9 l11 (nI i) 0 0 r = K 1 33 69 l8 l9 l11 (nI (i + 1)) r1 ∧ ph_2 1 33 A B r1 ∧ ph_c 16 r r1 := by
  have n3 : ∀ w, pl_N (pl_sN A 0 7 0 w) 0 3 0 = pl_N A 0 3 0 := fun w => by rw [pl_N_sN, if_neg (by omega)]
  have n40 : ∀ w, pl_N (pl_sN A 0 7 0 w) 4 i 0 = 5 := fun w => by rw [pl_N_sN, if_neg (by omega)]; exact h5
  have n7 : ∀ w, pl_N (pl_sN A 0 7 0 w) 0 7 0 = w := fun w => by rw [pl_N_sN, if_pos ⟨rfl, rfl, rfl⟩]
  have := pw_for (F := fun fu w (s : Nat × ml_M) => fL_law_469 L xs K fu 1 33 69 l8 l9 l11 (nI i) (nI s.1) (nI w) s.2) (Inv := fun w s => (∃ C, ph_2 1 33 C B s.2 ∧ (∀ v, pl_sN C 0 7 0 v = pl_sN A 0 7 0 v) ∧ pl_N C 0 7 0 ≤ 4 ∧ (w = 5 → pl_N C 0 7 0 = 4)) ∧ (∀ j, s.1.testBit j = true → (pl_os (pl_sN A 0 7 0 w) i).testBit j = true) ∧ ph_c (3 * w) r s.2) (Post := fun R => ∃ r1, R = K 1 33 69 l8 l9 l11 (nI (i + 1)) r1 ∧ ph_2 1 33 A B r1 ∧ ph_c 16 r r1) 5 (fun fu w s hw hv => ?_) (fun fu s hv => ?_) ml_fu (by rw [pl_fu]; omega) (0, r) ⟨⟨A, h, fun _ => rfl, by omega, fun z => by omega⟩, fun j hj => by simp at hj, ph_c.refl _⟩
  · exact this
  · obtain ⟨⟨C, v1, v2, v3, -⟩, v4, v5⟩ := hv
    have hD := pd_wear C (w := w) (by omega)
    rw [v2] at hD
    obtain ⟨r1, e1, e2, e3⟩ := xo_wear hD v1 (by decide)
    have hO := pd_opens (pl_sN A 0 7 0 w) (i := i) (by rw [n3]; exact hi) (n40 w)
    obtain ⟨r2, f1, f2, f3⟩ := xo_opens hO e2 (by decide)
    obtain ⟨r3, g1, g2, g3⟩ := xo_opens hO f2 (by decide)
    refine ⟨(pl_os (pl_sN A 0 7 0 w) i, r3), ?_, ⟨_, g2, fun v => pw_sN2 A 0 7 0 w v, by rw [n7]; omega, fun z => by rw [n7]; omega⟩, ?_, (((v5.trans e3).trans f3).trans g3).le (by omega)⟩
    · show fL_law_469 L xs K (fu + 1) 1 33 69 l8 l9 l11 (nI i) (nI s.1) (nI w) s.2 = fL_law_469 L xs K fu 1 33 69 l8 l9 l11 (nI i) (nI (pl_os (pl_sN A 0 7 0 w) i)) (nI (w + 1)) r3
      have k1 := v1.k (by decide)
      have k2 := e2.k (by decide)
      have k3 := f2.k (by decide)
      rw [fL_law_469, if_neg (by rw [pl_l5, nI_leI (by omega) (by omega)]; omega), if_pos k1, e1, pl_b2, if_neg (by rw [pl_lt0 (by omega)]; exact id), if_pos k2, f1, pl_b2, if_pos (pw_sub0 v4), if_pos k3, g1, pl_b2, nI_1]
    · show ∀ j, (pl_os (pl_sN A 0 7 0 w) i).testBit j = true → (pl_os (pl_sN A 0 7 0 (w + 1)) i).testBit j = true
      exact pw_os_mono (Nat.le_succ w)
  · obtain ⟨⟨C, v1, v2, v3, v6⟩, v4, v5⟩ := hv
    have hD := pd_wear C (w := 1) (by decide)
    rw [v2, pw_sN0 A h7, v6 rfl] at hD
    obtain ⟨r1, e1, e2, e3⟩ := xo_wear hD v1 (by decide)
    refine ⟨r1, ?_, e2, (v5.trans e3).le (by omega)⟩
    show fL_law_469 L xs K (fu + 1) 1 33 69 l8 l9 l11 (nI i) (nI s.1) (nI 5) s.2 = _
    have k1 := v1.k (by decide)
    have e1' : fX10_wear 1 (1 : Int32) s.2 = some (nI 4, r1) := e1
    rw [fL_law_469, if_pos (by decide)]
    unfold fL_law_514
    rw [if_pos k1, e1', pl_b2, if_pos (show nI 4 = (4 : Int32) from rfl)]
    unfold fL_law_525
    rw [nI_1]
/-- who may have owned it is compared -/
theorem pw_comp {L : Nat} {xs : Nat → Int32} {nl S T i k : Nat} (hnl : 2 ≤ nl ∧ nl ≤ 5) (hS : S < 256) (hT : T < 256) (h : ∀ j, j < nl → T.testBit (nl - 1 - j) = S.testBit j) (K : Nat → Nat → Nat → Int32 → Int32 → Int32 → Int32 → ml_M → Option (Int32 × ml_M)) (l9 l11 : Int32) (r : ml_M) :
    fL_law_420 L xs K ml_fu 1 33 69 (nI nl) l9 l11 (nI i) (nI k) (nI S) (nI T) 0 r = fL_law_457 L xs K 1 33 69 (nI nl) l9 l11 (nI i) (nI k) r := by
  have hh := pl_for (F := fun fu j (_ : Unit) => fL_law_420 L xs K fu 1 33 69 (nI nl) l9 l11 (nI i) (nI k) (nI S) (nI T) (nI j) r) (R := fL_law_457 L xs K 1 33 69 (nI nl) l9 l11 (nI i) (nI k) r) nl (fun _ => ()) (fun fu j hj => ?_) (fun fu => ?_) ml_fu (by rw [pl_fu]; omega)
  · exact hh
  · show fL_law_420 L xs K (fu + 1) 1 33 69 (nI nl) l9 l11 (nI i) (nI k) (nI S) (nI T) (nI j) r = fL_law_420 L xs K fu 1 33 69 (nI nl) l9 l11 (nI i) (nI k) (nI S) (nI T) (nI (j + 1)) r
    have e1 : nI nl - (1 : Int32) - nI j = nI (nl - 1 - j) := by rw [pl_l1, pl_sub (by omega), pl_sub (by omega)]
    rw [fL_law_420, if_neg (by rw [nI_leI (by omega) (by omega)]; omega), e1, pw_bit1 (by omega) (by omega), pw_bit1 (by omega) (by omega), h j hj, if_pos rfl, nI_1]
  · rw [fL_law_420, if_pos (nI_le (Nat.le_refl _) (by omega))]
/-- one turn -/
theorem pw_turn {L : Nat} (hL : L ≤ 1000) {xs : Nat → Int32} {A B : pl_A} {r : ml_M} (h : ph_2 1 33 A B r) {nl nt np i n : Nat} (hR : pm_R A B nl nt np i) (hK : ml_K r 69 = (20, 64)) (hi : i < n) (hn : n ≤ 7) (hnl : 2 ≤ nl ∧ nl ≤ 5) (hnt : 2 ≤ nt ∧ nt ≤ 4) (h8 : ∀ q, pl_N A 8 q 0 = 0) (fu : Nat) :
    ∃ A1 B1 r1, fL_law_202 L xs (fu + 1) 1 33 69 (nI nl) (nI nt) (nI n) (nI i) r = fL_law_202 L xs fu 1 33 69 (nI nl) (nI nt) (nI n) (nI (i + 1)) r1 ∧ ph_2 1 33 A1 B1 r1 ∧ pm_R A1 B1 nl nt np (i + 1) ∧ (∀ q, pl_N A1 8 q 0 = 0) ∧ ph_d 20 r r1 := by
  have c3 := pw_c_lt L xs (show 80 + 4 * i + 3 ≤ 1000 by omega)
  obtain ⟨k, hk⟩ : ∃ k, k = 1 + pw_c L xs (80 + 4 * i) % 5 := ⟨_, rfl⟩
  obtain ⟨a, ha⟩ : ∃ a, a = pw_c L xs (80 + 4 * i + 1) % 40 := ⟨_, rfl⟩
  obtain ⟨b, hb⟩ : ∃ b, b = a + pw_c L xs (80 + 4 * i + 2) % 15 := ⟨_, rfl⟩
  obtain ⟨x, hx⟩ : ∃ x, x = pw_c L xs (80 + 4 * i + 3) := ⟨_, rfl⟩
  have hcell := pw_cellT hL xs (nt := nt) (show i < 8 by omega) hnl r
  rw [← hk, ← ha, ← hb, ← hx] at hcell
  rw [← hx] at c3
  have hk5 : 1 ≤ k ∧ k ≤ 5 := by omega
  have htok := pw_tokN (x := x) hk5 hnl
  obtain ⟨r1, e1, e2, e3, e4⟩ := pw_told (L := L) (xs := xs) h hR hK (show i < 8 by omega) hnl hnt hk5 (show a ≤ b by omega) (show b ≤ 99 by omega) c3
  rw [← hcell] at e1
  obtain ⟨one, hone⟩ : ∃ one, one = pw_one k x := ⟨_, rfl⟩
  obtain ⟨oth, hoth⟩ : ∃ oth, oth = pw_oth nl k x := ⟨_, rfl⟩
  obtain ⟨tr, htr⟩ : ∃ tr, tr = pw_tr nt x := ⟨_, rfl⟩
  obtain ⟨wt, hwt⟩ : ∃ wt, wt = pw_wt x := ⟨_, rfl⟩
  rw [← hone, ← hoth] at htok
  rw [← hone, ← hoth, ← htr, ← hwt] at e2 e3
  have hwt1 : wt ≤ 1 := by rw [hwt]; unfold pw_wt; split <;> omega
  have htr1 : tr = 100 ∨ tr < nt := by
    rw [htr]; unfold pw_tr
    split
    · exact Or.inl rfl
    · exact Or.inr (Nat.mod_lt _ (by omega))
  have e4' := e4
  obtain ⟨k69, -, -⟩ := e4
  rw [hK] at k69
  obtain ⟨q0, q1, q2, q3, q4, q5, q6⟩ := e3
  -- the second object
  obtain ⟨oth', hoth'⟩ : ∃ o, o = if k = 3 then nl - 1 - oth else oth := ⟨_, rfl⟩
  have htok' := pw_tokR hnl.2 htok
  rw [← hoth'] at htok'
  have hval : pw_val k one oth' = pw_val k one oth := by
    unfold pw_val
    by_cases h3 : k = 3
    · rw [if_neg (by omega), if_neg (by omega)]
    · rw [hoth', if_neg h3]
  have hnB : pl_N B 0 3 0 = i := hR.1.2.2.2.1.2
  have hDT := pw_doT B htok' (by omega) hR.1.1.2 (show a ≤ b by omega) (show b ≤ 99 by omega)
  rw [hnB, hval] at hDT
  obtain ⟨r2, f1, f2, f3⟩ := xo_thing hDT e2.swap (by decide)
  have hm2 : ∀ a' b' c', pl_N (pl_sR B 4 i (pl_7 k a b (pw_val k one oth) (pw_nam k oth')) 3 (i + 1)) a' b' c' = if a' = 4 ∧ b' = i then pl_7 k a b (pw_val k one oth) (pw_nam k oth') c' else if a' = 0 ∧ b' = 3 ∧ c' = 0 then i + 1 else pl_N B a' b' c' := fun a' b' c' => by
    have h : pl_N (pl_sR B 4 i (pl_7 k a b (pw_val k one oth) (pw_nam k oth')) 3 (i + 1)) a' b' c' = if a' = 4 ∧ b' = i then pl_7 k a b (pw_val k one oth) (pw_nam k oth') c' else if a' = 0 ∧ b' = 3 ∧ c' = 0 then i + 1 else pl_N B a' b' c' := rfl
    exact h
  have hLD := pd_lies (pl_sR B 4 i (pl_7 k a b (pw_val k one oth) (pw_nam k oth')) 3 (i + 1)) (i := i) (c := tr) (w := wt) (by rw [hm2, if_neg (by omega), if_pos ⟨rfl, rfl, rfl⟩]; omega) (by rw [hm2, if_neg (by omega), if_neg (by omega), hR.1.2.1.2]; exact htr1) hwt1
  obtain ⟨r3, g1, g2, g3⟩ := xo_lies hLD f2 (by decide)
  have hB1 : pw_A1 B k a b (pw_val k one oth) (if k = 3 then nl - 1 - pw_nam k oth else pw_nam k oth) tr wt = pl_iA (pl_sR B 4 i (pl_7 k a b (pw_val k one oth) (pw_nam k oth')) 3 (i + 1)) i tr wt := by
    have : (if k = 3 then nl - 1 - pw_nam k oth else pw_nam k oth) = pw_nam k oth' := by
      unfold pw_nam
      rw [hoth']
      by_cases h3 : k = 3
      · simp [h3]
      · simp [h3]
    rw [this]; unfold pw_A1; rw [hnB]
  have hRR := pm_thing hR (k := k) (a := a) (b := b) (v := pw_val k one oth) (y := pw_nam k oth) (tr := tr) (wt := wt) (fun h3 => by unfold pw_nam; rw [if_pos h3]; exact (htok.2.2.2.1 h3).2.2.2.1)
  rw [hB1] at hRR
  rw [← hB1] at g2
  have g2 := g2.swap
  obtain ⟨A1, hA1⟩ : ∃ A1, A1 = pw_A1 A k a b (pw_val k one oth) (pw_nam k oth) tr wt := ⟨_, rfl⟩
  rw [hB1] at g2
  obtain ⟨B1, hB1'⟩ : ∃ B1, B1 = pl_iA (pl_sR B 4 i (pl_7 k a b (pw_val k one oth) (pw_nam k oth')) 3 (i + 1)) i tr wt := ⟨_, rfl⟩
  rw [← hA1, ← hB1'] at g2 hRR
  -- who may have owned it
  have i1 : i < pl_N A1 0 3 0 := by rw [hRR.1.2.2.2.1.1]; omega
  have i2 : i < pl_N B1 0 3 0 := by rw [hRR.1.2.2.2.1.2]; omega
  have hkA : pl_N A1 4 i 0 = k := by
    rw [hA1, pw_A1_n, if_pos ⟨rfl, hR.1.2.2.2.1.1.symm⟩]; rfl
  have m1 := xp_may (pd_may A1 i1) g2 (by decide)
  have m2 := xp_may (pd_may B1 i2) g2.swap (by decide)
  have b1 : pl_own A1 i < 256 := pl_own_lt g2.w i
  have b2 : pl_own B1 i < 256 := pl_own_lt g2.swap.w i
  have hcomp := fun K l9 l11 => pw_comp (L := L) (xs := xs) (i := i) (k := k) hnl b1 b2 (fun j hj => pm_own hRR hj (Nat.lt_succ_self i) (by rw [hkA]; exact hk5.2)) K l9 l11 r3
  have hA8 : ∀ q, pl_N A1 8 q 0 = 0 := fun q => by rw [hA1, pw_A1_n, if_neg (by omega), if_neg (by omega)]; exact h8 q
  -- the way to the comparison
  have kk1 : (ml_K r1 33).1 = 10 := e2.swap.k (by decide)
  have kk2 : (ml_K r2 33).1 = 10 := f2.k (by decide)
  have kk3 : (ml_K r3 1).1 = 10 := g2.k (by decide)
  have kk4 : (ml_K r3 33).1 = 10 := g2.swap.k (by decide)
  have in1 : ∀ j, j < 8 → ml_in r1 69 20 (nI (8 * i + j)) := fun j hj => by rw [pl_in (by omega), k69]; exact ⟨rfl, by omega⟩
  have k69' : ml_K r2 69 = (20, 64) := by rw [(f3.1 69 (by decide) (by decide)).1]; exact k69
  have in2 : ∀ j, j < 8 → ml_in r2 69 20 (nI (8 * i + j)) := fun j hj => by rw [pl_in (by omega), k69']; exact ⟨rfl, by omega⟩
  have i69 : ml_I r2 69 = ml_I r1 69 := (f3.1 69 (by decide) (by decide)).2
  have e8 : ∀ j, (8 : Int32) * nI i + nI j = nI (8 * i + j) := fun j => by rw [pl_l8, pk_mul, nI_add]
  have s392 : ∀ (K : Nat → Nat → Nat → Int32 → Int32 → Int32 → Int32 → ml_M → Option (Int32 × ml_M)), fL_law_392 L xs K 1 33 69 (nI nl) (nI nt) (nI n) (nI i) (nI k) (nI wt) (pl_tc tr) (nI i) 33 r2 = fL_law_457 L xs K 1 33 69 (nI nl) (nI nt) (nI n) (nI i) (nI k) r3 := fun K => by
    unfold fL_law_392
    rw [if_pos kk2, g1, pl_b2, if_pos rfl, if_pos kk3, m1, pl_b1, if_pos kk4, m2, pl_b1, hcomp]
  have s351 : ∀ (K : Nat → Nat → Nat → Int32 → Int32 → Int32 → Int32 → ml_M → Option (Int32 × ml_M)), fL_law_351 L xs K 1 33 69 (nI nl) (nI nt) (nI n) (nI i) (nI k) (nI oth') (nI one) (nI b) (nI a) (nI k) 33 r1 = fL_law_457 L xs K 1 33 69 (nI nl) (nI nt) (nI n) (nI i) (nI k) r3 := fun K => by
    unfold fL_law_351
    rw [if_pos kk1, f1, pl_b2, if_pos rfl, pl_l5, pl_l6, e8, e8, if_pos (in2 5 (by decide)), if_pos (in2 6 (by decide)), nI_clamp (by omega), nI_clamp (by omega), i69, q5, q6]
    by_cases w1 : wt = 1
    · rw [if_pos (by rw [w1]; rfl), ← s392, w1]; rfl
    · have w0 : wt = 0 := by omega
      rw [if_neg (by rw [w0]; decide), ← s392, w0]; rfl
  have vten : (k = 2 ∨ k = 4) → pw_val k one oth / 10 = one ∧ pw_val k one oth % 10 = oth := fun h => by
    have : oth ≤ 9 := by
      rcases h with h | h
      · exact (htok.2.2.1 h).2.2
      · exact (htok.2.2.2.2.1 h).2.2.2.1
    unfold pw_val; rw [if_pos h]; omega
  have hvb : pw_val k one oth < 2 ^ 30 := by
    obtain ⟨-, h1, h2, h3, h4, h5⟩ := htok
    unfold pw_val
    have : k = 1 ∨ k = 2 ∨ k = 3 ∨ k = 4 ∨ k = 5 := by omega
    rcases this with e | e | e | e | e
    · have := h1 e; rw [if_neg (by omega)]; omega
    · have := h2 e; rw [if_pos (by omega)]; omega
    · have := h3 e; rw [if_neg (by omega)]; omega
    · have := h4 e; rw [if_pos (by omega)]; omega
    · have := h5 e; rw [if_neg (by omega)]; omega
  have s273 : ∀ (K : Nat → Nat → Nat → Int32 → Int32 → Int32 → Int32 → ml_M → Option (Int32 × ml_M)), fL_law_273 L xs K 1 33 69 (nI nl) (nI nt) (nI n) (nI i) (nI k) (nI (pw_val k one oth)) (if k = 2 ∨ k = 4 then 1 else 0) r1 = fL_law_457 L xs K 1 33 69 (nI nl) (nI nt) (nI n) (nI i) (nI k) r3 := fun K => by
    rw [← s351]
    unfold fL_law_273
    rw [pl_l1, pl_l2, e8, e8, if_pos (in1 1 (by decide)), if_pos (in1 2 (by decide)), nI_clamp (by omega), nI_clamp (by omega), q1, q2]
    by_cases h3 : k = 3
    · have e3' : nI k = (3 : Int32) := by rw [h3]; rfl
      have ev : pw_val k one oth = one := by unfold pw_val; rw [if_neg (by omega)]
      have eo : nI nl - (1 : Int32) - nI oth = nI oth' := by
        have := (htok.2.2.2.1 h3).2.2.2.1
        rw [pl_l1, pl_sub (by omega), pl_sub (by omega), hoth', if_pos h3]
      have q4' : ml_I r1 69 (8 * i + 4) = nI oth := by rw [q4]; unfold pw_nam; rw [if_pos h3]
      rw [if_neg (show ¬ (k = 2 ∨ k = 4) by omega), if_pos rfl]
      unfold fL_law_313
      rw [if_pos e3', pl_l4, e8, if_pos (in1 4 (by decide)), nI_clamp (by omega), q4', ev, ← eo]
    · have e3' : ¬ nI k = (3 : Int32) := by rw [pl_l3, nI_eq (by omega) (by decide)]; exact h3
      by_cases h24 : k = 2 ∨ k = 4
      · obtain ⟨v1, v2⟩ := vten h24
        have eo : oth' = oth := by rw [hoth', if_neg h3]
        have d1 : nI (pw_val k one oth) / (10 : Int32) = nI one := by rw [pl_l10, pk_div (by omega) (by decide) (by decide), v1]
        have d2 : nI (pw_val k one oth) - nI (pw_val k one oth) / (10 : Int32) * (10 : Int32) = nI oth := by rw [pl_l10, pk_rem (by omega) (by decide) (by decide), v2]
        have h10 : ¬ nI 1 = (0 : Int32) := by decide
        rw [if_pos h24, if_neg h10, d1]
        unfold fL_law_313
        rw [if_neg e3', if_neg h10, d2, eo]
      · have ev : pw_val k one oth = one := by unfold pw_val; rw [if_neg h24]
        have eo : oth' = 0 := by
          rw [hoth', if_neg h3, hoth]; unfold pw_oth
          rw [if_neg (by omega), if_neg h3, if_neg (by omega)]
        rw [if_neg h24, if_pos rfl]
        unfold fL_law_313
        rw [if_neg e3', if_pos rfl, ev, eo]; rfl
  have s202 : fL_law_202 L xs (fu + 1) 1 33 69 (nI nl) (nI nt) (nI n) (nI i) r = fL_law_457 L xs (fL_law_202 L xs fu) 1 33 69 (nI nl) (nI nt) (nI n) (nI i) (nI k) r3 := by
    have e80 : (80 : Int32) + (4 : Int32) * nI i = nI (80 + 4 * i) := by
      have : (80 : Int32) = nI 80 := rfl
      rw [this, pl_l4, pk_mul, nI_add]
    have e80' : (8 : Int32) * nI i = nI (8 * i) := by rw [pl_l8, pk_mul]
    rw [← s273, fL_law_202, if_neg (by rw [nI_leI (by omega) (by omega)]; omega), e80, e1, pl_b2, if_neg (by decide), e80', if_pos (by rw [← Nat.add_zero (8 * i)]; exact in1 0 (by decide)), pl_let, nI_clamp (by omega), q0, pl_l3, nI_add, if_pos (in1 3 (by decide)), pl_let, nI_clamp (by omega), q3]
    by_cases h2 : k = 2
    · rw [if_pos (by rw [h2]; rfl), if_pos (Or.inl h2)]; rfl
    · rw [if_neg (by rw [pl_l2, nI_eq (by omega) (by decide)]; exact h2)]
      by_cases h4 : k = 4
      · rw [if_pos (by rw [h4]; rfl), if_pos (Or.inr h4)]; rfl
      · rw [if_neg (by rw [pl_l4, nI_eq (by omega) (by decide)]; exact h4), if_neg (by omega)]
  rw [s202]
  have hd : ph_d 4 r r3 := (e4'.trans (f3.trans g3).d)
  unfold fL_law_457
  by_cases h5 : k = 5
  · obtain ⟨r4, u1, u2, u3⟩ := pw_keys (L := L) (xs := xs) g2 i1 (by rw [hkA]; exact h5) hRR.1.2.2.2.2.1.1 (fL_law_202 L xs fu) (nI nl) (nI nt) (nI n)
    refine ⟨A1, B1, r4, ?_, u2, hRR, hA8, (hd.trans u3.d).le (by decide)⟩
    rw [if_pos (by rw [h5]; rfl), u1]
  · refine ⟨A1, B1, r3, ?_, g2, hRR, hA8, hd.le (by decide)⟩
    rw [if_neg (by rw [pl_l5, nI_eq (by omega) (by decide)]; exact h5)]
    unfold fL_law_525
    rw [nI_1]

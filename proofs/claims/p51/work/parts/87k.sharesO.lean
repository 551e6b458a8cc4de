/-! SHARINGS: the pairs whose, sure, next. -/
def pl_cw (A : pl_A) (n t l : Nat) : Nat := ((pl_of A n).filter fun w => w.getD t 0 == l).length
theorem pl_cw_le {A : pl_A} (hW : pl_W A) (n t l : Nat) : pl_cw A n t l ≤ 200001 := Nat.le_trans (List.length_filter_le _ _) (pl_of_len hW n)
theorem pl_pairC {A : pl_A} {m : ml_M} (h : pl_Rel A m) (h0 : ml_I m 12 0 = 0) {n t l : Nat} (hn : n ≤ 20) (ht : t < pl_N A 0 1 0) (hl : l < pl_N A 0 0 0) : fX7_withPair 12 (nI n) (nI t) (nI l) m = some (nI (pl_cw A n t l)) := by
  have hS := h.1
  have hww := h.2.1.1
  unfold pl_Wc at hww
  have h15 := ((pl_CsR h h0).2.2.2.2.2.1 n hn).2 t l ht hl
  have e8 : (8 : Int32) = nI 8 := rfl
  have e64 : (64 : Int32) = nI 64 := rfl
  have hidx : nI n * (64 : Int32) + nI t * (8 : Int32) + nI l = nI (n * 64 + t * 8 + l) := by rw [e8, e64, pk_mul, pk_mul, nI_add, nI_add]
  simp (disch := omega) only [fX7_withPair, pl_k12 hS, if_true, ↓pl_let, pl_b1, pl_b2, ↓reduceIte, pl_r12_4 hS, hidx, pl_in, nI_clamp, pl_k15 hS, show n * 64 + t * 8 + l < 1344 by omega, and_self, h15]
  rfl
theorem pl_oftM {A : pl_A} (hW : pl_W A) (M : ml_M) (n : Nat) (o : Nat → Int32) {t l : Nat} (ht : t < pl_N A 0 1 0) (hl : l < pl_N A 0 0 0) : ml_I (pl_lq A M (pl_of A n) 1 o) 50 (8 * t + l) = nI (pl_cw A n t l) := by
  have hww := hW.1
  unfold pl_Wc at hww
  unfold pl_lq
  rw [pl_sq_50]
  unfold pl_g50 pl_lo2
  rw [if_pos (by omega)]
  congr 1
  unfold pl_c5 pl_cw
  refine pl_len_eq _ fun w _ => ?_
  unfold pl_aq
  rw [show (8 * t + l) % 64 / 8 = t by omega, show (8 * t + l) % 8 = l by omega, decide_eq_true ht, Bool.true_and]
  rfl
theorem pl_op_whose (x0 x1 : Int32) : pl_Ok (fX10_whose 1 x0 x1) (fX11_whose 33 x0 x1) := by
  intro A m h
  have hS := h.1
  have hW := h.2.1
  have hM := h.2.2.1
  have hC := h.2.2.2
  have hww := hW.1
  unfold pl_Wc at hww
  have e20 : (20 : Int32) = nI 20 := rfl
  have itC := fun v => pl_isTrk hS hW hC v
  have itM := fun v => pl_isTrkM hS hW hM v
  rcases pl_rng1 x0 (pl_N A 0 1 0) (by omega) with hno | ⟨t, ht, rfl⟩
  · refine pl_Ok.same h (-1) ?_ ?_
    · simp only [fX10_whose, ↓pl_let, pl_b1, pl_b2, ↓reduceIte, pl_k1 hS, if_true, itC, hno, if_false]
    · simp only [fX11_whose, ↓pl_let, pl_b1, pl_b2, ↓reduceIte, pl_k33 hS, if_true, itM, hno, if_false]
  have hyt : 0 ≤ nI t ∧ nI t < nI (pl_N A 0 1 0) := ⟨nI_pos' (by omega), nI_lt ht (by omega)⟩
  rcases pl_rng0 (x := x1) 20 (by decide) with hno | ⟨n, hn, rfl⟩
  · refine pl_Ok.same h (-1) ?_ ?_
    · simp only [fX10_whose, ↓pl_let, pl_b1, pl_b2, ↓reduceIte, pl_k1 hS, if_true, itC, hyt, and_self, pl_10, e20, pl_within, hno, if_false]
    · simp only [fX11_whose, fX11_isMost, ↓pl_let, pl_b1, pl_b2, ↓reduceIte, pl_k33 hS, if_true, itM, hyt, and_self, pl_10, e20, pl_inM, hno, if_false, true_or]
  · have hyes : 0 ≤ nI n ∧ nI n ≤ nI 20 := ⟨nI_pos' (by omega), nI_le hn (by decide)⟩
    obtain ⟨m1, c1, c2, c3, c4, c5⟩ := pl_refrS h
    have hS1 := c2.1
    have hCh := c2.2.2.2.2.2.2.1
    have z1 := hCh.1.2.2
    have z2 := hCh.2.2.2.1
    have e1 : (1 : Int32) = nI 1 := rfl
    have hloop := pl_for (F := fun fu l (_ : Unit) => fX10_whose_29 fu 1 (nI t) (nI n) (nI (pl_set (fun l => decide (0 < pl_cw A n t l)) l)) (nI l) m1) (R := some (nI (pl_set (fun l => decide (0 < pl_cw A n t l)) (pl_N A 0 0 0)), m1)) (pl_N A 0 0 0) (fun _ => ()) (fun fu l hl => ?_) (fun fu => ?_) ml_fu (by rw [pl_fu]; omega)
    · have hC1 : fX10_whose 1 (nI t) (nI n) m = some (nI (pl_set (fun l => decide (0 < pl_cw A n t l)) (pl_N A 0 0 0)), m1) := by
        have hl' : fX10_whose_29 ml_fu 1 (nI t) (nI n) 0 0 m1 = some (nI (pl_set (fun l => decide (0 < pl_cw A n t l)) (pl_N A 0 0 0)), m1) := hloop
        rw [← hl']
        simp (disch := omega) only [fX10_whose, ↓pl_let, pl_b1, pl_b2, ↓reduceIte, pl_k1 hS, if_true, itC, hyt, and_self, pl_10, if_false, e20, pl_within, hyes, c1]
      refine pl_Ok.mk c2.md hC1 (by omega) (by omega) hW fun M hSM hMM => ?_
      obtain ⟨o, ho⟩ := pl_layOft hSM hW hMM hn
      obtain ⟨Q, hQ⟩ : ∃ Q, Q = pl_lq A M (pl_of A n) 1 o := ⟨_, rfl⟩
      have hMQ : pl_M A Q := by rw [hQ]; exact (pl_lq_kp A M (pl_of A n) 1 o).M hMM
      have hmoQ : pl_mo M Q := by rw [hQ]; exact pl_lq_mo A M (pl_of A n) 1 o
      have hSQ := hmoQ.sh hSM
      have h50 : ∀ l, l < pl_N A 0 0 0 → ml_I Q 50 (8 * t + l) = nI (pl_cw A n t l) := fun l hl => by rw [hQ]; exact pl_oftM hW M n o ht hl
      rw [← hQ] at ho
      refine ⟨Q, ?_, hmoQ, hMQ⟩
      have h9 := hMQ.1.1
      have e8 : (8 : Int32) = nI 8 := rfl
      have itM' := pl_isTrkM hSM hW hMM (nI t)
      have hloop2 := pl_for (F := fun fu l (_ : Unit) => fX11_whose_27 fu 33 (nI t) (nI (pl_set (fun l => decide (0 < pl_cw A n t l)) l)) (nI l) Q) (R := some (nI (pl_set (fun l => decide (0 < pl_cw A n t l)) (pl_N A 0 0 0)), Q)) (pl_N A 0 0 0) (fun _ => ()) (fun fu l hl => ?_) (fun fu => ?_) ml_fu (by rw [pl_fu]; omega)
      · have hl' : fX11_whose_27 ml_fu 33 (nI t) 0 0 Q = some (nI (pl_set (fun l => decide (0 < pl_cw A n t l)) (pl_N A 0 0 0)), Q) := hloop2
        rw [← hl']
        simp (disch := omega) only [fX11_whose, fX11_isMost, ↓pl_let, pl_b1, pl_b2, ↓reduceIte, pl_k33 hSM, if_true, itM', hyt, and_self, pl_10, if_false, e20, pl_inM, hyes, or_true, ho]
      · show fX11_whose_27 (fu + 1) 33 (nI t) (nI (pl_set (fun l => decide (0 < pl_cw A n t l)) l)) (nI l) Q = fX11_whose_27 fu 33 (nI t) (nI (pl_set (fun l => decide (0 < pl_cw A n t l)) (l + 1))) (nI (l + 1)) Q
        have hv := h50 l hl
        have hb := pl_cw_le hW n t l
        have hidx : (8 : Int32) * nI t + nI l = nI (8 * t + l) := by rw [e8, pk_mul, nI_add]
        have hor : ∀ s, nI s ||| (1 : Int32) <<< (nI l &&& 31) = nI (s ||| 2 ^ l) := fun s => by rw [pl_shl1 (by omega), pl_or]
        rw [pl_set1]
        by_cases c : pl_cw A n t l = 0
        · rw [if_neg (by simp [c])]
          simp (disch := omega) only [fX11_whose_27, fX11_whose_60, ↓pl_let, pl_b1, pl_b2, ↓reduceIte, pl_k33 hSQ, if_true, h9, nI_leI, show ¬ pl_N A 0 0 0 ≤ l by omega, if_false, pl_r33_31 hSQ, hidx, pl_in, nI_clamp, pl_k50 hSQ, show 8 * t + l < 64 by omega, and_self, hv, pl_leZ, eq_true c, pl_or0, nI_1]
        · rw [if_pos (by simp; omega)]
          simp (disch := omega) only [fX11_whose_27, fX11_whose_60, ↓pl_let, pl_b1, pl_b2, ↓reduceIte, pl_k33 hSQ, if_true, h9, nI_leI, show ¬ pl_N A 0 0 0 ≤ l by omega, if_false, pl_r33_31 hSQ, hidx, pl_in, nI_clamp, pl_k50 hSQ, show 8 * t + l < 64 by omega, and_self, hv, pl_leZ, c, hor, nI_1]
      · simp (disch := omega) only [fX11_whose_27, pl_k33 hSQ, if_true, h9, nI_leI, Nat.le_refl]
    · show fX10_whose_29 (fu + 1) 1 (nI t) (nI n) (nI (pl_set (fun l => decide (0 < pl_cw A n t l)) l)) (nI l) m1 = fX10_whose_29 fu 1 (nI t) (nI n) (nI (pl_set (fun l => decide (0 < pl_cw A n t l)) (l + 1))) (nI (l + 1)) m1
      have hp := pl_pairC c2 c5 hn ht hl
      have hb := pl_cw_le hW n t l
      have hor : ∀ s, nI s ||| (1 : Int32) <<< (nI l &&& 31) = nI (s ||| 2 ^ l) := fun s => by rw [pl_shl1 (by omega), pl_or]
      rw [pl_set1]
      by_cases c : pl_cw A n t l = 0
      · rw [if_neg (by simp [c])]
        simp (disch := omega) only [fX10_whose_29, fX10_whose_62, ↓pl_let, pl_b1, pl_b2, ↓reduceIte, pl_k1 hS1, if_true, z1, z2, nI_leI, show ¬ pl_N A 0 0 0 ≤ l by omega, if_false, pl_r1_12 hS1, pl_k12 hS1, hp, pl_leZ, eq_true c, nI_1]
      · rw [if_pos (by simp; omega)]
        simp (disch := omega) only [fX10_whose_29, fX10_whose_62, ↓pl_let, pl_b1, pl_b2, ↓reduceIte, pl_k1 hS1, if_true, z1, z2, nI_leI, show ¬ pl_N A 0 0 0 ≤ l by omega, if_false, pl_r1_12 hS1, pl_k12 hS1, hp, pl_leZ, c, hor, nI_1]
    · simp (disch := omega) only [fX10_whose_29, ↓pl_let, pl_b1, pl_b2, ↓reduceIte, pl_k1 hS1, if_true, z1, z2, nI_leI, Nat.le_refl]
/-- unlike lodgers -/
def pl_nd (w : List Nat) : Prop := ∀ i j, i < j → j < w.length → w.getD i 0 ≠ w.getD j 0
theorem pl_gv_nd (nl : Nat) : ∀ r w x, pl_nd w → x ∈ pl_gv nl r w → pl_nd x := by
  intro r
  induction r with
  | zero =>
    intro w x hw hx
    have : x = w := by
      have h : x ∈ [w] := hx
      simpa using h
    rw [this]; exact hw
  | succ r ih =>
    intro w x hw hx
    rw [pl_gv1, List.mem_flatMap] at hx
    obtain ⟨l, hl, hx⟩ := hx
    by_cases hm : l ∈ w
    · rw [if_pos hm] at hx; simp at hx
    · rw [if_neg hm] at hx
      refine ih _ _ (fun i j hij hj => ?_) hx
      rw [List.length_append, List.length_singleton] at hj
      by_cases hje : j = w.length
      · rw [hje, pl_getD_len, pl_getD_app _ _ (by omega)]
        intro z
        apply hm
        rw [← z, List.getD_eq_getElem?_getD, List.getElem?_eq_getElem (by omega)]
        exact List.getElem_mem (by omega)
      · rw [pl_getD_app _ _ (by omega), pl_getD_app _ _ (by omega)]
        exact hw i j hij (by omega)
theorem pl_cnt_one {p : Nat → Bool} {n : Nat} (h : ∀ i j, i < j → j < n → ¬ (p i = true ∧ p j = true)) : pl_cnt p n = if pl_any p n = true then 1 else 0 := by
  induction n with
  | zero => rfl
  | succ n ih =>
    rw [pl_cnt1, pl_any1, ih fun i j hij hj => h i j hij (by omega)]
    by_cases hp : p n = true
    · rw [if_pos hp, hp, Bool.or_true, if_pos rfl, if_neg]
      intro hc
      obtain ⟨i, hi, hpi⟩ := (pl_any_iff _ _).mp hc
      exact h i n hi (by omega) ⟨hpi, hp⟩
    · have hp0 : p n = false := by simpa using hp
      rw [if_neg hp, hp0, Bool.or_false]
theorem pl_any_mem (w : List Nat) (l : Nat) : pl_any (fun t => decide (w.getD t 0 = l)) w.length = decide (l ∈ w) := by
  by_cases hm : l ∈ w
  · rw [decide_eq_true hm, pl_any_iff]
    obtain ⟨i, hi, he⟩ := List.getElem_of_mem hm
    refine ⟨i, hi, decide_eq_true ?_⟩
    rw [List.getD_eq_getElem?_getD, List.getElem?_eq_getElem hi, he]; rfl
  · rw [decide_eq_false hm]
    cases hc : pl_any (fun t => decide (w.getD t 0 = l)) w.length with
    | false => rfl
    | true =>
      exfalso
      obtain ⟨i, hi, hd⟩ := (pl_any_iff _ _).mp hc
      apply hm
      rw [← of_decide_eq_true hd, List.getD_eq_getElem?_getD, List.getElem?_eq_getElem hi]
      exact List.getElem_mem hi
theorem pl_sum_add (f g : Nat → Nat) (n : Nat) : pl_sum (fun t => f t + g t) n = pl_sum f n + pl_sum g n := by
  induction n with
  | zero => rfl
  | succ n ih => rw [pl_sum1, pl_sum1, pl_sum1, ih]; omega
theorem pl_sum_cnt (p : Nat → Bool) (n : Nat) : pl_sum (fun t => if p t = true then 1 else 0) n = pl_cnt p n := by
  induction n with
  | zero => rfl
  | succ n ih =>
    rw [pl_sum1, pl_cnt1, ih]
    split <;> rfl
theorem pl_with {nt : Nat} (l : Nat) (W : List (List Nat)) (h : ∀ w ∈ W, pl_nd w ∧ w.length = nt) : pl_sum (fun t => (W.filter fun w => w.getD t 0 == l).length) nt = (W.filter fun w => decide (l ∈ w)).length := by
  induction W with
  | nil =>
    show pl_sum (fun t => 0) nt = 0
    induction nt with
    | zero => rfl
    | succ n ih => rw [pl_sum1, ih (fun w hw => by simp at hw)]
  | cons w W ih =>
    have ih := ih fun x hx => h x (List.mem_cons_of_mem _ hx)
    obtain ⟨h1, h2⟩ := h w List.mem_cons_self
    have e : ∀ t, ((w :: W).filter fun w => w.getD t 0 == l).length = (if decide (w.getD t 0 = l) = true then 1 else 0) + (W.filter fun w => w.getD t 0 == l).length := fun t => by
      rw [List.filter_cons]
      by_cases c : w.getD t 0 = l
      · rw [if_pos (by simpa using c), if_pos (decide_eq_true c), List.length_cons]; omega
      · rw [if_neg (by simpa using c), if_neg (by simpa using c)]; omega
    rw [pl_sum_eq fun t _ => e t, pl_sum_add, ih, pl_sum_cnt, List.filter_cons]
    have hc : pl_cnt (fun t => decide (w.getD t 0 = l)) nt = if decide (l ∈ w) = true then 1 else 0 := by
      rw [pl_cnt_one (fun i j hij hj z => h1 i j hij (by omega) ((of_decide_eq_true z.1).trans (of_decide_eq_true z.2).symm)), ← h2, pl_any_mem]
    rw [hc]
    by_cases hm : decide (l ∈ w) = true
    · rw [if_pos hm, if_pos hm, List.length_cons]; omega
    · rw [if_neg hm, if_neg hm]; omega
theorem pl_of_w {A : pl_A} {n : Nat} : ∀ w ∈ pl_of A n, pl_nd w ∧ w.length = pl_N A 0 1 0 ∧ ∀ x ∈ w, x < pl_N A 0 0 0 := by
  intro w hw
  rw [← pl_of_sf] at hw
  have hw := (List.mem_filter.mp hw).1
  have h1 := pl_gv_nd _ _ _ _ (fun i j _ hj => by simp at hj) hw
  obtain ⟨v, hv, h2, h3⟩ := pl_gv_in _ _ _ _ hw
  rw [List.nil_append] at hv
  rw [hv] at h1 ⊢
  exact ⟨h1, h2, h3⟩
theorem pl_ea_tb (nl l : Nat) (W : List (List Nat)) : ∀ e, (W.foldl (fun e w => e &&& pl_us w) e).testBit l = (e.testBit l && decide ((W.filter fun w => decide (l ∈ w)).length = W.length)) := by
  induction W with
  | nil => intro e; simp
  | cons w W ih =>
    intro e
    have hle : (W.filter fun w => decide (l ∈ w)).length ≤ W.length := List.length_filter_le _ _
    rw [List.foldl_cons, ih, Nat.testBit_and, pl_us_tb, List.filter_cons, List.length_cons]
    by_cases hm : l ∈ w
    · rw [if_pos (decide_eq_true hm), List.length_cons, decide_eq_true hm, Bool.and_true]
      congr 1
      by_cases c : (W.filter fun w => decide (l ∈ w)).length = W.length
      · rw [decide_eq_true c, decide_eq_true (by omega)]
      · rw [decide_eq_false c, decide_eq_false (by omega)]
    · rw [if_neg (by simpa using hm), decide_eq_false hm, Bool.and_false, Bool.false_and, decide_eq_false (by omega), Bool.and_false]
theorem pl_eo_tb (l : Nat) (W : List (List Nat)) : ∀ e, (W.foldl (fun e w => e ||| pl_us w) e).testBit l = (e.testBit l || decide (0 < (W.filter fun w => decide (l ∈ w)).length)) := by
  induction W with
  | nil => intro e; simp
  | cons w W ih =>
    intro e
    rw [List.foldl_cons, ih, Nat.testBit_or, pl_us_tb, List.filter_cons]
    by_cases hm : l ∈ w
    · rw [if_pos (decide_eq_true hm), List.length_cons, decide_eq_true hm, Bool.or_true, Bool.true_or, decide_eq_true (by omega), Bool.or_true]
    · rw [if_neg (by simpa using hm), decide_eq_false hm, Bool.or_false]
def pl_sw (A : pl_A) (n l : Nat) : Nat := pl_sum (fun t => pl_cw A n t l) (pl_N A 0 1 0)
theorem pl_sw_eq (A : pl_A) (n l : Nat) : pl_sw A n l = ((pl_of A n).filter fun w => decide (l ∈ w)).length := pl_with l (pl_of A n) fun w hw => ⟨(pl_of_w w hw).1, (pl_of_w w hw).2.1⟩
theorem pl_sure_e {A : pl_A} (n : Nat) : pl_ea (pl_N A 0 0 0) (pl_of A n) = pl_set (fun l => decide (pl_sw A n l = (pl_of A n).length)) (pl_N A 0 0 0) ∧ pl_eo (pl_of A n) = pl_set (fun l => decide (0 < pl_sw A n l)) (pl_N A 0 0 0) := by
  constructor
  · apply Nat.eq_of_testBit_eq
    intro l
    unfold pl_ea
    rw [pl_ea_tb (pl_N A 0 0 0), pl_full_tb, pl_set_tb, pl_sw_eq]
  · apply Nat.eq_of_testBit_eq
    intro l
    unfold pl_eo
    rw [pl_eo_tb, Nat.zero_testBit, Bool.false_or, pl_set_tb, pl_sw_eq]
    by_cases hl : l < pl_N A 0 0 0
    · rw [decide_eq_true hl, Bool.true_and]
    · rw [decide_eq_false hl, Bool.false_and, decide_eq_false]
      intro z
      obtain ⟨w, hw⟩ : ∃ w, w ∈ (pl_of A n).filter fun w => decide (l ∈ w) := List.exists_mem_of_length_pos z
      obtain ⟨h1, h2⟩ := List.mem_filter.mp hw
      exact hl ((pl_of_w w h1).2.2 l (of_decide_eq_true h2))
theorem pl_op_sure (x0 : Int32) : pl_Ok (fX10_sure 1 x0) (fX11_sure 33 x0) := by
  intro A m h
  have hS := h.1
  have hW := h.2.1
  have hww := hW.1
  unfold pl_Wc at hww
  have e20 : (20 : Int32) = nI 20 := rfl
  rcases pl_rng0 (x := x0) 20 (by decide) with hno | ⟨n, hn, rfl⟩
  · refine pl_Ok.same h (-1) ?_ ?_
    · simp only [fX10_sure, ↓pl_let, pl_b1, pl_b2, ↓reduceIte, e20, pl_within, hno, if_false, if_true]
    · simp only [fX11_sure, fX11_isMost, ↓pl_let, pl_b1, pl_b2, ↓reduceIte, e20, pl_inM, hno, if_false, if_true, true_or]
  · have hyes : 0 ≤ nI n ∧ nI n ≤ nI 20 := ⟨nI_pos' (by omega), nI_le hn (by decide)⟩
    obtain ⟨m1, c1, c2, c3, c4, c5⟩ := pl_refrS h
    have hS1 := c2.1
    have hr := pl_CsR c2 c5
    have h14 := (hr.2.2.2.2.2.1 n hn).1
    have hlen := pl_of_len hW n
    have hCh := c2.2.2.2.2.2.2.1
    have z1 := hCh.1.2.2
    have z2 := hCh.2.2.2.1
    have z3 := hCh.2.2.2.2.1
    by_cases h0 : (pl_of A n).length = 0
    · have hC1 : fX10_sure 1 (nI n) m = some (-9, m1) := by
        simp (disch := omega) only [fX10_sure, ↓pl_let, pl_b1, pl_b2, ↓reduceIte, e20, pl_within, hyes, and_self, if_true, pl_10, if_false, pl_k1 hS, c1, pl_k1 hS1, pl_r1_12 hS1, pl_k12 hS1, pl_r12_3 hS1, pl_in, nI_clamp, pl_k14 hS1, show n < 21 by omega, h14, pl_eq0, eq_true h0]
      refine pl_Ok.mk c2.md hC1 (by omega) (by omega) hW fun M hSM hMM => ?_
      obtain ⟨o, ho⟩ := pl_layOft hSM hW hMM hn
      refine ⟨_, ?_, pl_lq_mo A M (pl_of A n) 1 o, (pl_lq_kp A M (pl_of A n) 1 o).M hMM⟩
      have kq : ml_K (pl_lq A M (pl_of A n) 1 o) 33 = (11, 0) := pl_k33 hSM
      have i30 : ml_I (pl_lq A M (pl_of A n) 1 o) 33 30 = nI (pl_of A n).length := by unfold pl_lq; rw [pl_sq_33]; rfl
      simp (disch := omega) only [fX11_sure, fX11_isMost, ↓pl_let, pl_b1, pl_b2, ↓reduceIte, e20, pl_inM, hyes, and_self, if_true, or_true, pl_10, if_false, pl_k33 hSM, ho, kq, i30, pl_eq0, eq_true h0]
    · -- the class's loops
      have hsum_le : ∀ l t, pl_sum (fun t => pl_cw A n t l) t ≤ t * 200001 := fun l t => pl_sum_le fun i _ => pl_cw_le hW n i l
      have hinner : ∀ (K : Nat → Int32 → Int32 → Int32 → Int32 → Int32 → ml_M → Option (Int32 × ml_M)) (a b l : Nat), l < pl_N A 0 0 0 → fX10_sure_59 K ml_fu 1 (nI n) (nI (pl_of A n).length) (nI a) (nI b) (nI l) 0 0 m1 = K 1 (nI n) (nI (pl_of A n).length) (nI (if decide (pl_sw A n l = (pl_of A n).length) = true then a ||| 2 ^ l else a)) (nI (if decide (0 < pl_sw A n l) = true then b ||| 2 ^ l else b)) (nI (l + 1)) m1 := fun K a b l hl => by
        have hh := pl_for (F := fun fu t (_ : Unit) => fX10_sure_59 K fu 1 (nI n) (nI (pl_of A n).length) (nI a) (nI b) (nI l) (nI (pl_sum (fun t => pl_cw A n t l) t)) (nI t) m1) (R := K 1 (nI n) (nI (pl_of A n).length) (nI (if decide (pl_sw A n l = (pl_of A n).length) = true then a ||| 2 ^ l else a)) (nI (if decide (0 < pl_sw A n l) = true then b ||| 2 ^ l else b)) (nI (l + 1)) m1) (pl_N A 0 1 0) (fun _ => ()) (fun fu t ht => ?_) (fun fu => ?_) ml_fu (by rw [pl_fu]; omega)
        · exact hh
        · show fX10_sure_59 K (fu + 1) 1 (nI n) (nI (pl_of A n).length) (nI a) (nI b) (nI l) (nI (pl_sum (fun t => pl_cw A n t l) t)) (nI t) m1 = fX10_sure_59 K fu 1 (nI n) (nI (pl_of A n).length) (nI a) (nI b) (nI l) (nI (pl_sum (fun t => pl_cw A n t l) (t + 1))) (nI (t + 1)) m1
          have hp := pl_pairC c2 c5 hn ht hl
          rw [pl_sum1]
          simp (disch := omega) only [fX10_sure_59, ↓pl_let, pl_b1, pl_b2, ↓reduceIte, pl_k1 hS1, if_true, z1, z3, nI_leI, show ¬ pl_N A 0 1 0 ≤ t by omega, if_false, pl_r1_12 hS1, pl_k12 hS1, hp, nI_add, nI_1]
        · have hsl := hsum_le l (pl_N A 0 1 0)
          have hsw : pl_sum (fun t => pl_cw A n t l) (pl_N A 0 1 0) = pl_sw A n l := rfl
          rw [hsw] at hsl ⊢
          have hsb : pl_sw A n l < 2 ^ 31 := by
            have : pl_N A 0 1 0 * 200001 ≤ 8 * 200001 := Nat.mul_le_mul_right _ (by omega)
            omega
          have hor : ∀ s, nI s ||| (1 : Int32) <<< (nI l &&& 31) = nI (s ||| 2 ^ l) := fun s => by rw [pl_shl1 (by omega), pl_or]
          have h107 : ∀ a' : Nat, fX10_sure_107 K 1 (nI n) (nI (pl_of A n).length) (nI a') (nI b) (nI l) (nI (pl_sw A n l)) m1 = K 1 (nI n) (nI (pl_of A n).length) (nI a') (nI (if decide (0 < pl_sw A n l) = true then b ||| 2 ^ l else b)) (nI (l + 1)) m1 := fun a' => by
            by_cases c : pl_sw A n l = 0
            · rw [if_neg (by simp [c])]
              simp (disch := omega) only [fX10_sure_107, fX10_sure_121, pl_leZ, eq_true c, if_true, nI_1]
            · rw [if_pos (by simp; omega)]
              simp (disch := omega) only [fX10_sure_107, fX10_sure_121, ↓pl_let, pl_b1, pl_b2, ↓reduceIte, pl_leZ, c, if_false, hor, nI_1]
          have h59 : fX10_sure_59 K (fu + 1) 1 (nI n) (nI (pl_of A n).length) (nI a) (nI b) (nI l) (nI (pl_sw A n l)) (nI (pl_N A 0 1 0)) m1 = fX10_sure_94 K 1 (nI n) (nI (pl_of A n).length) (nI a) (nI b) (nI l) (nI (pl_sw A n l)) m1 := by
            simp (disch := omega) only [fX10_sure_59, ↓pl_let, pl_b1, pl_b2, ↓reduceIte, pl_k1 hS1, if_true, z1, z3, nI_leI, Nat.le_refl]
          rw [h59]
          by_cases c : pl_sw A n l = (pl_of A n).length
          · rw [if_pos (decide_eq_true c), ← h107]
            simp (disch := omega) only [fX10_sure_94, ↓pl_let, pl_b1, pl_b2, ↓reduceIte, nI_eq, eq_true c, if_true, hor]
          · rw [if_neg (by simpa using c), ← h107]
            simp (disch := omega) only [fX10_sure_94, ↓pl_let, pl_b1, pl_b2, ↓reduceIte, nI_eq, c, if_false]
      have houter := pl_for (F := fun fu l (_ : Unit) => fX10_sure_41 fu 1 (nI n) (nI (pl_of A n).length) (nI (pl_set (fun l => decide (pl_sw A n l = (pl_of A n).length)) l)) (nI (pl_set (fun l => decide (0 < pl_sw A n l)) l)) (nI l) m1) (R := some (nI (pl_set (fun l => decide (pl_sw A n l = (pl_of A n).length)) (pl_N A 0 0 0)), ml_sI m1 1 15 (nI (pl_set (fun l => decide (0 < pl_sw A n l)) (pl_N A 0 0 0))))) (pl_N A 0 0 0) (fun _ => ()) (fun fu l hl => ?_) (fun fu => ?_) ml_fu (by rw [pl_fu]; omega)
      · have hC1 : fX10_sure 1 (nI n) m = some (nI (pl_set (fun l => decide (pl_sw A n l = (pl_of A n).length)) (pl_N A 0 0 0)), ml_sI m1 1 15 (nI (pl_set (fun l => decide (0 < pl_sw A n l)) (pl_N A 0 0 0)))) := by
          have hl' : fX10_sure_41 ml_fu 1 (nI n) (nI (pl_of A n).length) 0 0 0 m1 = some (nI (pl_set (fun l => decide (pl_sw A n l = (pl_of A n).length)) (pl_N A 0 0 0)), ml_sI m1 1 15 (nI (pl_set (fun l => decide (0 < pl_sw A n l)) (pl_N A 0 0 0)))) := houter
          rw [← hl']
          simp (disch := omega) only [fX10_sure, ↓pl_let, pl_b1, pl_b2, ↓reduceIte, e20, pl_within, hyes, and_self, if_true, pl_10, if_false, pl_k1 hS, c1, pl_k1 hS1, pl_r1_12 hS1, pl_k12 hS1, pl_r12_3 hS1, pl_in, nI_clamp, pl_k14 hS1, show n < 21 by omega, h14, pl_eq0, h0]
        have hd := c2.tC (nI (pl_set (fun l => decide (0 < pl_sw A n l)) (pl_N A 0 0 0)))
        refine pl_Ok.mk hd hC1 (by rw [pl_n_sI]; omega) (by rw [pl_s_sI]; omega) (pl_tW hW _) fun M hSM hMM => ?_
        obtain ⟨o, ho⟩ := pl_layOft hSM hW hMM hn
        obtain ⟨Q, hQ⟩ : ∃ Q, Q = pl_lq A M (pl_of A n) 1 o := ⟨_, rfl⟩
        have hMQ : pl_M A Q := by rw [hQ]; exact (pl_lq_kp A M (pl_of A n) 1 o).M hMM
        have hmoQ : pl_mo M Q := by rw [hQ]; exact pl_lq_mo A M (pl_of A n) 1 o
        have hSQ := hmoQ.sh hSM
        have i30 : ml_I Q 33 30 = nI (pl_of A n).length := by rw [hQ]; unfold pl_lq; rw [pl_sq_33]; rfl
        have i32 : ml_I Q 33 32 = nI (pl_ea (pl_N A 0 0 0) (pl_of A n)) := by rw [hQ]; unfold pl_lq; rw [pl_sq_33]; rfl
        have i33 : ml_I Q 33 33 = nI (pl_eo (pl_of A n)) := by rw [hQ]; unfold pl_lq; rw [pl_sq_33]; rfl
        rw [← hQ] at ho
        obtain ⟨s1, s2⟩ := pl_sure_e (A := A) n
        rw [s1] at i32
        rw [s2] at i33
        refine ⟨_, ?_, hmoQ.sI (a := 33) (k := 2) (v := nI (pl_set (fun l => decide (0 < pl_sw A n l)) (pl_N A 0 0 0))) (by decide), pl_tM hMQ _⟩
        have htl := fun a v => pl_tellM hSQ v a
        simp (disch := omega) only [fX11_sure, fX11_isMost, ↓pl_let, pl_b1, pl_b2, ↓reduceIte, e20, pl_inM, hyes, and_self, if_true, or_true, pl_10, if_false, pl_k33 hSM, ho, pl_k33 hSQ, i30, i32, i33, pl_eq0, h0, htl]
      · show fX10_sure_41 (fu + 1) 1 (nI n) (nI (pl_of A n).length) (nI (pl_set (fun l => decide (pl_sw A n l = (pl_of A n).length)) l)) (nI (pl_set (fun l => decide (0 < pl_sw A n l)) l)) (nI l) m1 = fX10_sure_41 fu 1 (nI n) (nI (pl_of A n).length) (nI (pl_set (fun l => decide (pl_sw A n l = (pl_of A n).length)) (l + 1))) (nI (pl_set (fun l => decide (0 < pl_sw A n l)) (l + 1))) (nI (l + 1)) m1
        rw [pl_set1, pl_set1, ← hinner (fX10_sure_41 fu) _ _ l hl]
        simp (disch := omega) only [fX10_sure_41, ↓pl_let, pl_b1, pl_b2, ↓reduceIte, pl_k1 hS1, if_true, z1, z2, nI_leI, show ¬ pl_N A 0 0 0 ≤ l by omega, if_false]
      · simp (disch := omega) only [fX10_sure_41, fX10_sure_127, ↓pl_let, pl_b1, pl_b2, ↓reduceIte, pl_k1 hS1, if_true, z1, z2, nI_leI, Nat.le_refl]
/-- how often the one who is there in most of them has a trunk -/
def pl_mo2 (A : pl_A) (n t : Nat) : Nat → Nat
  | 0 => 0
  | l + 1 => if pl_mo2 A n t l < pl_cw A n t l then pl_cw A n t l else pl_mo2 A n t l
theorem pl_mo21 (A : pl_A) (n t l : Nat) : pl_mo2 A n t (l + 1) = if pl_mo2 A n t l < pl_cw A n t l then pl_cw A n t l else pl_mo2 A n t l := rfl
theorem pl_mo2_le {A : pl_A} (hW : pl_W A) (n t l : Nat) : pl_mo2 A n t l ≤ 200001 := by
  induction l with
  | zero => exact Nat.zero_le _
  | succ l ih =>
    have := pl_cw_le hW n t l
    rw [pl_mo21]; split <;> omega
def pl_nb (A : pl_A) (n : Nat) : Nat → Int32 × Nat
  | 0 => (-9, 0)
  | t + 1 => if (pl_nb A n t).1 = -9 ∨ pl_mo2 A n t (pl_N A 0 0 0) < (pl_nb A n t).2 then (nI t, pl_mo2 A n t (pl_N A 0 0 0)) else pl_nb A n t
theorem pl_nb1 (A : pl_A) (n t : Nat) : pl_nb A n (t + 1) = if (pl_nb A n t).1 = -9 ∨ pl_mo2 A n t (pl_N A 0 0 0) < (pl_nb A n t).2 then (nI t, pl_mo2 A n t (pl_N A 0 0 0)) else pl_nb A n t := rfl
theorem pl_nb_ok {A : pl_A} (hW : pl_W A) (n : Nat) : ∀ t, t ≤ 8 → (pl_nb A n t).2 ≤ 200001 ∧ (0 < t → ∃ j, j < 8 ∧ (pl_nb A n t).1 = nI j) := by
  intro t
  induction t with
  | zero => intro _; exact ⟨Nat.zero_le _, fun h => absurd h (Nat.lt_irrefl 0)⟩
  | succ t ih =>
    intro ht
    have ih := ih (by omega)
    rw [pl_nb1]
    by_cases c : (pl_nb A n t).1 = -9 ∨ pl_mo2 A n t (pl_N A 0 0 0) < (pl_nb A n t).2
    · rw [if_pos c]
      exact ⟨pl_mo2_le hW n t _, fun _ => ⟨t, by omega, rfl⟩⟩
    · rw [if_neg c]
      refine ⟨ih.1, fun _ => ?_⟩
      by_cases h0 : t = 0
      · exfalso
        rw [h0] at c
        exact c (Or.inl rfl)
      · exact ih.2 (by omega)
theorem pl_op_next (x0 : Int32) : pl_Ok (fX10_next 1 x0) (fX11_next 33 x0) := by
  intro A m h
  have hS := h.1
  have hW := h.2.1
  have hww := hW.1
  unfold pl_Wc at hww
  have e20 : (20 : Int32) = nI 20 := rfl
  rcases pl_rng0 (x := x0) 20 (by decide) with hno | ⟨n, hn, rfl⟩
  · refine pl_Ok.same h (-1) ?_ ?_
    · simp only [fX10_next, ↓pl_let, pl_b1, pl_b2, ↓reduceIte, e20, pl_within, hno, if_false, if_true]
    · simp only [fX11_next, fX11_isMost, ↓pl_let, pl_b1, pl_b2, ↓reduceIte, e20, pl_inM, hno, if_false, if_true, true_or]
  · have hyes : 0 ≤ nI n ∧ nI n ≤ nI 20 := ⟨nI_pos' (by omega), nI_le hn (by decide)⟩
    obtain ⟨m1, c1, c2, c3, c4, c5⟩ := pl_refrS h
    have hS1 := c2.1
    have hr := pl_CsR c2 c5
    have h14 := (hr.2.2.2.2.2.1 n hn).1
    have hlen := pl_of_len hW n
    have hCh := c2.2.2.2.2.2.2.1
    have z1 := hCh.1.2.2
    have z2 := hCh.2.2.2.1
    have z3 := hCh.2.2.2.2.1
    have h99 : ((-9 : Int32) = -9) = True := eq_true rfl
    by_cases h0 : (pl_of A n).length = 0 ∨ pl_N A 0 1 0 = 0
    · have hC1 : fX10_next 1 (nI n) m = some (-9, m1) := by
        by_cases ha : (pl_of A n).length = 0
        · simp (disch := omega) only [fX10_next, ↓pl_let, pl_b1, pl_b2, ↓reduceIte, e20, pl_within, hyes, and_self, if_true, pl_10, if_false, pl_k1 hS, c1, pl_k1 hS1, pl_r1_12 hS1, pl_k12 hS1, pl_r12_3 hS1, pl_in, nI_clamp, pl_k14 hS1, show n < 21 by omega, h14, pl_eq0, eq_true ha]
        · have hb : pl_N A 0 1 0 = 0 := h0.resolve_left ha
          simp (disch := omega) only [fX10_next, ↓pl_let, pl_b1, pl_b2, ↓reduceIte, e20, pl_within, hyes, and_self, if_true, pl_10, if_false, pl_k1 hS, c1, pl_k1 hS1, pl_r1_12 hS1, pl_k12 hS1, pl_r12_3 hS1, pl_in, nI_clamp, pl_k14 hS1, show n < 21 by omega, h14, pl_eq0, ha, z1, z3, eq_true hb]
      refine pl_Ok.mk c2.md hC1 (by omega) (by omega) hW fun M hSM hMM => ?_
      obtain ⟨o, ho⟩ := pl_layOft hSM hW hMM hn
      obtain ⟨Q, hQ⟩ : ∃ Q, Q = pl_lq A M (pl_of A n) 1 o := ⟨_, rfl⟩
      have hMQ : pl_M A Q := by rw [hQ]; exact (pl_lq_kp A M (pl_of A n) 1 o).M hMM
      have hmoQ : pl_mo M Q := by rw [hQ]; exact pl_lq_mo A M (pl_of A n) 1 o
      have hSQ := hmoQ.sh hSM
      have i30 : ml_I Q 33 30 = nI (pl_of A n).length := by rw [hQ]; unfold pl_lq; rw [pl_sq_33]; rfl
      rw [← hQ] at ho
      have h10 := hMQ.1.2.1
      refine ⟨Q, ?_, hmoQ, hMQ⟩
      have h22 : fX11_next_22 ml_fu 33 (-9) 0 0 Q = some (-9, Q) := by
        obtain ⟨q, hq⟩ : ∃ q, ml_fu = q + 1 := ⟨_, pl_fu1⟩
        rw [hq]
        by_cases hb : pl_N A 0 1 0 = 0
        · simp (disch := omega) only [fX11_next_22, fX11_next_121, pl_k33 hSQ, if_true, h10, pl_leZ, eq_true hb]
        · have ha : (pl_of A n).length = 0 := h0.resolve_right hb
          simp (disch := omega) only [fX11_next_22, fX11_next_121, pl_k33 hSQ, if_true, h10, pl_leZ, hb, if_false, i30, eq_true ha]
      simp (disch := omega) only [fX11_next, fX11_isMost, ↓pl_let, pl_b1, pl_b2, ↓reduceIte, e20, pl_inM, hyes, and_self, if_true, or_true, pl_10, if_false, pl_k33 hSM, ho, h22]
    · have ha : ¬ (pl_of A n).length = 0 := fun z => h0 (Or.inl z)
      have hb : ¬ pl_N A 0 1 0 = 0 := fun z => h0 (Or.inr z)
      obtain ⟨nb1, nb2⟩ := pl_nb_ok hW n (pl_N A 0 1 0) (by omega)
      obtain ⟨bj, hbj8, hbj⟩ := nb2 (by omega)
      have hinner : ∀ (K : Nat → Int32 → Int32 → Int32 → Int32 → ml_M → Option (Int32 × ml_M)) (t : Nat), t < pl_N A 0 1 0 → fX10_next_67 K ml_fu 1 (nI n) (pl_nb A n t).1 (nI (pl_nb A n t).2) (nI t) 0 0 m1 = K 1 (nI n) (pl_nb A n (t + 1)).1 (nI (pl_nb A n (t + 1)).2) (nI (t + 1)) m1 := fun K t ht => by
        have hh := pl_for (F := fun fu l (_ : Unit) => fX10_next_67 K fu 1 (nI n) (pl_nb A n t).1 (nI (pl_nb A n t).2) (nI t) (nI (pl_mo2 A n t l)) (nI l) m1) (R := K 1 (nI n) (pl_nb A n (t + 1)).1 (nI (pl_nb A n (t + 1)).2) (nI (t + 1)) m1) (pl_N A 0 0 0) (fun _ => ()) (fun fu l hl => ?_) (fun fu => ?_) ml_fu (by rw [pl_fu]; omega)
        · exact hh
        · show fX10_next_67 K (fu + 1) 1 (nI n) (pl_nb A n t).1 (nI (pl_nb A n t).2) (nI t) (nI (pl_mo2 A n t l)) (nI l) m1 = fX10_next_67 K fu 1 (nI n) (pl_nb A n t).1 (nI (pl_nb A n t).2) (nI t) (nI (pl_mo2 A n t (l + 1))) (nI (l + 1)) m1
          have hp := pl_pairC c2 c5 hn ht hl
          have b1 := pl_cw_le hW n t l
          have b2 := pl_mo2_le hW n t l
          have hmx : (if nI (pl_mo2 A n t l) < nI (pl_cw A n t l) then nI (pl_cw A n t l) else nI (pl_mo2 A n t l)) = nI (pl_mo2 A n t (l + 1)) := by
            rw [pl_mo21]
            by_cases c : pl_mo2 A n t l < pl_cw A n t l
            · rw [if_pos ((nI_ltI (by omega) (by omega)).mpr c), if_pos c]
            · rw [if_neg (fun z => c ((nI_ltI (by omega) (by omega)).mp z)), if_neg c]
          simp (disch := omega) only [fX10_next_67, ↓pl_let, pl_b1, pl_b2, ↓reduceIte, pl_k1 hS1, if_true, z1, z2, nI_leI, show ¬ pl_N A 0 0 0 ≤ l by omega, if_false, pl_r1_12 hS1, pl_k12 hS1, hp, hmx, nI_1]
        · have b2 := pl_mo2_le hW n t (pl_N A 0 0 0)
          have b3 := (pl_nb_ok hW n t (by omega)).1
          have h67 : fX10_next_67 K (fu + 1) 1 (nI n) (pl_nb A n t).1 (nI (pl_nb A n t).2) (nI t) (nI (pl_mo2 A n t (pl_N A 0 0 0))) (nI (pl_N A 0 0 0)) m1 = fX10_next_104 K 1 (nI n) (pl_nb A n t).1 (nI (pl_nb A n t).2) (nI t) (nI (pl_mo2 A n t (pl_N A 0 0 0))) m1 := by
            simp (disch := omega) only [fX10_next_67, ↓pl_let, pl_b1, pl_b2, ↓reduceIte, pl_k1 hS1, if_true, z1, z2, nI_leI, Nat.le_refl]
          rw [h67, pl_nb1]
          unfold fX10_next_104
          by_cases d1 : (pl_nb A n t).1 = -9
          · rw [if_pos d1, if_pos (Or.inl d1)]
            simp only [fX10_next_116, fX10_next_122, nI_1]
          · rw [if_neg d1]
            by_cases d2 : pl_mo2 A n t (pl_N A 0 0 0) < (pl_nb A n t).2
            · rw [if_pos (Or.inr d2), if_neg (by rw [nI_leI (by omega) (by omega)]; omega)]
              simp only [fX10_next_116, fX10_next_122, nI_1]
            · rw [if_neg (show ¬ ((pl_nb A n t).1 = -9 ∨ pl_mo2 A n t (pl_N A 0 0 0) < (pl_nb A n t).2) from fun z => z.elim d1 d2), if_pos (by rw [nI_leI (by omega) (by omega)]; omega)]
              simp only [fX10_next_122, nI_1]
      have houter := pl_for (F := fun fu t (_ : Unit) => fX10_next_49 fu 1 (nI n) (pl_nb A n t).1 (nI (pl_nb A n t).2) (nI t) m1) (R := some (nI bj, ml_sI m1 1 15 (nI (pl_nb A n (pl_N A 0 1 0)).2))) (pl_N A 0 1 0) (fun _ => ()) (fun fu t ht => ?_) (fun fu => ?_) ml_fu (by rw [pl_fu]; omega)
      · have hC1 : fX10_next 1 (nI n) m = some (nI bj, ml_sI m1 1 15 (nI (pl_nb A n (pl_N A 0 1 0)).2)) := by
          have hl' : fX10_next_49 ml_fu 1 (nI n) (-9) 0 0 m1 = some (nI bj, ml_sI m1 1 15 (nI (pl_nb A n (pl_N A 0 1 0)).2)) := houter
          rw [← hl']
          simp (disch := omega) only [fX10_next, ↓pl_let, pl_b1, pl_b2, ↓reduceIte, e20, pl_within, hyes, and_self, if_true, pl_10, if_false, pl_k1 hS, c1, pl_k1 hS1, pl_r1_12 hS1, pl_k12 hS1, pl_r12_3 hS1, pl_in, nI_clamp, pl_k14 hS1, show n < 21 by omega, h14, pl_eq0, ha, z1, z3, hb]
        have hd := c2.tC (nI (pl_nb A n (pl_N A 0 1 0)).2)
        refine pl_Ok.mk hd hC1 (by rw [pl_n_sI]; omega) (by rw [pl_s_sI]; omega) (pl_tW hW _) fun M hSM hMM => ?_
        obtain ⟨o, ho⟩ := pl_layOft hSM hW hMM hn
        obtain ⟨Q, hQ⟩ : ∃ Q, Q = pl_lq A M (pl_of A n) 1 o := ⟨_, rfl⟩
        have hMQ : pl_M A Q := by rw [hQ]; exact (pl_lq_kp A M (pl_of A n) 1 o).M hMM
        have hmoQ : pl_mo M Q := by rw [hQ]; exact pl_lq_mo A M (pl_of A n) 1 o
        have hSQ := hmoQ.sh hSM
        have i30 : ml_I Q 33 30 = nI (pl_of A n).length := by rw [hQ]; unfold pl_lq; rw [pl_sq_33]; rfl
        have h50 : ∀ t l, t < pl_N A 0 1 0 → l < pl_N A 0 0 0 → ml_I Q 50 (8 * t + l) = nI (pl_cw A n t l) := fun t l ht hl => by rw [hQ]; exact pl_oftM hW M n o ht hl
        rw [← hQ] at ho
        have h9 := hMQ.1.1
        have h10 := hMQ.1.2.1
        have e8 : (8 : Int32) = nI 8 := rfl
        refine ⟨_, ?_, hmoQ.sI (a := 33) (k := 2) (v := nI (pl_nb A n (pl_N A 0 1 0)).2) (by decide), pl_tM hMQ _⟩
        have hinM : ∀ (K : Nat → Int32 → Int32 → Int32 → ml_M → Option (Int32 × ml_M)) (t : Nat), t < pl_N A 0 1 0 → fX11_next_44 K ml_fu 33 (pl_nb A n t).1 (nI (pl_nb A n t).2) (nI t) 0 0 Q = K 33 (pl_nb A n (t + 1)).1 (nI (pl_nb A n (t + 1)).2) (nI (t + 1)) Q := fun K t ht => by
          have hh := pl_for (F := fun fu l (_ : Unit) => fX11_next_44 K fu 33 (pl_nb A n t).1 (nI (pl_nb A n t).2) (nI t) (nI (pl_mo2 A n t l)) (nI l) Q) (R := K 33 (pl_nb A n (t + 1)).1 (nI (pl_nb A n (t + 1)).2) (nI (t + 1)) Q) (pl_N A 0 0 0) (fun _ => ()) (fun fu l hl => ?_) (fun fu => ?_) ml_fu (by rw [pl_fu]; omega)
          · exact hh
          · show fX11_next_44 K (fu + 1) 33 (pl_nb A n t).1 (nI (pl_nb A n t).2) (nI t) (nI (pl_mo2 A n t l)) (nI l) Q = fX11_next_44 K fu 33 (pl_nb A n t).1 (nI (pl_nb A n t).2) (nI t) (nI (pl_mo2 A n t (l + 1))) (nI (l + 1)) Q
            have hv := h50 t l ht hl
            have b1 := pl_cw_le hW n t l
            have b2 := pl_mo2_le hW n t l
            have hidx : (8 : Int32) * nI t + nI l = nI (8 * t + l) := by rw [e8, pk_mul, nI_add]
            rw [pl_mo21]
            by_cases c : pl_mo2 A n t l < pl_cw A n t l
            · rw [if_pos c]
              simp (disch := omega) only [fX11_next_44, fX11_next_89, ↓pl_let, pl_b1, pl_b2, ↓reduceIte, pl_k33 hSQ, if_true, h9, nI_leI, show ¬ pl_N A 0 0 0 ≤ l by omega, if_false, pl_r33_31 hSQ, hidx, pl_in, nI_clamp, pl_k50 hSQ, show 8 * t + l < 64 by omega, and_self, hv, show ¬ pl_cw A n t l ≤ pl_mo2 A n t l by omega, nI_1]
            · rw [if_neg c]
              simp (disch := omega) only [fX11_next_44, fX11_next_89, ↓pl_let, pl_b1, pl_b2, ↓reduceIte, pl_k33 hSQ, if_true, h9, nI_leI, show ¬ pl_N A 0 0 0 ≤ l by omega, if_false, pl_r33_31 hSQ, hidx, pl_in, nI_clamp, pl_k50 hSQ, show 8 * t + l < 64 by omega, and_self, hv, show pl_cw A n t l ≤ pl_mo2 A n t l by omega, nI_1]
          · have b2 := pl_mo2_le hW n t (pl_N A 0 0 0)
            have b3 := (pl_nb_ok hW n t (by omega)).1
            have h67 : fX11_next_44 K (fu + 1) 33 (pl_nb A n t).1 (nI (pl_nb A n t).2) (nI t) (nI (pl_mo2 A n t (pl_N A 0 0 0))) (nI (pl_N A 0 0 0)) Q = fX11_next_97 K 33 (pl_nb A n t).1 (nI (pl_nb A n t).2) (nI t) (nI (pl_mo2 A n t (pl_N A 0 0 0))) Q := by
              simp (disch := omega) only [fX11_next_44, pl_k33 hSQ, if_true, h9, nI_leI, Nat.le_refl]
            rw [h67, pl_nb1]
            unfold fX11_next_97
            by_cases d1 : (pl_nb A n t).1 = -9
            · rw [if_pos d1, if_pos (Or.inl d1)]
              simp only [fX11_next_109, fX11_next_115, nI_1]
            · rw [if_neg d1]
              by_cases d2 : pl_mo2 A n t (pl_N A 0 0 0) < (pl_nb A n t).2
              · rw [if_pos (Or.inr d2), if_neg (by rw [nI_leI (by omega) (by omega)]; omega)]
                simp only [fX11_next_109, fX11_next_115, nI_1]
              · rw [if_neg (show ¬ ((pl_nb A n t).1 = -9 ∨ pl_mo2 A n t (pl_N A 0 0 0) < (pl_nb A n t).2) from fun z => z.elim d1 d2), if_pos (by rw [nI_leI (by omega) (by omega)]; omega)]
                simp only [fX11_next_115, nI_1]
        have houM := pl_for (F := fun fu t (_ : Unit) => fX11_next_22 fu 33 (pl_nb A n t).1 (nI (pl_nb A n t).2) (nI t) Q) (R := some (nI bj, ml_sI Q 33 2 (nI (pl_nb A n (pl_N A 0 1 0)).2))) (pl_N A 0 1 0) (fun _ => ()) (fun fu t ht => ?_) (fun fu => ?_) ml_fu (by rw [pl_fu]; omega)
        · have hl' : fX11_next_22 ml_fu 33 (-9) 0 0 Q = some (nI bj, ml_sI Q 33 2 (nI (pl_nb A n (pl_N A 0 1 0)).2)) := houM
          simp (disch := omega) only [fX11_next, fX11_isMost, ↓pl_let, pl_b1, pl_b2, ↓reduceIte, e20, pl_inM, hyes, and_self, if_true, or_true, pl_10, if_false, pl_k33 hSM, ho, hl']
        · show fX11_next_22 (fu + 1) 33 (pl_nb A n t).1 (nI (pl_nb A n t).2) (nI t) Q = fX11_next_22 fu 33 (pl_nb A n (t + 1)).1 (nI (pl_nb A n (t + 1)).2) (nI (t + 1)) Q
          rw [← hinM (fX11_next_22 fu) t ht]
          simp (disch := omega) only [fX11_next_22, pl_k33 hSQ, if_true, h10, nI_leI, show ¬ pl_N A 0 1 0 ≤ t by omega, if_false, i30, pl_leZ, ha]
        · have htl := fun a v => pl_tellM hSQ v a
          have hn9 : ¬ nI bj = -9 := by rw [pl_n9 (by omega)]; exact id
          rw [hbj]
          simp (disch := omega) only [fX11_next_22, fX11_next_121, pl_k33 hSQ, if_true, h10, nI_leI, Nat.le_refl, hn9, if_false, htl, ↓pl_let, pl_b1, pl_b2, ↓reduceIte]
      · show fX10_next_49 (fu + 1) 1 (nI n) (pl_nb A n t).1 (nI (pl_nb A n t).2) (nI t) m1 = fX10_next_49 fu 1 (nI n) (pl_nb A n (t + 1)).1 (nI (pl_nb A n (t + 1)).2) (nI (t + 1)) m1
        rw [← hinner (fX10_next_49 fu) t ht]
        simp (disch := omega) only [fX10_next_49, ↓pl_let, pl_b1, pl_b2, ↓reduceIte, pl_k1 hS1, if_true, z1, z3, nI_leI, show ¬ pl_N A 0 1 0 ≤ t by omega, if_false]
      · rw [hbj]
        simp (disch := omega) only [fX10_next_49, fX10_next_128, ↓pl_let, pl_b1, pl_b2, ↓reduceIte, pl_k1 hS1, if_true, z1, z3, nI_leI, Nat.le_refl]

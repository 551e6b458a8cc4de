/-! SHARINGS: the class's search. -/
/-- the class's own cells of a search: the fewest, the first, by m, by pairs, the chosen -/
def pl_sy (Z : ml_M) (v : Int32) (a b d c : Nat → Int32) : ml_M := pl_wI (pl_wI (pl_wI (pl_wI (pl_wI Z 12 (pl_up (ml_I Z 12) 1 v)) 13 a) 14 b) 15 d) 20 c
theorem pl_sy_12 (Z : ml_M) (v : Int32) (a b d c : Nat → Int32) : ml_I (pl_sy Z v a b d c) 12 = pl_up (ml_I Z 12) 1 v := by
  unfold pl_sy
  rw [pl_I_wI, if_neg (by decide), pl_I_wI, if_neg (by decide), pl_I_wI, if_neg (by decide), pl_I_wI, if_neg (by decide), pl_I_wI, if_pos rfl]
theorem pl_sy_13 (Z : ml_M) (v : Int32) (a b d c : Nat → Int32) : ml_I (pl_sy Z v a b d c) 13 = a := by
  unfold pl_sy
  rw [pl_I_wI, if_neg (by decide), pl_I_wI, if_neg (by decide), pl_I_wI, if_neg (by decide), pl_I_wI, if_pos rfl]
theorem pl_sy_14 (Z : ml_M) (v : Int32) (a b d c : Nat → Int32) : ml_I (pl_sy Z v a b d c) 14 = b := by
  unfold pl_sy
  rw [pl_I_wI, if_neg (by decide), pl_I_wI, if_neg (by decide), pl_I_wI, if_pos rfl]
theorem pl_sy_15 (Z : ml_M) (v : Int32) (a b d c : Nat → Int32) : ml_I (pl_sy Z v a b d c) 15 = d := by
  unfold pl_sy
  rw [pl_I_wI, if_neg (by decide), pl_I_wI, if_pos rfl]
theorem pl_sy_20 (Z : ml_M) (v : Int32) (a b d c : Nat → Int32) : ml_I (pl_sy Z v a b d c) 20 = c := by
  unfold pl_sy
  rw [pl_I_wI, if_pos rfl]
theorem pl_sy_o (Z : ml_M) (v : Int32) (a b d c : Nat → Int32) {x : Nat} (h : x ≠ 12 ∧ x ≠ 13 ∧ x ≠ 14 ∧ x ≠ 15 ∧ x ≠ 20) : ml_I (pl_sy Z v a b d c) x = ml_I Z x := by
  unfold pl_sy
  rw [pl_I_wI, if_neg h.2.2.2.2, pl_I_wI, if_neg h.2.2.2.1, pl_I_wI, if_neg h.2.2.1, pl_I_wI, if_neg h.2.1, pl_I_wI, if_neg h.1]
theorem pl_sy_R (Z : ml_M) (v : Int32) (a b d c : Nat → Int32) : ml_R (pl_sy Z v a b d c) = ml_R Z := rfl
theorem pl_sy_K (Z : ml_M) (v : Int32) (a b d c : Nat → Int32) : ml_K (pl_sy Z v a b d c) = ml_K Z := rfl
theorem pl_sy_s20 (Z : ml_M) (v : Int32) (a b d c : Nat → Int32) (k : Nat) (x : Int32) : ml_sI (pl_sy Z v a b d c) 20 k x = pl_sy Z v a b d (pl_up c k x) := by
  unfold pl_sy
  rw [pl_wI_sI]; rfl
theorem pl_sy_s15 (Z : ml_M) (v : Int32) (a b d c : Nat → Int32) (k : Nat) (x : Int32) : ml_sI (pl_sy Z v a b d c) 15 k x = pl_sy Z v a b (pl_up d k x) c := by
  unfold pl_sy
  rw [pl_sIsw _ (by decide), pl_wI_sI]; rfl
theorem pl_sy_s14 (Z : ml_M) (v : Int32) (a b d c : Nat → Int32) (k : Nat) (x : Int32) : ml_sI (pl_sy Z v a b d c) 14 k x = pl_sy Z v a (pl_up b k x) d c := by
  unfold pl_sy
  rw [pl_sIsw _ (by decide), pl_sIsw _ (by decide), pl_wI_sI]; rfl
theorem pl_sy_s12 (Z : ml_M) (v : Int32) (a b d c : Nat → Int32) (x : Int32) : ml_sI (pl_sy Z v a b d c) 12 1 x = pl_sy Z x a b d c := by
  unfold pl_sy
  rw [pl_sIsw _ (by decide), pl_sIsw _ (by decide), pl_sIsw _ (by decide), pl_sIsw _ (by decide), pl_wI_sI, pl_up_up]
def pl_c8 (c a : Nat → Int32) : Nat → Int32 := fun j => if j < 8 then c j else a j
theorem pl_cp_w (m : ml_M) (sa da n : Nat) : ml_cp m sa 0 da 0 n = pl_wI m da (fun j => if j < n then ml_I m sa j else ml_I m da j) := by
  have : (fun b j => if b = da ∧ 0 ≤ j ∧ j < 0 + n then ml_I m sa (0 + (j - 0)) else ml_I m b j) = fun b => if b = da then (fun j => if j < n then ml_I m sa j else ml_I m da j) else ml_I m b := by
    funext b j
    by_cases h : b = da
    · rw [if_pos h]
      by_cases h2 : j < n
      · rw [if_pos (by omega), if_pos h2, show 0 + (j - 0) = j by omega]
      · rw [if_neg (by omega), if_neg h2, h]
    · rw [if_neg h, if_neg (fun z => h z.1)]
  show (_, _, _, _, _, _) = (_, _, _, _, _, _)
  rw [this]
theorem pl_sy_cp (Z : ml_M) (v : Int32) (a b d c : Nat → Int32) : ml_cp (pl_sy Z v a b d c) 20 0 13 0 8 = pl_sy Z v (pl_c8 c a) b d c := by
  rw [pl_cp_w, pl_sy_20, pl_sy_13]
  unfold pl_sy
  rw [pl_wI_sw _ (a := 20) (b := 13) _ _ (by decide), pl_wI_sw _ (a := 15) (b := 13) _ _ (by decide), pl_wI_sw _ (a := 14) (b := 13) _ _ (by decide), pl_wI_wI]
  rfl
/-- what the search rests on -/
def pl_sx (A : pl_A) (Z : ml_M) : Prop := pl_Sh Z ∧ ml_I Z 12 6 = nI (pl_N A 0 1 0) ∧ ml_I Z 12 7 = nI (pl_N A 0 0 0) ∧ (ml_K Z (ml_R Z 12 5) = (30, 8) ∧ ∀ t, t < pl_N A 0 1 0 → 60 < ml_R Z (ml_R Z 12 5) t ∧ ml_K Z (ml_R Z (ml_R Z 12 5) t) = (9, 0) ∧ ml_I Z (ml_R Z (ml_R Z 12 5) t) 2 = nI (pl_abv A t) ∧ ml_I Z (ml_R Z (ml_R Z 12 5) t) 3 = nI (pl_blw A t)) ∧
  (∀ t l, t < pl_N A 0 1 0 → l < pl_N A 0 0 0 → ml_I Z 16 (t * 8 + l) = nI (pl_st A t l (pl_N A 0 3 0))) ∧ (∀ set, set < 2 ^ pl_N A 0 0 0 → ml_I Z 17 set = if pl_cov A set then 1 else 0) ∧ ∀ l, l < pl_N A 0 0 0 → ml_I Z 18 l = nI (pl_set (fun o => decide (pl_N A 1 l 1 ≤ pl_N A 1 o 1)) (pl_N A 0 0 0)) ∧ ml_I Z 19 l = nI (pl_set (fun o => decide (pl_N A 1 o 1 ≤ pl_N A 1 l 1)) (pl_N A 0 0 0))
def pl_ne (A : pl_A) (l : Nat) : Nat := pl_set (fun o => decide (pl_N A 1 l 1 ≤ pl_N A 1 o 1)) (pl_N A 0 0 0)
def pl_nlt (A : pl_A) (l : Nat) : Nat := pl_set (fun o => decide (pl_N A 1 o 1 ≤ pl_N A 1 l 1)) (pl_N A 0 0 0)
def pl_opi (A : pl_A) (w : List Nat) : Nat → Nat
  | 0 => (2 ^ pl_N A 0 0 0 - 1) ^^^ pl_us w
  | i + 1 => if (pl_abv A w.length).testBit i = true then (if (pl_blw A w.length).testBit i = true then pl_opi A w i &&& pl_ne A (w.getD i 0) else pl_opi A w i) &&& pl_nlt A (w.getD i 0) else (if (pl_blw A w.length).testBit i = true then pl_opi A w i &&& pl_ne A (w.getD i 0) else pl_opi A w i)
theorem pl_opi1 (A : pl_A) (w : List Nat) (i : Nat) : pl_opi A w (i + 1) = if (pl_abv A w.length).testBit i = true then (if (pl_blw A w.length).testBit i = true then pl_opi A w i &&& pl_ne A (w.getD i 0) else pl_opi A w i) &&& pl_nlt A (w.getD i 0) else (if (pl_blw A w.length).testBit i = true then pl_opi A w i &&& pl_ne A (w.getD i 0) else pl_opi A w i) := rfl
theorem pl_opn1 (A : pl_A) (w : List Nat) (l i : Nat) : pl_opn A w l (i + 1) = (pl_opn A w l i && ((!(pl_blw A w.length).testBit i || decide (pl_N A 1 (w.getD i 0) 1 ≤ pl_N A 1 l 1)) && (!(pl_abv A w.length).testBit i || decide (pl_N A 1 l 1 ≤ pl_N A 1 (w.getD i 0) 1)))) := rfl
theorem pl_opi_tb (A : pl_A) {w : List Nat} (hw : ∀ l ∈ w, l < pl_N A 0 0 0) (l : Nat) : ∀ i, (pl_opi A w i).testBit l = (decide (l < pl_N A 0 0 0) && !decide (l ∈ w) && pl_opn A w l i) := by
  intro i
  induction i with
  | zero =>
    show ((2 ^ pl_N A 0 0 0 - 1) ^^^ pl_us w).testBit l = _
    rw [Nat.testBit_xor, pl_full_tb, pl_us_tb]
    show _ = (decide (l < pl_N A 0 0 0) && !decide (l ∈ w) && true)
    by_cases h1 : l < pl_N A 0 0 0
    · by_cases h2 : l ∈ w <;> simp [h1, h2]
    · have h2 : ¬ l ∈ w := fun z => h1 (hw l z)
      simp [h1, h2]
  | succ i ih =>
    rw [pl_opi1, pl_opn1]
    have hne : (pl_ne A (w.getD i 0)).testBit l = (decide (l < pl_N A 0 0 0) && decide (pl_N A 1 (w.getD i 0) 1 ≤ pl_N A 1 l 1)) := by unfold pl_ne; rw [pl_set_tb]
    have hnl : (pl_nlt A (w.getD i 0)).testBit l = (decide (l < pl_N A 0 0 0) && decide (pl_N A 1 l 1 ≤ pl_N A 1 (w.getD i 0) 1)) := by unfold pl_nlt; rw [pl_set_tb]
    generalize decide (l < pl_N A 0 0 0) = q at *
    generalize decide (pl_N A 1 (w.getD i 0) 1 ≤ pl_N A 1 l 1) = u at *
    generalize decide (pl_N A 1 l 1 ≤ pl_N A 1 (w.getD i 0) 1) = u2 at *
    generalize (!decide (l ∈ w)) = q2 at *
    generalize pl_opn A w l i = q3 at *
    cases ha : (pl_abv A w.length).testBit i <;> cases hb : (pl_blw A w.length).testBit i <;> simp only [if_true, if_false, Bool.false_eq_true, Nat.testBit_and, ih, hne, hnl] <;> cases q <;> cases q2 <;> cases q3 <;> cases u <;> cases u2 <;> rfl
theorem pl_opi_lt (A : pl_A) {w : List Nat} (hw : ∀ l ∈ w, l < pl_N A 0 0 0) (i : Nat) : pl_opi A w i < 2 ^ pl_N A 0 0 0 := by
  have h : ∀ l, pl_N A 0 0 0 ≤ l → (pl_opi A w i).testBit l = false := fun l hl => by rw [pl_opi_tb A hw, decide_eq_false (by omega), Bool.false_and, Bool.false_and]
  exact Nat.lt_pow_two_of_testBit _ h
/-- what the question who is open rests on -/
def pl_sx0 (A : pl_A) (Z : ml_M) : Prop := pl_Sh Z ∧ ml_I Z 12 7 = nI (pl_N A 0 0 0) ∧ (ml_K Z (ml_R Z 12 5) = (30, 8) ∧ ∀ t, t < pl_N A 0 1 0 → 60 < ml_R Z (ml_R Z 12 5) t ∧ ml_K Z (ml_R Z (ml_R Z 12 5) t) = (9, 0) ∧ ml_I Z (ml_R Z (ml_R Z 12 5) t) 2 = nI (pl_abv A t) ∧ ml_I Z (ml_R Z (ml_R Z 12 5) t) 3 = nI (pl_blw A t)) ∧
  ∀ l, l < pl_N A 0 0 0 → ml_I Z 18 l = nI (pl_set (fun o => decide (pl_N A 1 l 1 ≤ pl_N A 1 o 1)) (pl_N A 0 0 0)) ∧ ml_I Z 19 l = nI (pl_set (fun o => decide (pl_N A 1 o 1 ≤ pl_N A 1 l 1)) (pl_N A 0 0 0))
theorem pl_openC0 {A : pl_A} {Z : ml_M} (hW : pl_W A) (hx : pl_sx0 A Z) {v : Int32} {a b d c : Nat → Int32} {w : List Nat} (hlen : w.length < pl_N A 0 1 0) (hw : ∀ l ∈ w, l < pl_N A 0 0 0) (hc : ∀ i, i < w.length → c i = nI (w.getD i 0)) : fX7_open 12 (nI w.length) (nI (pl_us w)) (pl_sy Z v a b d c) = some (nI (pl_opi A w w.length)) := by
  obtain ⟨hS, h7, ⟨ht1, ht2⟩, h18⟩ := hx
  have hww := hW.1
  unfold pl_Wc at hww
  obtain ⟨p1, p2⟩ := pl_pown (show pl_N A 0 0 0 ≤ 8 by omega)
  obtain ⟨q1, q2⟩ := pl_pown (show pl_N A 0 1 0 ≤ 8 by omega)
  obtain ⟨u1, u2, u3, u4⟩ := ht2 w.length hlen
  have k12 := pl_k12 hS
  have k18 := pl_k18 hS
  have k19 := pl_k19 hS
  have k20 := pl_k20 hS
  have r10 := pl_r12_10 hS
  have r11 := pl_r12_11 hS
  have r12 := pl_r12_12 hS
  have i7 : ml_I (pl_sy Z v a b d c) 12 7 = nI (pl_N A 0 0 0) := by rw [pl_sy_12, pl_up_n _ _ (by decide), h7]
  have i18 : ml_I (pl_sy Z v a b d c) 18 = ml_I Z 18 := pl_sy_o _ _ _ _ _ _ (by decide)
  have i19 : ml_I (pl_sy Z v a b d c) 19 = ml_I Z 19 := pl_sy_o _ _ _ _ _ _ (by decide)
  have i20 := pl_sy_20 Z v a b d c
  have it : ml_I (pl_sy Z v a b d c) (ml_R Z (ml_R Z 12 5) w.length) = ml_I Z (ml_R Z (ml_R Z 12 5) w.length) := pl_sy_o _ _ _ _ _ _ (by omega)
  have hus := pl_us_lt hw
  have hsub : pl_us w &&& (2 ^ pl_N A 0 0 0 - 1) = pl_us w := by
    apply Nat.eq_of_testBit_eq
    intro l
    rw [Nat.testBit_and, pl_full_tb, pl_us_tb]
    by_cases h2 : l ∈ w
    · rw [decide_eq_true h2, decide_eq_true (hw l h2)]; rfl
    · rw [decide_eq_false h2, Bool.false_and]
  have hst : ((1 : Int32) <<< (nI (pl_N A 0 0 0) &&& 31) - 1) &&& (nI (pl_us w) ^^^ (-1 : Int32)) = nI (pl_opi A w 0) := by
    rw [pl_shl1 (by omega), show nI (2 ^ pl_N A 0 0 0) - 1 = nI (2 ^ pl_N A 0 0 0 - 1) from pl_sub p1, pl_andn hsub]; rfl
  have hbl := pl_blw_lt hW w.length
  have hab := pl_abv_lt hW w.length
  have hl := pl_for (F := fun fu i (_ : Unit) => fX7_open_24 fu 12 (nI w.length) (nI (pl_opi A w i)) (ml_R Z (ml_R Z 12 5) w.length) (nI i) (pl_sy Z v a b d c)) (R := some (nI (pl_opi A w w.length))) w.length (fun _ => ()) (fun fu i hi => ?_) (fun fu => ?_) ml_fu (by rw [pl_fu]; omega)
  · have hin : ml_in (pl_sy Z v a b d c) (ml_R Z 12 5) 30 (nI w.length) := by
      rw [pl_in (by omega), pl_sy_K, ht1]; exact ⟨rfl, by show w.length < 8; omega⟩
    have ks12 : ml_K (pl_sy Z v a b d c) 12 = (7, 0) := k12
    unfold fX7_open
    rw [ks12, if_pos rfl, i7, hst, pl_let, pl_let, pl_sy_R, if_pos hin, pl_let, nI_clamp (by omega)]
    exact hl
  · show fX7_open_24 (fu + 1) 12 (nI w.length) (nI (pl_opi A w i)) (ml_R Z (ml_R Z 12 5) w.length) (nI i) (pl_sy Z v a b d c) = fX7_open_24 fu 12 (nI w.length) (nI (pl_opi A w (i + 1))) (ml_R Z (ml_R Z 12 5) w.length) (nI (i + 1)) (pl_sy Z v a b d c)
    have hwi : w.getD i 0 < pl_N A 0 0 0 := by
      refine hw _ ?_
      rw [List.getD_eq_getElem?_getD, List.getElem?_eq_getElem hi]
      exact List.getElem_mem hi
    have hci := hc i hi
    obtain ⟨g18, g19⟩ := h18 _ hwi
    have g18' : ml_I Z 18 (w.getD i 0) = nI (pl_ne A (w.getD i 0)) := g18
    have g19' : ml_I Z 19 (w.getD i 0) = nI (pl_nlt A (w.getD i 0)) := g19
    have hb1 := fun M => (pl_has (s := pl_blw A w.length) (t := i) (by omega) (by omega) M).1
    have hb2 := fun M => (pl_has (s := pl_abv A w.length) (t := i) (by omega) (by omega) M).1
    -- the second half
    have h58 : ∀ x : Nat, fX7_open_58 (fX7_open_24 fu) 12 (nI w.length) (nI x) (ml_R Z (ml_R Z 12 5) w.length) (nI i) (pl_sy Z v a b d c) = fX7_open_24 fu 12 (nI w.length) (nI (if (pl_abv A w.length).testBit i = true then x &&& pl_nlt A (w.getD i 0) else x)) (ml_R Z (ml_R Z 12 5) w.length) (nI (i + 1)) (pl_sy Z v a b d c) := fun x => by
      by_cases hab1 : (pl_abv A w.length).testBit i = true
      · have hz : ∀ (M : ml_M) (f : Int32 → Option Int32), ml_b1 (fX10_has (nI (pl_abv A w.length)) (nI i) M) f = f 1 := fun M f => by rw [hb2, hab1]; rfl
        rw [if_pos hab1]
        simp (disch := omega) only [fX7_open_58, fX7_open_86, pl_sy_K, u2, if_true, it, u3, ↓hz, ↓pl_let, pl_b1, pl_b2, ↓reduceIte, pl_10, if_false, k12, k19, k20, pl_sy_R, r11, r12, pl_in, nI_clamp, show i < 8 by omega, show w.getD i 0 < 8 by omega, and_self, i19, i20, hci, g19', pl_and, nI_1]
      · have hab0 : (pl_abv A w.length).testBit i = false := by simpa using hab1
        have hz : ∀ (M : ml_M) (f : Int32 → Option Int32), ml_b1 (fX10_has (nI (pl_abv A w.length)) (nI i) M) f = f 0 := fun M f => by rw [hb2, hab0]; rfl
        rw [if_neg hab1]
        simp (disch := omega) only [fX7_open_58, fX7_open_86, pl_sy_K, u2, if_true, it, u3, ↓hz, ↓pl_let, pl_b1, pl_b2, ↓reduceIte, nI_1]
    rw [pl_opi1]
    by_cases hbl1 : (pl_blw A w.length).testBit i = true
    · have hz : ∀ (M : ml_M) (f : Int32 → Option Int32), ml_b1 (fX10_has (nI (pl_blw A w.length)) (nI i) M) f = f 1 := fun M f => by rw [hb1, hbl1]; rfl
      rw [if_pos hbl1, ← h58]
      simp (disch := omega) only [fX7_open_24, nI_leI, show ¬ w.length ≤ i by omega, if_false, pl_sy_K, u2, if_true, it, u4, ↓hz, ↓pl_let, pl_b1, pl_b2, ↓reduceIte, pl_10, k12, k18, k20, pl_sy_R, r10, r12, pl_in, nI_clamp, show i < 8 by omega, show w.getD i 0 < 8 by omega, and_self, i18, i20, hci, g18', pl_and]
    · have hbl0 : (pl_blw A w.length).testBit i = false := by simpa using hbl1
      have hz : ∀ (M : ml_M) (f : Int32 → Option Int32), ml_b1 (fX10_has (nI (pl_blw A w.length)) (nI i) M) f = f 0 := fun M f => by rw [hb1, hbl0]; rfl
      rw [if_neg hbl1, ← h58]
      simp (disch := omega) only [fX7_open_24, nI_leI, show ¬ w.length ≤ i by omega, if_false, pl_sy_K, u2, if_true, it, u4, ↓hz, ↓pl_let, pl_b1, pl_b2, ↓reduceIte]
  · simp (disch := omega) only [fX7_open_24, nI_leI, Nat.le_refl, if_true]
theorem pl_openC {A : pl_A} {Z : ml_M} (hW : pl_W A) (hx : pl_sx A Z) {v : Int32} {a b d c : Nat → Int32} {w : List Nat} (hlen : w.length < pl_N A 0 1 0) (hw : ∀ l ∈ w, l < pl_N A 0 0 0) (hc : ∀ i, i < w.length → c i = nI (w.getD i 0)) : fX7_open 12 (nI w.length) (nI (pl_us w)) (pl_sy Z v a b d c) = some (nI (pl_opi A w w.length)) :=
  pl_openC0 hW ⟨hx.1, hx.2.2.1, hx.2.2.2.1, hx.2.2.2.2.2.2⟩ hlen hw hc

/-! LAYS: the reference's tables. -/
def pl_bk (A : pl_A) (m : ml_M) : Prop := ml_I m 33 37 = nI (pl_N A 0 5 0) ∧ ∀ i, i < pl_N A 0 5 0 → ∀ k, k < 4 → ml_I m 53 (4 * i + k) = nI (pl_N A 6 i k)
theorem pl_joinM2 {A : pl_A} {m : ml_M} (hS : pl_Sh m) (hW : pl_W A) (hb : pl_bk A m) {i j : Nat} (hi : i < pl_N A 0 5 0) (hj : j < pl_N A 0 5 0) : fX11_doesJoin 33 (nI i) (nI j) m = some (if pl_jn A i j then 1 else 0) := by
  have hw := hW.1
  unfold pl_Wc at hw
  have wi := hW.2.2.2.2.2.2.1 i hi
  have wj := hW.2.2.2.2.2.2.1 j hj
  have qi := hb.2 i hi
  have qj := hb.2 j hj
  have i0 := qi 0 (by decide)
  have i1 := qi 1 (by decide)
  have i3 := qi 3 (by decide)
  have j0 := qj 0 (by decide)
  have j1 := qj 1 (by decide)
  have j2 := qj 2 (by decide)
  rw [Nat.add_zero] at i0 j0
  simp (disch := omega) only [fX11_doesJoin, ↓pl_let, pl_b1, pl_b2, ↓reduceIte, pl_l1, pl_l2, pl_l3, pl_l4, pl_l5, pl_l6, pl_l7, pl_l8, pl_l9, pl_l10, pl_l11, pl_l12, pl_l13, pl_l14, pl_l15, pl_l16, pl_l17, pl_l18, pl_l19, pl_l20, pl_l21, pl_l22, pl_l23, pl_l24, pl_l25, pl_l26, pl_l27, pl_l28, pl_l29, pl_l30, pl_l31, pl_l32, pl_l33, pl_l34, pl_l35, pl_l36, pl_l37, pl_l38, pl_l39, pl_l40, pl_l41, pl_l42, pl_l43, pl_l44, pl_l45, pl_l46, pl_l47, pl_l48, pl_l49, pl_l50, pl_l51, pl_l52, pl_l53, pl_l54, pl_l55, pl_l56, pl_l57, pl_l58, pl_l59, pl_l60, pl_l61, pl_l62, pl_l63, pl_l64, pl_l99, pl_l100, pl_l119, pl_l120, pl_l255, pl_l256, pl_l999, pl_l1000, pl_l1023, pl_l1024, pl_l1111, pl_l5555, pl_l10240, pl_k33 hS, pl_k34 hS, pl_k35 hS, pl_k36 hS, pl_k37 hS, pl_k38 hS, pl_k39 hS, pl_k40 hS, pl_k41 hS, pl_k42 hS, pl_k43 hS, pl_k44 hS, pl_k45 hS, pl_k46 hS, pl_k47 hS, pl_k48 hS, pl_k49 hS, pl_k50 hS, pl_k51 hS, pl_k52 hS, pl_k53 hS, pl_k54 hS, pl_k55 hS, pl_k56 hS, pl_k57 hS, pl_k58 hS, pl_k59 hS, pl_k60 hS, pl_r33_1 hS, pl_r33_4 hS, pl_r33_5 hS, pl_r33_6 hS, pl_r33_7 hS, pl_r33_8 hS, pl_r33_12 hS, pl_r33_13 hS, pl_r33_14 hS, pl_r33_20 hS, pl_r33_21 hS, pl_r33_22 hS, pl_r33_25 hS, pl_r33_26 hS, pl_r33_27 hS, pl_r33_29 hS, pl_r33_31 hS, pl_r33_35 hS, pl_r33_36 hS, pl_r33_38 hS, pl_r33_39 hS, pl_r33_40 hS, pl_r33_42 hS, pl_r33_43 hS, pl_r33_44 hS, pl_r33_45 hS, pl_r33_47 hS, pk_mul, nI_add, pl_in, nI_clamp, show 4 * i + 3 < 40 by omega, show 4 * j + 2 < 40 by omega, show 4 * i < 40 by omega, show 4 * j < 40 by omega, show 4 * i + 1 < 40 by omega, show 4 * j + 1 < 40 by omega, and_self, if_true, i0, i1, i3, j0, j1, j2, nI_eq, pl_l1000]
  unfold pl_jn
  by_cases h1 : pl_N A 6 i 3 + pl_N A 6 j 2 = 1000 <;> by_cases h2 : pl_N A 6 i 0 = pl_N A 6 j 0 <;> by_cases h3 : pl_N A 6 i 1 = pl_N A 6 j 1 <;> simp [h1, h2, h3]
theorem pl_bk.wI {A : pl_A} {m : ml_M} (h : pl_bk A m) {a : Nat} (g : Nat → Int32) (ha : a ≠ 33 ∧ a ≠ 53) : pl_bk A (pl_wI m a g) := by
  unfold pl_bk
  rw [pl_I_wI, if_neg (fun z => ha.1 z.symm), pl_I_wI, if_neg (fun z => ha.2 z.symm)]
  exact h
theorem pl_s5554 (m : ml_M) (g : Nat → Int32) (k : Nat) (v : Int32) : ml_sI (pl_wI m 55 g) 54 k v = pl_wI (ml_sI m 54 k v) 55 g := pl_sIsw m (by decide) g k v
/-- one step of the fewest, at a cell -/
theorem pl_addGap {m : ml_M} (hS : pl_Sh m) {g h : Nat → Int32} {cell fr a1 a2 v0 w0 more : Nat} (hcell : cell < 10240) (hfr : fr < 10240) (hne : fr ≠ cell) (hg : g fr = nI v0) (hh : h fr = nI w0) (ha : a1 ≤ 100) (hv : v0 + more ≤ 1000) :
    fX11_addGap 33 (nI cell) (nI fr) (nI more) (pl_wI (pl_wI m 54 (pl_up g cell (nI a1))) 55 (pl_up h cell (nI a2))) = some (pl_wI (pl_wI m 54 (pl_up g cell (nI (if v0 + more < a1 then v0 + more else a1)))) 55 (pl_up h cell (nI (if v0 + more < a1 then w0 else if v0 + more = a1 then a2 + w0 else a2)))) := by
  have hI54 : ∀ g h, ml_I (pl_wI (pl_wI m 54 g) 55 h) 54 = g := fun g h => by rw [pl_I_wI, if_neg (by decide), pl_I_wI, if_pos rfl]
  have hI55 : ∀ g h, ml_I (pl_wI (pl_wI m 54 g) 55 h) 55 = h := fun g h => by rw [pl_I_wI, if_pos rfl]
  have k33 := pl_k33 hS
  have k54 := pl_k54 hS
  have k55 := pl_k55 hS
  have r39 := pl_r33_39 hS
  have r40 := pl_r33_40 hS
  have hg' : ∀ x, pl_up g cell x fr = nI v0 := fun x => by rw [pl_up_n _ _ hne]; exact hg
  have hh' : ∀ x, pl_up h cell x fr = nI w0 := fun x => by rw [pl_up_n _ _ hne]; exact hh
  by_cases c1 : v0 + more < a1
  · rw [if_pos c1, if_pos c1]
    have z0 : (0 : Int32) + nI w0 = nI w0 := Int32.zero_add _
    simp (disch := omega) only [fX11_addGap, fX11_addGap_36, fX11_addGap_64, ↓pl_let, pl_b1, pl_b2, ↓reduceIte, pl_K_wI, pl_K_sI, k33, k54, k55, if_true, pl_R_wI, pl_R_sI, r39, r40, pl_in, nI_clamp, hcell, hfr, and_self, hI54, hI55, hg', hh', nI_add, pl_up_k, nI_leI, show ¬ a1 ≤ v0 + more by omega, if_false, pl_s5554, pl_wI_sI, pl_up_up, z0]
  · rw [if_neg c1, if_neg c1]
    by_cases c2 : v0 + more = a1
    · rw [if_pos c2]
      simp (disch := omega) only [fX11_addGap, fX11_addGap_36, fX11_addGap_64, ↓pl_let, pl_b1, pl_b2, ↓reduceIte, pl_K_wI, k33, k54, k55, if_true, pl_R_wI, r39, r40, pl_in, nI_clamp, hcell, hfr, and_self, hI54, hI55, hg', hh', nI_add, pl_up_k, nI_leI, show a1 ≤ v0 + more by omega, nI_eq, eq_true c2, pl_wI_sI, pl_up_up]
    · rw [if_neg c2]
      simp (disch := omega) only [fX11_addGap, fX11_addGap_36, fX11_addGap_64, ↓pl_let, pl_b1, pl_b2, ↓reduceIte, pl_K_wI, k33, k54, k55, if_true, pl_R_wI, r39, r40, pl_in, nI_clamp, hcell, hfr, and_self, hI54, hI55, hg', hh', nI_add, pl_up_k, nI_leI, show a1 ≤ v0 + more by omega, nI_eq, c2, if_false, Int32.add_zero, pl_wI_sI, pl_up_up]
def pl_ge (A : pl_A) (set i : Nat) : Nat × Nat := if set.testBit i = true then pl_gw A set i else (100, 0)
def pl_fe (n s l y : Nat) : Bool := decide (y % 10 < n) && decide (y / 10 < 2 ^ n) && (decide (s < y / 10) || (decide (y / 10 = s) && decide (y % 10 < l)))
def pl_q1 (A : pl_A) (g0 : Nat → Int32) (s l : Nat) : Nat → Int32 := fun y => if pl_fe (pl_N A 0 5 0) s l y = true then nI (pl_ge A (y / 10) (y % 10)).1 else g0 y
def pl_q2 (A : pl_A) (g0 : Nat → Int32) (s l : Nat) : Nat → Int32 := fun y => if pl_fe (pl_N A 0 5 0) s l y = true then nI (pl_ge A (y / 10) (y % 10)).2 else g0 y
theorem pl_fe_in {n s l set last : Nat} (hn : n ≤ 10) (h1 : last < n) (h2 : set < 2 ^ n) (h4 : s < set ∨ set = s ∧ last < l) : pl_fe n s l (10 * set + last) = true := by
  unfold pl_fe
  rw [show (10 * set + last) / 10 = set by omega, show (10 * set + last) % 10 = last by omega, decide_eq_true h1, decide_eq_true h2]
  rcases h4 with h4 | h4
  · rw [decide_eq_true h4]; rfl
  · rw [decide_eq_true h4.1, decide_eq_true h4.2]; simp
theorem pl_fe_up {n s l : Nat} (hn : n ≤ 10) (h1 : l < n) (h2 : s < 2 ^ n) (y : Nat) : pl_fe n s (l + 1) y = (decide (y = 10 * s + l) || pl_fe n s l y) := by
  by_cases h : y = 10 * s + l
  · rw [decide_eq_true h, Bool.true_or, h]
    exact pl_fe_in hn h1 h2 (Or.inr ⟨rfl, by omega⟩)
  · rw [decide_eq_false h, Bool.false_or]
    unfold pl_fe
    have e : (decide (y / 10 = s) && decide (y % 10 < l + 1)) = (decide (y / 10 = s) && decide (y % 10 < l)) := by
      by_cases c : y / 10 = s
      · have : (y % 10 < l + 1) = (y % 10 < l) := by apply propext; omega
        simp only [this]
      · rw [decide_eq_false c, Bool.false_and, Bool.false_and]
    rw [e]
theorem pl_fe_dn {n s : Nat} (hs : 0 < s) (y : Nat) : pl_fe n s n y = pl_fe n (s - 1) 0 y := by
  unfold pl_fe
  by_cases h1 : y % 10 < n
  · have e : (decide (s < y / 10) || (decide (y / 10 = s) && decide (y % 10 < n))) = (decide (s - 1 < y / 10) || (decide (y / 10 = s - 1) && decide (y % 10 < 0))) := by
      rw [decide_eq_true h1, Bool.and_true, decide_eq_false (Nat.not_lt_zero _), Bool.and_false, Bool.or_false]
      by_cases c1 : s < y / 10
      · rw [decide_eq_true c1, decide_eq_true (show s - 1 < y / 10 by omega)]; rfl
      · by_cases c2 : y / 10 = s
        · rw [decide_eq_true c2, Bool.or_true, decide_eq_true (by omega)]
        · rw [decide_eq_false c1, decide_eq_false c2, decide_eq_false (by omega)]; rfl
    rw [e]
  · rw [decide_eq_false h1]; rfl
theorem pl_fe_0 {n : Nat} (y : Nat) : pl_fe n (2 ^ n - 1) 0 y = false := by
  unfold pl_fe
  rw [decide_eq_false (Nat.not_lt_zero _), Bool.and_false, Bool.or_false]
  by_cases h : y / 10 < 2 ^ n
  · rw [decide_eq_false (show ¬ 2 ^ n - 1 < y / 10 by omega), Bool.and_false]
  · rw [decide_eq_false h, Bool.and_false, Bool.false_and]
theorem pl_am_100 (q : Nat → Bool) (v w : Nat → Nat) (n : Nat) : (pl_am q v w n).1 ≤ 100 := by
  induction n with
  | zero => exact Nat.le_refl _
  | succ n ih =>
    rw [pl_am1]
    split
    · exact ih
    · split
      · rename_i h; show v n ≤ 100; omega
      · split
        · exact ih
        · exact ih
/-- one cell of the reference's tables -/
theorem pl_cellM {A : pl_A} {m : ml_M} (hS : pl_Sh m) (hW : pl_W A) (hb : pl_bk A m) {n s i : Nat} (hnA : n = pl_N A 0 5 0) (hs : s < 2 ^ n) (hi : i < n) {g h : Nat → Int32} (hg : ∀ j, j < n → s.testBit j = false → g (10 * (s ||| 2 ^ j) + j) = nI (pl_gw A (s ||| 2 ^ j) j).1 ∧ h (10 * (s ||| 2 ^ j) + j) = nI (pl_gw A (s ||| 2 ^ j) j).2) (K11 : Nat → Int32 → Int32 → ml_M → Option ml_M) (K17 : Nat → Int32 → Int32 → Int32 → ml_M → Option ml_M) :
    fX11_layGaps_71 K11 K17 ml_fu 33 (nI (2 ^ n - 1)) (nI s) (nI i) (nI (10 * s + i)) 0 (pl_wI (pl_wI m 54 (pl_up g (10 * s + i) (if s = 2 ^ n - 1 then 0 else 100))) 55 (pl_up h (10 * s + i) (if s = 2 ^ n - 1 then 1 else 0))) = K17 33 (nI (2 ^ n - 1)) (nI s) (nI (i + 1)) (pl_wI (pl_wI m 54 (pl_up g (10 * s + i) (nI (pl_ge A s i).1))) 55 (pl_up h (10 * s + i) (nI (pl_ge A s i).2))) := by
  have hw := hW.1
  unfold pl_Wc at hw
  have hn10 : n ≤ 10 := by omega
  have p2 : 2 ^ n ≤ 1024 := Nat.le_trans (Nat.pow_le_pow_right (by decide) hn10) (by decide)
  have e1 : (1 : Int32) = nI 1 := rfl
  have e10 : (10 : Int32) = nI 10 := rfl
  have e31 : (31 : Int32) = nI 31 := rfl
  have h37 : ∀ g h, ml_I (pl_wI (pl_wI m 54 g) 55 h) 33 37 = nI n := fun g h => by rw [hnA]; exact ((hb.wI g (by decide)).wI h (by decide)).1
  have k33 := pl_k33 hS
  have hhi := fun M => (pl_has (s := s) (t := i) (by omega) (by omega) M).2
  by_cases hq : s.testBit i = true
  · obtain ⟨d, hd⟩ : ∃ d, d = n - pl_bc s n := ⟨_, rfl⟩
    have hble := pl_bc_le s n
    obtain ⟨am, ham⟩ : ∃ am : Nat → Nat × Nat, am = fun j => if d = 0 then (0, 1) else pl_am (fun j => s.testBit j) (pl_gs A (d - 1) s (pl_jn A i)) (pl_gt2 A (d - 1) s) j := ⟨_, rfl⟩
    have hamn : am n = pl_ge A s i := by
      unfold pl_ge
      rw [if_pos hq, ham]
      unfold pl_gw
      show (if d = 0 then (0, 1) else _) = _
      rw [← hnA, ← hd]
      by_cases hd0 : d = 0
      · rw [if_pos hd0, hd0]; rfl
      · obtain ⟨e, he⟩ : ∃ e, d = e + 1 := ⟨d - 1, by omega⟩
        rw [if_neg hd0, he, pl_G_am, ← hnA]; rfl
    have hfs : (s = 2 ^ n - 1) = (d = 0) := by
      have := pl_bc_full hs
      apply propext
      constructor
      · intro z; have := this.mpr z; omega
      · intro z; exact this.mp (by omega)
    have ha0 : am 0 = if d = 0 then (0, 1) else (100, 0) := by rw [ham]; rfl
    have hst1 : (if s = 2 ^ n - 1 then (0 : Int32) else 100) = nI (am 0).1 := by
      rw [ha0]; simp only [hfs]; split <;> rfl
    have hst2 : (if s = 2 ^ n - 1 then (1 : Int32) else 0) = nI (am 0).2 := by
      rw [ha0]; simp only [hfs]; split <;> rfl
    rw [hst1, hst2, ← hamn]
    refine pl_for (F := fun fu j (_ : Unit) => fX11_layGaps_71 K11 K17 fu 33 (nI (2 ^ n - 1)) (nI s) (nI i) (nI (10 * s + i)) (nI j) (pl_wI (pl_wI m 54 (pl_up g (10 * s + i) (nI (am j).1))) 55 (pl_up h (10 * s + i) (nI (am j).2)))) (R := K17 33 (nI (2 ^ n - 1)) (nI s) (nI (i + 1)) (pl_wI (pl_wI m 54 (pl_up g (10 * s + i) (nI (am n).1))) 55 (pl_up h (10 * s + i) (nI (am n).2)))) n (fun _ => ()) (fun fu j hj => ?_) (fun fu => ?_) ml_fu (by rw [pl_fu]; omega)
    · show fX11_layGaps_71 K11 K17 (fu + 1) 33 (nI (2 ^ n - 1)) (nI s) (nI i) (nI (10 * s + i)) (nI j) (pl_wI (pl_wI m 54 (pl_up g (10 * s + i) (nI (am j).1))) 55 (pl_up h (10 * s + i) (nI (am j).2))) = fX11_layGaps_71 K11 K17 fu 33 (nI (2 ^ n - 1)) (nI s) (nI i) (nI (10 * s + i)) (nI (j + 1)) (pl_wI (pl_wI m 54 (pl_up g (10 * s + i) (nI (am (j + 1)).1))) 55 (pl_up h (10 * s + i) (nI (am (j + 1)).2)))
      have hz1 : ∀ (M : ml_M) (f : Int32 → Option ml_M), ml_b1 (fX11_has (nI s) (nI i) M) f = f 1 := fun M f => by rw [hhi, hq]; rfl
      have hhj := fun M => (pl_has (s := s) (t := j) (by omega) (by omega) M).2
      by_cases hqj : s.testBit j = true
      · have he : am (j + 1) = am j := by
          rw [ham]
          show (if d = 0 then (0, 1) else _) = (if d = 0 then (0, 1) else _)
          by_cases hd0 : d = 0
          · rw [if_pos hd0, if_pos hd0]
          · rw [if_neg hd0, if_neg hd0, pl_am1, if_pos hqj]
        have hz2 : ∀ (M : ml_M) (f : Int32 → Option ml_M), ml_b1 (fX11_has (nI s) (nI j) M) f = f 1 := fun M f => by rw [hhj, hqj]; rfl
        rw [he]
        simp (disch := omega) only [fX11_layGaps_71, fX11_layGaps_130, ↓hz1, ↓hz2, ↓pl_let, pl_b1, pl_b2, ↓reduceIte, pl_K_wI, k33, if_true, h37, nI_leI, show ¬ n ≤ j by omega, if_false, pl_10, nI_1]
      · have hq0 : s.testBit j = false := by simpa using hqj
        have hz2 : ∀ (M : ml_M) (f : Int32 → Option ml_M), ml_b1 (fX11_has (nI s) (nI j) M) f = f 0 := fun M f => by rw [hhj, hq0]; rfl
        have hd0 : ¬ d = 0 := fun z => by
          rw [← hfs] at z
          rw [z, pl_full_tb, decide_eq_true hj] at hq0; cases hq0
        obtain ⟨e, he⟩ : ∃ e, d = e + 1 := ⟨d - 1, by omega⟩
        obtain ⟨hg1, hg2⟩ := hg j hj hq0
        rw [pl_gw_ins (A := A) (d := e) hq0 (by omega) (by rw [← hnA]; omega)] at hg1 hg2
        have hlt : s ||| 2 ^ j < 2 ^ n := pl_ins_lt hs hj
        have hgt := pl_ins_gt hq0
        have hvb := pl_G_b A e (s ||| 2 ^ j) (pl_jn A j) (by omega) (by rw [← hnA]; exact hlt) (by rw [← hnA, pl_bc_ins hq0 hj]; omega)
        have hgs : pl_gs A e s (pl_jn A i) j = (pl_G A e (s ||| 2 ^ j) (pl_jn A j)).1 + (if pl_jn A i j then 0 else 1) := rfl
        have hgt2 : pl_gt2 A e s j = (pl_G A e (s ||| 2 ^ j) (pl_jn A j)).2 := rfl
        have ham1 : ∀ k, am k = pl_am (fun j => s.testBit j) (pl_gs A e s (pl_jn A i)) (pl_gt2 A e s) k := fun k => by
          rw [ham]
          show (if d = 0 then (0, 1) else _) = _
          rw [if_neg hd0, show d - 1 = e by omega]
        have hsj : am (j + 1) = if pl_gs A e s (pl_jn A i) j < (am j).1 then (pl_gs A e s (pl_jn A i) j, pl_gt2 A e s j) else if pl_gs A e s (pl_jn A i) j = (am j).1 then ((am j).1, (am j).2 + pl_gt2 A e s j) else am j := by
          rw [ham1, ham1, pl_am1, if_neg hqj]
        have h100 : (am j).1 ≤ 100 := by rw [ham1]; exact pl_am_100 _ _ _ _
        have hc1 : (am (j + 1)).1 = if pl_gs A e s (pl_jn A i) j < (am j).1 then pl_gs A e s (pl_jn A i) j else (am j).1 := by
          rw [hsj]
          split
          · rfl
          · split <;> rfl
        have hc2 : (am (j + 1)).2 = if pl_gs A e s (pl_jn A i) j < (am j).1 then pl_gt2 A e s j else if pl_gs A e s (pl_jn A i) j = (am j).1 then (am j).2 + pl_gt2 A e s j else (am j).2 := by
          rw [hsj]
          split
          · rfl
          · split <;> rfl
        rw [hc1, hc2]
        have hidx : (nI 10 : Int32) * nI (s ||| 2 ^ j) + nI j = nI (10 * (s ||| 2 ^ j) + j) := by rw [pk_mul, nI_add]
        have hbm := fun g h => (hb.wI (a := 54) g (by decide)).wI (a := 55) h (by decide)
        have hjn := pl_joinM2 (A := A) (m := pl_wI (pl_wI m 54 (pl_up g (10 * s + i) (nI (am j).1))) 55 (pl_up h (10 * s + i) (nI (am j).2))) (i := i) (j := j) ((hS.wI 54 _).wI 55 _) hW (hbm _ _) (by omega) (by omega)
        cases hjb : pl_jn A i j
        · rw [hjb] at hgs hjn
          have had := pl_addGap hS (g := g) (h := h) (cell := 10 * s + i) (fr := 10 * (s ||| 2 ^ j) + j) (a1 := (am j).1) (a2 := (am j).2) (v0 := (pl_G A e (s ||| 2 ^ j) (pl_jn A j)).1) (w0 := pl_gt2 A e s j) (more := 1) (by omega) (by omega) (by omega) hg1 hg2 h100 (by omega)
          have hgs1 : (pl_G A e (s ||| 2 ^ j) (pl_jn A j)).1 + 1 = pl_gs A e s (pl_jn A i) j := hgs.symm
          rw [hgs1] at had
          have hz3 : ∀ (f : Int32 → Option ml_M), ml_b1 (fX11_doesJoin 33 (nI i) (nI j) (pl_wI (pl_wI m 54 (pl_up g (10 * s + i) (nI (am j).1))) 55 (pl_up h (10 * s + i) (nI (am j).2)))) f = f 0 := fun f => by rw [hjn]; rfl
          simp (disch := omega) only [fX11_layGaps_71, fX11_layGaps_127, fX11_layGaps_130, ↓hz1, ↓hz2, ↓hz3, ↓pl_let, pl_b1, pl_b2, ↓reduceIte, pl_K_wI, k33, if_true, h37, nI_leI, show ¬ n ≤ j by omega, if_false, pl_10, e1, pl_eq0, Nat.reduceEqDiff, e10, e31, pl_and, pl_shl2, pl_or, hidx, had, nI_add]
        · rw [hjb] at hgs hjn
          have had := pl_addGap hS (g := g) (h := h) (cell := 10 * s + i) (fr := 10 * (s ||| 2 ^ j) + j) (a1 := (am j).1) (a2 := (am j).2) (v0 := (pl_G A e (s ||| 2 ^ j) (pl_jn A j)).1) (w0 := pl_gt2 A e s j) (more := 0) (by omega) (by omega) (by omega) hg1 hg2 h100 (by omega)
          have hgs1 : (pl_G A e (s ||| 2 ^ j) (pl_jn A j)).1 + 0 = pl_gs A e s (pl_jn A i) j := hgs.symm
          rw [hgs1, nI_0] at had
          have hz3 : ∀ (f : Int32 → Option ml_M), ml_b1 (fX11_doesJoin 33 (nI i) (nI j) (pl_wI (pl_wI m 54 (pl_up g (10 * s + i) (nI (am j).1))) 55 (pl_up h (10 * s + i) (nI (am j).2)))) f = f 1 := fun f => by rw [hjn]; rfl
          simp (disch := omega) only [fX11_layGaps_71, fX11_layGaps_127, fX11_layGaps_130, ↓hz1, ↓hz2, ↓hz3, ↓pl_let, pl_b1, pl_b2, ↓reduceIte, pl_K_wI, k33, if_true, h37, nI_leI, show ¬ n ≤ j by omega, if_false, pl_10, e1, pl_eq0, Nat.reduceEqDiff, e10, e31, pl_and, pl_shl2, pl_or, hidx, had, nI_add]
    · simp (disch := omega) only [fX11_layGaps_71, fX11_layGaps_136, ↓pl_let, pl_b1, pl_b2, ↓reduceIte, pl_K_wI, k33, if_true, h37, nI_leI, Nat.le_refl, nI_1]
  · have hq0 : s.testBit i = false := by simpa using hq
    have hfs : ¬ s = 2 ^ n - 1 := fun z => by rw [z, pl_full_tb, decide_eq_true hi] at hq0; cases hq0
    have hz1 : ∀ (M : ml_M) (f : Int32 → Option ml_M), ml_b1 (fX11_has (nI s) (nI i) M) f = f 0 := fun M f => by rw [hhi, hq0]; rfl
    have hge : pl_ge A s i = (100, 0) := by unfold pl_ge; rw [if_neg hq]
    rw [hge, if_neg hfs, if_neg hfs, pl_fu1]
    show fX11_layGaps_71 K11 K17 (4194303 + 1) 33 (nI (2 ^ n - 1)) (nI s) (nI i) (nI (10 * s + i)) 0 (pl_wI (pl_wI m 54 (pl_up g (10 * s + i) (nI 100))) 55 (pl_up h (10 * s + i) (nI 0))) = _
    simp (disch := omega) only [fX11_layGaps_71, fX11_layGaps_136, ↓hz1, ↓pl_let, pl_b1, pl_b2, ↓reduceIte, pl_K_wI, k33, if_true, h37, pl_leZ, show ¬ n = 0 by omega, if_false, nI_1]
theorem pl_gapsM {A : pl_A} {m : ml_M} (hS : pl_Sh m) (hW : pl_W A) (hb : pl_bk A m) : fX11_layGaps 33 m = some (pl_wI (pl_wI m 54 (pl_q1 A (ml_I m 54) 0 0)) 55 (pl_q2 A (ml_I m 55) 0 0)) := by
  have hw := hW.1
  unfold pl_Wc at hw
  obtain ⟨n, hnA⟩ : ∃ n, n = pl_N A 0 5 0 := ⟨_, rfl⟩
  have hn10 : n ≤ 10 := by omega
  obtain ⟨N, hN⟩ : ∃ N, N = 2 ^ n := ⟨_, rfl⟩
  have p1 : 1 ≤ N := by rw [hN]; exact Nat.one_le_two_pow
  have p2 : 2 ^ n ≤ 1024 := Nat.le_trans (Nat.pow_le_pow_right (by decide) hn10) (by decide)
  have e10 : (10 : Int32) = nI 10 := rfl
  have h37 : ∀ g h, ml_I (pl_wI (pl_wI m 54 g) 55 h) 33 37 = nI n := fun g h => by rw [hnA]; exact ((hb.wI g (by decide)).wI h (by decide)).1
  have h37m : ml_I m 33 37 = nI n := by rw [hnA]; exact hb.1
  have k33 := pl_k33 hS
  have k54 := pl_k54 hS
  have k55 := pl_k55 hS
  have r39 := pl_r33_39 hS
  have r40 := pl_r33_40 hS
  have ei : ∀ (K : Nat → Int32 → Int32 → ml_M → Option ml_M) (s : Nat), 0 < s → s < N → fX11_layGaps_17 K ml_fu 33 (nI (N - 1)) (nI s) 0 (pl_wI (pl_wI m 54 (pl_q1 A (ml_I m 54) s 0)) 55 (pl_q2 A (ml_I m 55) s 0)) = K 33 (nI (N - 1)) (nI (s - 1)) (pl_wI (pl_wI m 54 (pl_q1 A (ml_I m 54) (s - 1) 0)) 55 (pl_q2 A (ml_I m 55) (s - 1) 0)) := fun K s hs0 hs => by
    have hh := pl_for (F := fun fu i (_ : Unit) => fX11_layGaps_17 K fu 33 (nI (N - 1)) (nI s) (nI i) (pl_wI (pl_wI m 54 (pl_q1 A (ml_I m 54) s i)) 55 (pl_q2 A (ml_I m 55) s i))) (R := K 33 (nI (N - 1)) (nI (s - 1)) (pl_wI (pl_wI m 54 (pl_q1 A (ml_I m 54) (s - 1) 0)) 55 (pl_q2 A (ml_I m 55) (s - 1) 0))) n (fun _ => ()) (fun fu i hi => ?_) (fun fu => ?_) ml_fu (by rw [pl_fu]; omega)
    · exact hh
    · show fX11_layGaps_17 K (fu + 1) 33 (nI (N - 1)) (nI s) (nI i) (pl_wI (pl_wI m 54 (pl_q1 A (ml_I m 54) s i)) 55 (pl_q2 A (ml_I m 55) s i)) = fX11_layGaps_17 K fu 33 (nI (N - 1)) (nI s) (nI (i + 1)) (pl_wI (pl_wI m 54 (pl_q1 A (ml_I m 54) s (i + 1))) 55 (pl_q2 A (ml_I m 55) s (i + 1)))
      have hce := pl_cellM hS hW hb (n := n) (s := s) (i := i) hnA (by omega) hi (g := pl_q1 A (ml_I m 54) s i) (h := pl_q2 A (ml_I m 55) s i) (fun j hj hqj => by
        have hgt := pl_ins_gt hqj
        have hlt : s ||| 2 ^ j < 2 ^ n := pl_ins_lt (by omega) hj
        have hin := pl_fe_in (n := pl_N A 0 5 0) (s := s) (l := i) (set := s ||| 2 ^ j) (last := j) (by omega) (by omega) (by rw [← hnA]; exact hlt) (Or.inl hgt)
        have hge : pl_ge A (s ||| 2 ^ j) j = pl_gw A (s ||| 2 ^ j) j := by
          unfold pl_ge; rw [if_pos (by rw [pl_tb_ins]; simp)]
        unfold pl_q1 pl_q2
        rw [if_pos hin, if_pos hin, show (10 * (s ||| 2 ^ j) + j) / 10 = s ||| 2 ^ j by omega, show (10 * (s ||| 2 ^ j) + j) % 10 = j by omega, hge]
        exact ⟨rfl, rfl⟩) K (fX11_layGaps_17 K fu)
      have ht1 : pl_up (pl_q1 A (ml_I m 54) s i) (10 * s + i) (nI (pl_ge A s i).1) = pl_q1 A (ml_I m 54) s (i + 1) := by
        funext y
        unfold pl_q1 pl_up
        rw [pl_fe_up (by omega) (by omega) (by rw [← hnA]; omega)]
        by_cases hy : y = 10 * s + i
        · rw [if_pos hy, decide_eq_true hy, Bool.true_or, if_pos rfl, show y / 10 = s by omega, show y % 10 = i by omega]
        · rw [if_neg hy, decide_eq_false hy, Bool.false_or]
      have ht2 : pl_up (pl_q2 A (ml_I m 55) s i) (10 * s + i) (nI (pl_ge A s i).2) = pl_q2 A (ml_I m 55) s (i + 1) := by
        funext y
        unfold pl_q2 pl_up
        rw [pl_fe_up (by omega) (by omega) (by rw [← hnA]; omega)]
        by_cases hy : y = 10 * s + i
        · rw [if_pos hy, decide_eq_true hy, Bool.true_or, if_pos rfl, show y / 10 = s by omega, show y % 10 = i by omega]
        · rw [if_neg hy, decide_eq_false hy, Bool.false_or]
      rw [ht1, ht2, ← hN] at hce
      rw [← hce]
      have hidx : (10 : Int32) * nI s + nI i = nI (10 * s + i) := by rw [e10, pk_mul, nI_add]
      by_cases hf : s = N - 1
      · rw [if_pos hf, if_pos hf]
        simp (disch := omega) only [fX11_layGaps_17, fX11_layGaps_50, fX11_layGaps_67, ↓pl_let, pl_b1, pl_b2, ↓reduceIte, pl_K_wI, pl_K_sI, k33, k54, k55, if_true, h37, nI_leI, show ¬ n ≤ i by omega, if_false, hidx, pl_R_wI, pl_R_sI, r39, r40, nI_eq, eq_true hf, pl_in, nI_clamp, show 10 * s + i < 10240 by omega, and_self, pl_s5554, pl_wI_sI, pl_up_0]
      · rw [if_neg hf, if_neg hf]
        simp (disch := omega) only [fX11_layGaps_17, fX11_layGaps_50, fX11_layGaps_67, ↓pl_let, pl_b1, pl_b2, ↓reduceIte, pl_K_wI, pl_K_sI, k33, k54, k55, if_true, h37, nI_leI, show ¬ n ≤ i by omega, if_false, hidx, pl_R_wI, pl_R_sI, r39, r40, nI_eq, hf, pl_in, nI_clamp, show 10 * s + i < 10240 by omega, and_self, pl_s5554, pl_wI_sI, pl_up_0]
    · have ht1 : pl_q1 A (ml_I m 54) s n = pl_q1 A (ml_I m 54) (s - 1) 0 := by
        funext y
        unfold pl_q1
        rw [hnA, pl_fe_dn hs0]
      have ht2 : pl_q2 A (ml_I m 55) s n = pl_q2 A (ml_I m 55) (s - 1) 0 := by
        funext y
        unfold pl_q2
        rw [hnA, pl_fe_dn hs0]
      have hm1 : nI s + (-1 : Int32) = nI (s - 1) := by
        obtain ⟨e, he⟩ : ∃ e, s = e + 1 := ⟨s - 1, by omega⟩
        rw [he, pk_m1, Nat.add_sub_cancel]
      rw [ht1, ht2]
      simp (disch := omega) only [fX11_layGaps_17, fX11_layGaps_142, ↓pl_let, pl_b1, pl_b2, ↓reduceIte, pl_K_wI, k33, if_true, h37, nI_leI, Nat.le_refl, hm1]
  have ho := pl_for (F := fun fu j (_ : Unit) => fX11_layGaps_11 fu 33 (nI (N - 1)) (nI (N - 1 - j)) (pl_wI (pl_wI m 54 (pl_q1 A (ml_I m 54) (N - 1 - j) 0)) 55 (pl_q2 A (ml_I m 55) (N - 1 - j) 0))) (R := some (pl_wI (pl_wI m 54 (pl_q1 A (ml_I m 54) 0 0)) 55 (pl_q2 A (ml_I m 55) 0 0))) (N - 1) (fun _ => ()) (fun fu j hj => ?_) (fun fu => ?_) ml_fu (by rw [pl_fu]; omega)
  · have z1 : pl_q1 A (ml_I m 54) (N - 1) 0 = ml_I m 54 := by
      funext y
      unfold pl_q1
      rw [hN, hnA, pl_fe_0, if_neg (by decide)]
    have z2 : pl_q2 A (ml_I m 55) (N - 1) 0 = ml_I (pl_wI m 54 (ml_I m 54)) 55 := by
      funext y
      unfold pl_q2
      rw [hN, hnA, pl_fe_0, if_neg (by decide), pl_wI_0]
    rw [Nat.sub_zero, z1, z2, pl_wI_0, pl_wI_0] at ho
    have hsh : (1 : Int32) <<< (nI n &&& 31) - 1 = nI (N - 1) := by
      rw [pl_shl1 (by omega), ← hN]; exact pl_sub p1
    rw [← ho]
    simp (disch := omega) only [fX11_layGaps, ↓pl_let, pl_b1, pl_b2, ↓reduceIte, k33, if_true, h37m, hsh]
  · show fX11_layGaps_11 (fu + 1) 33 (nI (N - 1)) (nI (N - 1 - j)) (pl_wI (pl_wI m 54 (pl_q1 A (ml_I m 54) (N - 1 - j) 0)) 55 (pl_q2 A (ml_I m 55) (N - 1 - j) 0)) = fX11_layGaps_11 fu 33 (nI (N - 1)) (nI (N - 1 - (j + 1))) (pl_wI (pl_wI m 54 (pl_q1 A (ml_I m 54) (N - 1 - (j + 1)) 0)) 55 (pl_q2 A (ml_I m 55) (N - 1 - (j + 1)) 0))
    rw [show N - 1 - (j + 1) = N - 1 - j - 1 by omega, ← ei (fX11_layGaps_11 fu) (N - 1 - j) (by omega) (by omega)]
    simp (disch := omega) only [fX11_layGaps_11, pl_leZ, show ¬ N - 1 - j = 0 by omega, if_false]
  · rw [Nat.sub_self]
    simp (disch := omega) only [fX11_layGaps_11, pl_leZ, if_true]

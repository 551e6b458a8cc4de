/-! SHARINGS: what the class lays ahead of its search, and behind it. -/
theorem pl_s1918 (m : ml_M) (g : Nat → Int32) (k : Nat) (v : Int32) : ml_sI (pl_wI m 19 g) 18 k v = pl_wI (ml_sI m 18 k v) 19 g := pl_sIsw m (by decide) g k v
def pl_f18 (A : pl_A) (l : Nat) : Int32 := nI (pl_ne A l)
def pl_f19 (A : pl_A) (l : Nat) : Int32 := nI (pl_nlt A l)
theorem pl_yearsC {A : pl_A} {Z : ml_M} (hS : pl_Sh Z) (hW : pl_W A) {G : Nat} (h7 : ml_I Z 12 7 = nI (pl_N A 0 0 0)) (hG : ml_K Z G = (28, 8)) (hl : ∀ l, l < pl_N A 0 0 0 → 60 < ml_R Z G l ∧ ml_K Z (ml_R Z G l) = (6, 0) ∧ ml_I Z (ml_R Z G l) 1 = nI (pl_N A 1 l 1)) :
    fX7_compareYears 12 G Z = some (pl_wI (pl_wI Z 18 (pl_tw (ml_I Z 18) (pl_f18 A) 0 (pl_N A 0 0 0))) 19 (pl_tw (ml_I Z 19) (pl_f19 A) 0 (pl_N A 0 0 0))) := by
  have hww := hW.1
  unfold pl_Wc at hww
  have k12 := pl_k12 hS
  have k18 := pl_k18 hS
  have k19 := pl_k19 hS
  have r10 := pl_r12_10 hS
  have r11 := pl_r12_11 hS
  have e1 : (1 : Int32) = nI 1 := rfl
  have e31 : (31 : Int32) = nI 31 := rfl
  have hI12 : ∀ g h, ml_I (pl_wI (pl_wI Z 18 g) 19 h) 12 = ml_I Z 12 := fun g h => by rw [pl_I_wI, if_neg (by decide), pl_I_wI, if_neg (by decide)]
  have hI18 : ∀ g h, ml_I (pl_wI (pl_wI Z 18 g) 19 h) 18 = g := fun g h => by rw [pl_I_wI, if_neg (by decide), pl_I_wI, if_pos rfl]
  have hI19 : ∀ g h, ml_I (pl_wI (pl_wI Z 18 g) 19 h) 19 = h := fun g h => by rw [pl_I_wI, if_pos rfl]
  have hIl : ∀ g h l, l < pl_N A 0 0 0 → ml_I (pl_wI (pl_wI Z 18 g) 19 h) (ml_R Z G l) = ml_I Z (ml_R Z G l) := fun g h l hln => by
    have := (hl l hln).1
    rw [pl_I_wI, if_neg (by omega), pl_I_wI, if_neg (by omega)]
  have ei : ∀ (K : Nat → Nat → Int32 → ml_M → Option ml_M) (l : Nat), l < pl_N A 0 0 0 → fX7_compareYears_26 K ml_fu 12 G (nI l) 0 (pl_wI (pl_wI Z 18 (pl_up (pl_tw (ml_I Z 18) (pl_f18 A) 0 l) l 0)) 19 (pl_up (pl_tw (ml_I Z 19) (pl_f19 A) 0 l) l 0)) = K 12 G (nI (l + 1)) (pl_wI (pl_wI Z 18 (pl_tw (ml_I Z 18) (pl_f18 A) 0 (l + 1))) 19 (pl_tw (ml_I Z 19) (pl_f19 A) 0 (l + 1))) := fun K l hln => by
    have hh := pl_for (F := fun fu o (_ : Unit) => fX7_compareYears_26 K fu 12 G (nI l) (nI o) (pl_wI (pl_wI Z 18 (pl_up (pl_tw (ml_I Z 18) (pl_f18 A) 0 l) l (nI (pl_set (fun o => decide (pl_N A 1 l 1 ≤ pl_N A 1 o 1)) o)))) 19 (pl_up (pl_tw (ml_I Z 19) (pl_f19 A) 0 l) l (nI (pl_set (fun o => decide (pl_N A 1 o 1 ≤ pl_N A 1 l 1)) o))))) (R := K 12 G (nI (l + 1)) (pl_wI (pl_wI Z 18 (pl_tw (ml_I Z 18) (pl_f18 A) 0 (l + 1))) 19 (pl_tw (ml_I Z 19) (pl_f19 A) 0 (l + 1)))) (pl_N A 0 0 0) (fun _ => ()) (fun fu o ho => ?_) (fun fu => ?_) ml_fu (by rw [pl_fu]; omega)
    · exact hh
    · show fX7_compareYears_26 K (fu + 1) 12 G (nI l) (nI o) (pl_wI (pl_wI Z 18 (pl_up (pl_tw (ml_I Z 18) (pl_f18 A) 0 l) l (nI (pl_set (fun o => decide (pl_N A 1 l 1 ≤ pl_N A 1 o 1)) o)))) 19 (pl_up (pl_tw (ml_I Z 19) (pl_f19 A) 0 l) l (nI (pl_set (fun o => decide (pl_N A 1 o 1 ≤ pl_N A 1 l 1)) o)))) = fX7_compareYears_26 K fu 12 G (nI l) (nI (o + 1)) (pl_wI (pl_wI Z 18 (pl_up (pl_tw (ml_I Z 18) (pl_f18 A) 0 l) l (nI (pl_set (fun o => decide (pl_N A 1 l 1 ≤ pl_N A 1 o 1)) (o + 1))))) 19 (pl_up (pl_tw (ml_I Z 19) (pl_f19 A) 0 l) l (nI (pl_set (fun o => decide (pl_N A 1 o 1 ≤ pl_N A 1 l 1)) (o + 1)))))
      obtain ⟨-, u2, u3⟩ := hl l hln
      obtain ⟨-, w2, w3⟩ := hl o ho
      have j1 := fun g h => hIl g h l hln
      have j2 := fun g h => hIl g h o ho
      have b1 := (hW.2.1 l hln).2.1
      have b2 := (hW.2.1 o ho).2.1
      rw [pl_set1, pl_set1]
      generalize pl_set (fun o => decide (pl_N A 1 l 1 ≤ pl_N A 1 o 1)) o = s1
      generalize pl_set (fun o => decide (pl_N A 1 o 1 ≤ pl_N A 1 l 1)) o = s2
      generalize pl_tw (ml_I Z 18) (pl_f18 A) 0 l = g18
      generalize pl_tw (ml_I Z 19) (pl_f19 A) 0 l = g19
      -- the second half
      have h61 : ∀ x : Int32, fX7_compareYears_61 K (fX7_compareYears_26 K fu) 12 G (nI l) (nI o) (pl_wI (pl_wI Z 18 (pl_up g18 l x)) 19 (pl_up g19 l (nI s2))) = fX7_compareYears_26 K fu 12 G (nI l) (nI (o + 1)) (pl_wI (pl_wI Z 18 (pl_up g18 l x)) 19 (pl_up g19 l (nI (if decide (pl_N A 1 o 1 ≤ pl_N A 1 l 1) = true then s2 ||| 2 ^ o else s2)))) := fun x => by
        by_cases c : pl_N A 1 o 1 ≤ pl_N A 1 l 1
        · rw [if_pos (decide_eq_true c)]
          simp (disch := omega) only [fX7_compareYears_61, fX7_compareYears_88, ↓pl_let, pl_b1, pl_b2, ↓reduceIte, pl_K_wI, hG, pl_R_wI, pl_in, nI_clamp, show l < 8 by omega, show o < 8 by omega, and_self, if_true, u2, w2, j1, j2, u3, w3, nI_ltI, show ¬ pl_N A 1 l 1 < pl_N A 1 o 1 by omega, if_false, k12, k19, r11, hI19, pl_up_k, e1, e31, pl_and, pl_shl2, pl_or, pl_wI_sI, pl_up_up, nI_add]
        · rw [if_neg (by simpa using c)]
          simp (disch := omega) only [fX7_compareYears_61, fX7_compareYears_88, ↓pl_let, pl_b1, pl_b2, ↓reduceIte, pl_K_wI, hG, pl_R_wI, pl_in, nI_clamp, show l < 8 by omega, show o < 8 by omega, and_self, if_true, u2, w2, j1, j2, u3, w3, nI_ltI, show pl_N A 1 l 1 < pl_N A 1 o 1 by omega, nI_1]
      rw [← h61]
      by_cases c : pl_N A 1 l 1 ≤ pl_N A 1 o 1
      · rw [if_pos (decide_eq_true c)]
        simp (disch := omega) only [fX7_compareYears_26, ↓pl_let, pl_b1, pl_b2, ↓reduceIte, pl_K_wI, k12, hI12, h7, nI_leI, show ¬ pl_N A 0 0 0 ≤ o by omega, hG, pl_R_wI, pl_in, nI_clamp, show l < 8 by omega, show o < 8 by omega, and_self, if_true, u2, w2, j1, j2, u3, w3, nI_ltI, show ¬ pl_N A 1 o 1 < pl_N A 1 l 1 by omega, if_false, k18, r10, hI18, pl_up_k, e1, e31, pl_and, pl_shl2, pl_or, pl_s1918, pl_wI_sI, pl_up_up]
      · rw [if_neg (by simpa using c)]
        simp (disch := omega) only [fX7_compareYears_26, ↓pl_let, pl_b1, pl_b2, ↓reduceIte, pl_K_wI, k12, hI12, h7, nI_leI, show ¬ pl_N A 0 0 0 ≤ o by omega, hG, pl_R_wI, pl_in, nI_clamp, show l < 8 by omega, show o < 8 by omega, and_self, if_true, u2, w2, j1, j2, u3, w3, nI_ltI, show pl_N A 1 o 1 < pl_N A 1 l 1 by omega, if_false]
    · have ht1 := pl_tw_1 (ml_I Z 18) (pl_f18 A) (Nat.zero_le l) (nI (pl_set (fun o => decide (pl_N A 1 l 1 ≤ pl_N A 1 o 1)) (pl_N A 0 0 0))) rfl
      have ht2 := pl_tw_1 (ml_I Z 19) (pl_f19 A) (Nat.zero_le l) (nI (pl_set (fun o => decide (pl_N A 1 o 1 ≤ pl_N A 1 l 1)) (pl_N A 0 0 0))) rfl
      rw [pl_up_0] at ht1 ht2
      rw [← ht1, ← ht2]
      simp (disch := omega) only [fX7_compareYears_26, fX7_compareYears_94, pl_K_wI, k12, if_true, hI12, h7, nI_leI, Nat.le_refl, nI_1]
  have ho := pl_for (F := fun fu l (_ : Unit) => fX7_compareYears_2 fu 12 G (nI l) (pl_wI (pl_wI Z 18 (pl_tw (ml_I Z 18) (pl_f18 A) 0 l)) 19 (pl_tw (ml_I Z 19) (pl_f19 A) 0 l))) (R := some (pl_wI (pl_wI Z 18 (pl_tw (ml_I Z 18) (pl_f18 A) 0 (pl_N A 0 0 0))) 19 (pl_tw (ml_I Z 19) (pl_f19 A) 0 (pl_N A 0 0 0)))) (pl_N A 0 0 0) (fun _ => ()) (fun fu l hln => ?_) (fun fu => ?_) ml_fu (by rw [pl_fu]; omega)
  · have e : pl_wI (pl_wI Z 18 (pl_tw (ml_I Z 18) (pl_f18 A) 0 0)) 19 (pl_tw (ml_I Z 19) (pl_f19 A) 0 0) = Z := by rw [pl_tw_0, pl_tw_0, pl_wI_0, pl_wI_0]
    rw [e] at ho
    exact ho
  · show fX7_compareYears_2 (fu + 1) 12 G (nI l) (pl_wI (pl_wI Z 18 (pl_tw (ml_I Z 18) (pl_f18 A) 0 l)) 19 (pl_tw (ml_I Z 19) (pl_f19 A) 0 l)) = fX7_compareYears_2 fu 12 G (nI (l + 1)) (pl_wI (pl_wI Z 18 (pl_tw (ml_I Z 18) (pl_f18 A) 0 (l + 1))) 19 (pl_tw (ml_I Z 19) (pl_f19 A) 0 (l + 1)))
    rw [← ei (fX7_compareYears_2 fu) l hln]
    simp (disch := omega) only [fX7_compareYears_2, ↓pl_let, pl_b1, pl_b2, ↓reduceIte, pl_K_wI, pl_K_sI, k12, k18, k19, if_true, hI12, h7, nI_leI, show ¬ pl_N A 0 0 0 ≤ l by omega, if_false, pl_R_wI, pl_R_sI, r10, r11, pl_in, nI_clamp, show l < 8 by omega, and_self, pl_s1918, pl_wI_sI, pl_up_0]
  · simp (disch := omega) only [fX7_compareYears_2, pl_K_wI, k12, if_true, hI12, h7, nI_leI, Nat.le_refl]
/-- things i so far, of thing i lodgers below l -/
def pl_g16 (A : pl_A) (g : Nat → Int32) (i l : Nat) : Nat → Int32 := fun y => if y < 64 then (if y % 8 < pl_N A 0 0 0 then nI (pl_st A (y / 8) (y % 8) (if y / 8 = pl_N A 4 i 3 ∧ y % 8 < l then i + 1 else i)) else 0) else g y
theorem pl_st1 (A : pl_A) (t l n : Nat) : pl_st A t l (n + 1) = if (decide (pl_N A 4 n 3 = t) && !pl_may A l n) = true then pl_st A t l n + 1 else pl_st A t l n := rfl
theorem pl_g16_n (A : pl_A) (g : Nat → Int32) (i : Nat) : pl_g16 A g i (pl_N A 0 0 0) = pl_g16 A g (i + 1) 0 := by
  funext y
  unfold pl_g16
  by_cases h64 : y < 64
  · rw [if_pos h64, if_pos h64]
    by_cases hn : y % 8 < pl_N A 0 0 0
    · have e2 : ¬ (y / 8 = pl_N A 4 (i + 1) 3 ∧ y % 8 < 0) := fun z => Nat.not_lt_zero _ z.2
      rw [if_pos hn, if_pos hn, if_neg e2]
      by_cases ht : y / 8 = pl_N A 4 i 3
      · rw [if_pos ⟨ht, hn⟩]
      · rw [if_neg (fun z => ht z.1), pl_st1, if_neg]
        rw [decide_eq_false (fun z => ht z.symm), Bool.false_and]; decide
    · rw [if_neg hn, if_neg hn]
  · rw [if_neg h64, if_neg h64]
theorem pl_g16_sk {A : pl_A} (g : Nat → Int32) {i : Nat} (h : 8 ≤ pl_N A 4 i 3) : pl_g16 A g (i + 1) 0 = pl_g16 A g i 0 := by
  funext y
  unfold pl_g16
  by_cases h64 : y < 64
  · rw [if_pos h64, if_pos h64]
    have e2 : ¬ (y / 8 = pl_N A 4 (i + 1) 3 ∧ y % 8 < 0) := fun z => Nat.not_lt_zero _ z.2
    have e3 : ¬ (y / 8 = pl_N A 4 i 3 ∧ y % 8 < 0) := fun z => Nat.not_lt_zero _ z.2
    have e4 : pl_st A (y / 8) (y % 8) (i + 1) = pl_st A (y / 8) (y % 8) i := by
      rw [pl_st1, if_neg]
      rw [decide_eq_false (show ¬ pl_N A 4 i 3 = y / 8 by omega), Bool.false_and]; decide
    rw [if_neg e2, if_neg e3, e4]
  · rw [if_neg h64, if_neg h64]
theorem pl_g16_1 {A : pl_A} (g : Nat → Int32) {i l : Nat} (ht : pl_N A 4 i 3 < 8) (hl : l < pl_N A 0 0 0) (hl8 : l < 8) : pl_g16 A g i (l + 1) = if pl_may A l i = true then pl_g16 A g i l else pl_up (pl_g16 A g i l) (pl_N A 4 i 3 * 8 + l) (nI (pl_st A (pl_N A 4 i 3) l i) + 1) := by
  have hmain : ∀ y, y ≠ pl_N A 4 i 3 * 8 + l → pl_g16 A g i (l + 1) y = pl_g16 A g i l y := fun y hy => by
    unfold pl_g16
    by_cases h64 : y < 64
    · rw [if_pos h64, if_pos h64]
      by_cases hn : y % 8 < pl_N A 0 0 0
      · rw [if_pos hn, if_pos hn]
        by_cases c : y / 8 = pl_N A 4 i 3 ∧ y % 8 < l
        · rw [if_pos c, if_pos (by omega)]
        · rw [if_neg c, if_neg (by omega)]
      · rw [if_neg hn, if_neg hn]
    · rw [if_neg h64, if_neg h64]
  have hat : pl_g16 A g i (l + 1) (pl_N A 4 i 3 * 8 + l) = nI (pl_st A (pl_N A 4 i 3) l (i + 1)) := by
    unfold pl_g16
    rw [if_pos (by omega), show (pl_N A 4 i 3 * 8 + l) % 8 = l by omega, show (pl_N A 4 i 3 * 8 + l) / 8 = pl_N A 4 i 3 by omega, if_pos hl, if_pos ⟨rfl, by omega⟩]
  have hat0 : pl_g16 A g i l (pl_N A 4 i 3 * 8 + l) = nI (pl_st A (pl_N A 4 i 3) l i) := by
    unfold pl_g16
    rw [if_pos (by omega), show (pl_N A 4 i 3 * 8 + l) % 8 = l by omega, show (pl_N A 4 i 3 * 8 + l) / 8 = pl_N A 4 i 3 by omega, if_pos hl, if_neg (by omega)]
  by_cases hm : pl_may A l i = true
  · rw [if_pos hm]
    funext y
    by_cases hy : y = pl_N A 4 i 3 * 8 + l
    · rw [hy, hat, hat0, pl_st1, if_neg (by rw [hm]; simp)]
    · exact hmain y hy
  · rw [if_neg hm]
    funext y
    by_cases hy : y = pl_N A 4 i 3 * 8 + l
    · rw [hy, hat, pl_up_k, nI_1, pl_st1, if_pos (by simp [hm])]
    · rw [hmain y hy, pl_up_n _ _ hy]
/-- the things as the class has them -/
def pl_thC (A : pl_A) (Z : ml_M) : Prop := ∀ i, i < pl_N A 0 3 0 → 60 < ml_R Z 8 i ∧ ml_K Z (ml_R Z 8 i) = (8, 0) ∧ ml_I Z (ml_R Z 8 i) 5 = nI (pl_own A i) ∧ ml_I Z (ml_R Z 8 i) 6 = pl_tc (pl_N A 4 i 3)
theorem pl_strangC {A : pl_A} {Z : ml_M} (hS : pl_Sh Z) (hW : pl_W A) (h7 : ml_I Z 12 7 = nI (pl_N A 0 0 0)) (hth : pl_thC A Z) :
    fX7_countStrangers 12 8 (nI (pl_N A 0 3 0)) Z = some (pl_wI Z 16 (pl_g16 A (ml_I Z 16) (pl_N A 0 3 0) 0)) := by
  have hww := hW.1
  unfold pl_Wc at hww
  have k12 := pl_k12 hS
  have k16 := pl_k16 hS
  have k8 := pl_k8 hS
  have r8 := pl_r12_8 hS
  have e1 : (1 : Int32) = nI 1 := rfl
  have e8 : (8 : Int32) = nI 8 := rfl
  have hI12 : ∀ g, ml_I (pl_wI Z 16 g) 12 = ml_I Z 12 := fun g => by rw [pl_I_wI, if_neg (by decide)]
  have hI16 : ∀ g, ml_I (pl_wI Z 16 g) 16 = g := fun g => by rw [pl_I_wI, if_pos rfl]
  have ei : ∀ (K : Nat → Nat → Int32 → Int32 → ml_M → Option ml_M) (i : Nat), i < pl_N A 0 3 0 → pl_N A 4 i 3 < 8 → fX7_countStrangers_36 K ml_fu 12 8 (nI (pl_N A 0 3 0)) (nI i) (ml_R Z 8 i) 0 (pl_wI Z 16 (pl_g16 A (ml_I Z 16) i 0)) = K 12 8 (nI (pl_N A 0 3 0)) (nI (i + 1)) (pl_wI Z 16 (pl_g16 A (ml_I Z 16) (i + 1) 0)) := fun K i hi ht => by
    obtain ⟨t1, t2, t3, t4⟩ := hth i hi
    have hIt : ∀ g, ml_I (pl_wI Z 16 g) (ml_R Z 8 i) = ml_I Z (ml_R Z 8 i) := fun g => by rw [pl_I_wI, if_neg (by omega)]
    have hol := pl_own_lt hW i
    have htc : pl_tc (pl_N A 4 i 3) = nI (pl_N A 4 i 3) := by unfold pl_tc; rw [if_neg (by omega)]
    rw [htc] at t4
    have hh := pl_for (F := fun fu l (_ : Unit) => fX7_countStrangers_36 K fu 12 8 (nI (pl_N A 0 3 0)) (nI i) (ml_R Z 8 i) (nI l) (pl_wI Z 16 (pl_g16 A (ml_I Z 16) i l))) (R := K 12 8 (nI (pl_N A 0 3 0)) (nI (i + 1)) (pl_wI Z 16 (pl_g16 A (ml_I Z 16) (i + 1) 0))) (pl_N A 0 0 0) (fun _ => ()) (fun fu l hl => ?_) (fun fu => ?_) ml_fu (by rw [pl_fu]; omega)
    · exact hh
    · show fX7_countStrangers_36 K (fu + 1) 12 8 (nI (pl_N A 0 3 0)) (nI i) (ml_R Z 8 i) (nI l) (pl_wI Z 16 (pl_g16 A (ml_I Z 16) i l)) = fX7_countStrangers_36 K fu 12 8 (nI (pl_N A 0 3 0)) (nI i) (ml_R Z 8 i) (nI (l + 1)) (pl_wI Z 16 (pl_g16 A (ml_I Z 16) i (l + 1)))
      have hh1 := fun M => (pl_has (s := pl_own A i) (t := l) (by omega) (by omega) M).1
      have htb : (pl_own A i).testBit l = pl_may A l i := by unfold pl_own; rw [pl_set_tb, decide_eq_true hl, Bool.true_and]
      rw [htb] at hh1
      rw [pl_g16_1 (ml_I Z 16) ht hl (by omega)]
      have hv : pl_g16 A (ml_I Z 16) i l (pl_N A 4 i 3 * 8 + l) = nI (pl_st A (pl_N A 4 i 3) l i) := by
        unfold pl_g16
        rw [if_pos (by omega), show (pl_N A 4 i 3 * 8 + l) % 8 = l by omega, show (pl_N A 4 i 3 * 8 + l) / 8 = pl_N A 4 i 3 by omega, if_pos hl, if_neg (by omega)]
      by_cases hm : pl_may A l i = true
      · have hz : ∀ (M : ml_M) (f : Int32 → Option ml_M), ml_b1 (fX10_has (nI (pl_own A i)) (nI l) M) f = f 1 := fun M f => by rw [hh1, hm]; rfl
        rw [if_pos hm]
        simp (disch := omega) only [fX7_countStrangers_36, fX7_countStrangers_78, ↓pl_let, pl_b1, pl_b2, ↓reduceIte, pl_K_wI, k12, if_true, hI12, h7, nI_leI, show ¬ pl_N A 0 0 0 ≤ l by omega, if_false, t2, hIt, t3, ↓hz, pl_10, nI_1]
      · have hm0 : pl_may A l i = false := by simpa using hm
        have hz : ∀ (M : ml_M) (f : Int32 → Option ml_M), ml_b1 (fX10_has (nI (pl_own A i)) (nI l) M) f = f 0 := fun M f => by rw [hh1, hm0]; rfl
        have hidx : nI (pl_N A 4 i 3) * (8 : Int32) + nI l = nI (pl_N A 4 i 3 * 8 + l) := by rw [e8, pk_mul, nI_add]
        rw [if_neg hm]
        simp (disch := omega) only [fX7_countStrangers_36, fX7_countStrangers_78, ↓pl_let, pl_b1, pl_b2, ↓reduceIte, pl_K_wI, k12, k16, if_true, hI12, h7, nI_leI, show ¬ pl_N A 0 0 0 ≤ l by omega, if_false, t2, hIt, t3, t4, ↓hz, pl_R_wI, r8, hidx, pl_in, nI_clamp, show pl_N A 4 i 3 * 8 + l < 64 by omega, and_self, hI16, hv, pl_wI_sI, pl_up_0, nI_1]
    · rw [← pl_g16_n]
      simp (disch := omega) only [fX7_countStrangers_36, fX7_countStrangers_84, ↓pl_let, pl_b1, pl_b2, ↓reduceIte, pl_K_wI, k12, if_true, hI12, h7, nI_leI, Nat.le_refl, nI_1]
  have ho := pl_for (F := fun fu i (_ : Unit) => fX7_countStrangers_10 fu 12 8 (nI (pl_N A 0 3 0)) (nI i) (pl_wI Z 16 (pl_g16 A (ml_I Z 16) i 0))) (R := some (pl_wI Z 16 (pl_g16 A (ml_I Z 16) (pl_N A 0 3 0) 0))) (pl_N A 0 3 0) (fun _ => ()) (fun fu i hi => ?_) (fun fu => ?_) ml_fu (by rw [pl_fu]; omega)
  · have hfill := pl_fillI (m := Z) (a := 16) (n := 64) 0 k16 (by decide)
    have e0 : pl_fv Z 16 0 64 = pl_g16 A (ml_I Z 16) 0 0 := by
      funext y
      unfold pl_fv pl_g16
      by_cases h64 : y < 64
      · rw [if_pos h64, if_pos h64, if_neg (show ¬ (y / 8 = pl_N A 4 0 3 ∧ y % 8 < 0) from fun z => Nat.not_lt_zero _ z.2)]
        split <;> rfl
      · rw [if_neg h64, if_neg h64]
    rw [e0] at hfill
    unfold fX7_countStrangers
    rw [k12, if_pos rfl, pl_let, r8, hfill, pl_b1]
    exact ho
  · show fX7_countStrangers_10 (fu + 1) 12 8 (nI (pl_N A 0 3 0)) (nI i) (pl_wI Z 16 (pl_g16 A (ml_I Z 16) i 0)) = fX7_countStrangers_10 fu 12 8 (nI (pl_N A 0 3 0)) (nI (i + 1)) (pl_wI Z 16 (pl_g16 A (ml_I Z 16) (i + 1) 0))
    obtain ⟨t1, t2, t3, t4⟩ := hth i hi
    obtain ⟨b1, b2⟩ := pl_tcB hW hi
    have hIt : ∀ g, ml_I (pl_wI Z 16 g) (ml_R Z 8 i) = ml_I Z (ml_R Z 8 i) := fun g => by rw [pl_I_wI, if_neg (by omega)]
    have hn9 : (pl_tc (pl_N A 4 i 3) = (-9 : Int32)) = (pl_N A 4 i 3 = 100) := pl_tcN b1
    rcases b2 with hf | hf
    · rw [pl_g16_sk _ (by omega)]
      simp (disch := omega) only [fX7_countStrangers_10, fX7_countStrangers_84, ↓pl_let, pl_b1, pl_b2, ↓reduceIte, nI_leI, show ¬ pl_N A 0 3 0 ≤ i by omega, if_false, pl_K_wI, k8, pl_in, nI_clamp, show i < 20 by omega, and_self, if_true, pl_R_wI, t2, hIt, t4, hn9, eq_true hf, nI_1]
    · rw [← ei (fX7_countStrangers_10 fu) i hi hf]
      simp (disch := omega) only [fX7_countStrangers_10, ↓pl_let, pl_b1, pl_b2, ↓reduceIte, nI_leI, show ¬ pl_N A 0 3 0 ≤ i by omega, if_false, pl_K_wI, k8, pl_in, nI_clamp, show i < 20 by omega, and_self, if_true, pl_R_wI, t2, hIt, t4, hn9, show ¬ pl_N A 4 i 3 = 100 by omega]
  · simp (disch := omega) only [fX7_countStrangers_10, nI_leI, Nat.le_refl, if_true]
def pl_f17 (A : pl_A) (s : Nat) : Int32 := if pl_cov A s then 1 else 0
theorem pl_coversC {A : pl_A} {Z : ml_M} (hS : pl_Sh Z) (hW : pl_W A) (h7 : ml_I Z 12 7 = nI (pl_N A 0 0 0)) (hth : pl_thC A Z) :
    fX7_findCovers 12 8 (nI (pl_N A 0 3 0)) Z = some (pl_wI Z 17 (pl_tw (ml_I Z 17) (pl_f17 A) 0 (2 ^ pl_N A 0 0 0))) := by
  have hww := hW.1
  unfold pl_Wc at hww
  obtain ⟨p1, p2⟩ := pl_pown (show pl_N A 0 0 0 ≤ 8 by omega)
  have k12 := pl_k12 hS
  have k17 := pl_k17 hS
  have k8 := pl_k8 hS
  have r9 := pl_r12_9 hS
  have a0 : (0 : Int32) &&& 1 = 0 := by decide
  have a1 : (1 : Int32) &&& 1 = 1 := by decide
  have hI12 : ∀ g, ml_I (pl_wI Z 17 g) 12 = ml_I Z 12 := fun g => by rw [pl_I_wI, if_neg (by decide)]
  have ei : ∀ (K : Nat → Nat → Int32 → Int32 → ml_M → Option ml_M) (s : Nat) (g : Nat → Int32), s < 2 ^ pl_N A 0 0 0 → fX7_findCovers_18 K ml_fu 12 8 (nI (pl_N A 0 3 0)) (nI s) 1 0 (pl_wI Z 17 g) = K 12 8 (nI (pl_N A 0 3 0)) (nI (s + 1)) (pl_wI Z 17 (pl_up g s (pl_f17 A s))) := fun K s g hs => by
    have h54 : ∀ b : Bool, fX7_findCovers_54 K 12 8 (nI (pl_N A 0 3 0)) (nI s) (if b = true then 1 else 0) (pl_wI Z 17 g) = K 12 8 (nI (pl_N A 0 3 0)) (nI (s + 1)) (pl_wI Z 17 (pl_up g s (if b = true then 1 else 0))) := fun b => by
      cases b
      · simp (disch := omega) only [fX7_findCovers_54, ↓pl_let, pl_b1, pl_b2, ↓reduceIte, pl_K_wI, k12, k17, if_true, pl_R_wI, r9, pl_in, nI_clamp, show s < 256 by omega, and_self, a0, Bool.false_eq_true, if_false, pl_wI_sI, pl_up_0, nI_1]
      · simp (disch := omega) only [fX7_findCovers_54, ↓pl_let, pl_b1, pl_b2, ↓reduceIte, pl_K_wI, k12, k17, if_true, pl_R_wI, r9, pl_in, nI_clamp, show s < 256 by omega, and_self, a1, pl_wI_sI, pl_up_0, nI_1]
    have hh := pl_forE (F := fun fu i (f : Int32) => fX7_findCovers_18 K fu 12 8 (nI (pl_N A 0 3 0)) (nI s) f (nI i) (pl_wI Z 17 g)) (R := K 12 8 (nI (pl_N A 0 3 0)) (nI (s + 1)) (pl_wI Z 17 (pl_up g s (pl_f17 A s)))) (pl_N A 0 3 0) (fun i => if pl_all (fun i => decide (pl_own A i &&& s ≠ 0)) i = true then 1 else 0) (fun fu i hi => ?_) (fun fu => ?_) ml_fu (by rw [pl_fu]; omega)
    · exact hh
    · show fX7_findCovers_18 K (fu + 1) 12 8 (nI (pl_N A 0 3 0)) (nI s) (if pl_all (fun i => decide (pl_own A i &&& s ≠ 0)) i = true then 1 else 0) (nI i) (pl_wI Z 17 g) = fX7_findCovers_18 K fu 12 8 (nI (pl_N A 0 3 0)) (nI s) (if pl_all (fun i => decide (pl_own A i &&& s ≠ 0)) (i + 1) = true then 1 else 0) (nI (i + 1)) (pl_wI Z 17 g) ∨ fX7_findCovers_18 K (fu + 1) 12 8 (nI (pl_N A 0 3 0)) (nI s) (if pl_all (fun i => decide (pl_own A i &&& s ≠ 0)) i = true then 1 else 0) (nI i) (pl_wI Z 17 g) = _
      obtain ⟨t1, t2, t3, t4⟩ := hth i hi
      have hIt : ml_I (pl_wI Z 17 g) (ml_R Z 8 i) = ml_I Z (ml_R Z 8 i) := by rw [pl_I_wI, if_neg (by omega)]
      have hol := pl_own_lt hW i
      have hand : pl_own A i &&& s ≤ pl_own A i := Nat.and_le_left
      by_cases ha : pl_all (fun i => decide (pl_own A i &&& s ≠ 0)) i = true
      · left
        have e : pl_all (fun i => decide (pl_own A i &&& s ≠ 0)) (i + 1) = (pl_all (fun i => decide (pl_own A i &&& s ≠ 0)) i && decide (pl_own A i &&& s ≠ 0)) := rfl
        rw [e, ha, Bool.true_and]
        by_cases c : pl_own A i &&& s = 0
        · rw [if_neg (show ¬ decide (pl_own A i &&& s ≠ 0) = true by simp [c])]
          simp (disch := omega) only [fX7_findCovers_18, fX7_findCovers_46, ↓pl_let, pl_b1, pl_b2, ↓reduceIte, nI_leI, show ¬ pl_N A 0 3 0 ≤ i by omega, if_false, if_true, pl_10, pl_K_wI, k8, pl_in, nI_clamp, show i < 20 by omega, and_self, pl_R_wI, t2, hIt, t3, pl_and, c, nI_0, nI_1]
        · rw [if_pos (show decide (pl_own A i &&& s ≠ 0) = true by simp [c])]
          simp (disch := omega) only [fX7_findCovers_18, fX7_findCovers_46, ↓pl_let, pl_b1, pl_b2, ↓reduceIte, nI_leI, show ¬ pl_N A 0 3 0 ≤ i by omega, if_false, if_true, pl_10, pl_K_wI, k8, pl_in, nI_clamp, show i < 20 by omega, and_self, pl_R_wI, t2, hIt, t3, pl_and, pl_eq0, c, nI_1]
      · right
        have hcov : pl_cov A s = false := by
          cases hc : pl_cov A s with
          | false => rfl
          | true =>
            exfalso
            unfold pl_cov at hc
            rw [pl_all_iff] at hc
            exact ha ((pl_all_iff _ _).mpr fun j hj => hc j (by omega))
        have h5 := h54 false
        have hf17 : pl_f17 A s = (if false = true then 1 else 0) := by unfold pl_f17; rw [hcov]
        rw [if_neg ha, hf17, ← h5]
        simp (disch := omega) only [fX7_findCovers_18, nI_leI, show ¬ pl_N A 0 3 0 ≤ i by omega, if_false, if_true, Bool.false_eq_true]
    · have hf17 : pl_f17 A s = if pl_all (fun i => decide (pl_own A i &&& s ≠ 0)) (pl_N A 0 3 0) = true then 1 else 0 := rfl
      rw [hf17, ← h54]
      simp (disch := omega) only [fX7_findCovers_18, nI_leI, Nat.le_refl, if_true]
  have hsh : (1 : Int32) <<< (nI (pl_N A 0 0 0) &&& 31) = nI (2 ^ pl_N A 0 0 0) := pl_shl1 (by omega)
  have ho := pl_for (F := fun fu s (_ : Unit) => fX7_findCovers_2 fu 12 8 (nI (pl_N A 0 3 0)) (nI s) (pl_wI Z 17 (pl_tw (ml_I Z 17) (pl_f17 A) 0 s))) (R := some (pl_wI Z 17 (pl_tw (ml_I Z 17) (pl_f17 A) 0 (2 ^ pl_N A 0 0 0)))) (2 ^ pl_N A 0 0 0) (fun _ => ()) (fun fu s hs => ?_) (fun fu => ?_) ml_fu (by rw [pl_fu]; omega)
  · rw [pl_tw_0, pl_wI_0] at ho
    exact ho
  · show fX7_findCovers_2 (fu + 1) 12 8 (nI (pl_N A 0 3 0)) (nI s) (pl_wI Z 17 (pl_tw (ml_I Z 17) (pl_f17 A) 0 s)) = fX7_findCovers_2 fu 12 8 (nI (pl_N A 0 3 0)) (nI (s + 1)) (pl_wI Z 17 (pl_tw (ml_I Z 17) (pl_f17 A) 0 (s + 1)))
    have h := ei (fX7_findCovers_2 fu) s (pl_tw (ml_I Z 17) (pl_f17 A) 0 s) hs
    have ht := pl_tw_1 (ml_I Z 17) (pl_f17 A) (Nat.zero_le s) (pl_f17 A s) rfl
    rw [pl_up_0] at ht
    rw [ht] at h
    rw [← h]
    simp (disch := omega) only [fX7_findCovers_2, pl_K_wI, k12, if_true, hI12, h7, hsh, nI_leI, show ¬ 2 ^ pl_N A 0 0 0 ≤ s by omega, if_false]
  · simp (disch := omega) only [fX7_findCovers_2, pl_K_wI, k12, if_true, hI12, h7, hsh, nI_leI, Nat.le_refl]

/-! LAYS: the class's tables, its first row. -/
/-- only the lays' own cells changed -/
theorem pl_Rel.ly {A : pl_A} {m m1 : ml_M} (h : pl_Rel A m) (hx : pl_ex [21, 22, 23, 24, 25] m m1) (hco : pl_co m m1) (hJ : ml_J m1 1 = ml_J m 1) (h21 : ml_R m1 21 = ml_R m 21) (hy : ml_I m1 21 0 = 0 ∧ ml_I m1 21 1 = nI (pl_G A (pl_N A 0 5 0) 0 fun _ => false).1 ∧ ml_I m1 21 2 = nI (pl_G A (pl_N A 0 5 0) 0 fun _ => false).2 ∧ ∀ k, k < pl_N A 0 5 0 → ml_I m1 22 k = nI ((pl_fr A (pl_N A 0 5 0) 0 fun _ => false).getD k 0)) : pl_Rel A m1 := by
  obtain ⟨hS, hW, hM, hC⟩ := h
  have hn := hS.2.2
  have d : pl_dif [] [] [] A A := ⟨fun _ _ _ => rfl, fun _ _ => rfl, fun _ _ => rfl⟩
  have e : ∀ a, a ≤ 60 → a ∉ [21, 22, 23, 24, 25] → ml_I m1 a = ml_I m a ∧ ml_R m1 a = ml_R m a := fun a ha hn => hx.2.2 a (by omega) hn
  obtain ⟨fr, ft, fh, fi, fn, fk, fs, -⟩ := pl_Cd d hS hC hx (by decide) (by rw [(e 1 (by decide) (by decide)).2])
  refine ⟨hx.sh hS (fun q hq hm => ?_), hW, hco.m hM, ?_, fr (by decide), ft (by decide), fh (by decide), fi (by decide), fn (by decide), fk (by decide), fs (by decide), Or.inr hy, ?_⟩
  · have h0 : ∀ q ∈ pl_rt, q.1 ∈ [21, 22, 23, 24, 25] → q.1 = 21 := by decide
    rw [h0 q hq hm, h21]
  · have hb := hC.1
    unfold pl_Cb at *
    rw [(e 1 (by decide) (by decide)).1, (e 32 (by decide) (by decide)).1, hJ]
    exact hb
  · rw [(e 31 (by decide) (by decide)).1]
    exact hC.2.2.2.2.2.2.2.2.2
def pl_jd (A : pl_A) (i : Nat) : Nat := pl_set (fun j => decide (i ≠ j) && pl_jn A i j) (pl_N A 0 5 0)
def pl_jt (A : pl_A) (i : Nat) : Int32 := nI (pl_jd A i)
theorem pl_jd_tb (A : pl_A) {i j : Nat} (hj : j < pl_N A 0 5 0) (hne : i ≠ j) : (pl_jd A i).testBit j = pl_jn A i j := by
  unfold pl_jd
  rw [pl_set_tb, decide_eq_true hj, decide_eq_true hne, Bool.true_and, Bool.true_and]
theorem pl_joinedC {A : pl_A} {m : ml_M} (hS : pl_Sh m) (hW : pl_W A) (hCn : ∀ g, pl_Cn A (pl_wI m 23 g)) {n : Nat} (hnA : n = pl_N A 0 5 0) (h4 : ml_I m 21 4 = nI n) : fX4_gather_7 ml_fu 21 10 0 m = fX4_gather_78 21 (pl_wI m 23 (pl_tw (ml_I m 23) (pl_jt A) 0 n)) := by
  have hw := hW.1
  unfold pl_Wc at hw
  have hn10 : n ≤ 10 := by omega
  have p2 : 2 ^ n ≤ 1024 := Nat.le_trans (Nat.pow_le_pow_right (by decide) hn10) (by decide)
  have e1 : (1 : Int32) = nI 1 := rfl
  have e31 : (31 : Int32) = nI 31 := rfl
  have hI21 : ∀ g, ml_I (pl_wI m 23 g) 21 = ml_I m 21 := fun g => by rw [pl_I_wI, if_neg (by decide)]
  have hI23 : ∀ g, ml_I (pl_wI m 23 g) 23 = g := fun g => by rw [pl_I_wI, if_pos rfl]
  have k21 := pl_k21 hS
  have k10 := pl_k10 hS
  have k23 := pl_k23 hS
  have r5 := pl_r21_5 hS
  have ei : ∀ (K : Nat → Nat → Int32 → ml_M → Option ml_M) (i : Nat), i < n → fX4_gather_25 K ml_fu 21 10 (nI i) 0 (pl_wI m 23 (pl_up (pl_tw (ml_I m 23) (pl_jt A) 0 i) i 0)) = K 21 10 (nI (i + 1)) (pl_wI m 23 (pl_tw (ml_I m 23) (pl_jt A) 0 (i + 1))) := fun K i hi => by
    have hh := pl_for (F := fun fu j (_ : Unit) => fX4_gather_25 K fu 21 10 (nI i) (nI j) (pl_wI m 23 (pl_up (pl_tw (ml_I m 23) (pl_jt A) 0 i) i (nI (pl_set (fun j => decide (i ≠ j) && pl_jn A i j) j))))) (R := K 21 10 (nI (i + 1)) (pl_wI m 23 (pl_tw (ml_I m 23) (pl_jt A) 0 (i + 1)))) n (fun _ => ()) (fun fu j hj => ?_) (fun fu => ?_) ml_fu (by rw [pl_fu]; omega)
    · exact hh
    · show fX4_gather_25 K (fu + 1) 21 10 (nI i) (nI j) (pl_wI m 23 (pl_up (pl_tw (ml_I m 23) (pl_jt A) 0 i) i (nI (pl_set (fun j => decide (i ≠ j) && pl_jn A i j) j)))) = fX4_gather_25 K fu 21 10 (nI i) (nI (j + 1)) (pl_wI m 23 (pl_up (pl_tw (ml_I m 23) (pl_jt A) 0 i) i (nI (pl_set (fun j => decide (i ≠ j) && pl_jn A i j) (j + 1)))))
      have hc := hCn (pl_up (pl_tw (ml_I m 23) (pl_jt A) 0 i) i (nI (pl_set (fun j => decide (i ≠ j) && pl_jn A i j) j)))
      have hjn := pl_joinC (i := i) (j := j) hW hc (by omega) (by omega)
      have b1 := (hc.2 i (by omega)).1.2.2
      rw [pl_R_wI] at hjn b1
      rw [pl_set1]
      by_cases hij : i = j
      · rw [if_neg (by simp [hij])]
        simp (disch := omega) only [fX4_gather_25, fX4_gather_66, ↓pl_let, pl_b1, pl_b2, ↓reduceIte, pl_K_wI, k21, if_true, hI21, h4, nI_leI, show ¬ n ≤ j by omega, if_false, nI_eq, eq_true hij, nI_1]
      · by_cases hj2 : pl_jn A i j = true
        · rw [if_pos (by simp [hij, hj2])]
          simp (disch := omega) only [fX4_gather_25, fX4_gather_66, ↓pl_let, pl_b1, pl_b2, ↓reduceIte, pl_K_wI, k21, k10, k23, if_true, hI21, h4, nI_leI, show ¬ n ≤ j by omega, if_false, nI_eq, hij, pl_in, nI_clamp, show i < 10 by omega, show j < 10 by omega, and_self, pl_R_wI, b1, hjn, hj2, e1, e31, pl_eq0, Nat.reduceEqDiff, r5, hI23, pl_up_k, pl_and, pl_shl2, pl_or, pl_wI_sI, pl_up_up, nI_add]
        · have hj0 : pl_jn A i j = false := by simpa using hj2
          rw [if_neg (by simp [hj0])]
          simp (disch := omega) only [fX4_gather_25, fX4_gather_66, ↓pl_let, pl_b1, pl_b2, ↓reduceIte, pl_K_wI, k21, k10, if_true, hI21, h4, nI_leI, show ¬ n ≤ j by omega, if_false, nI_eq, hij, pl_in, nI_clamp, show i < 10 by omega, show j < 10 by omega, and_self, pl_R_wI, b1, hjn, hj0, Bool.false_eq_true, nI_1]
    · have ht := pl_tw_1 (ml_I m 23) (pl_jt A) (Nat.zero_le i) (nI (pl_set (fun j => decide (i ≠ j) && pl_jn A i j) n)) (by rw [hnA]; rfl)
      rw [pl_up_0] at ht
      rw [← ht]
      simp (disch := omega) only [fX4_gather_25, fX4_gather_72, ↓pl_let, pl_b1, pl_b2, ↓reduceIte, pl_K_wI, k21, if_true, hI21, h4, nI_leI, Nat.le_refl, nI_1]
  have ho := pl_for (F := fun fu i (_ : Unit) => fX4_gather_7 fu 21 10 (nI i) (pl_wI m 23 (pl_tw (ml_I m 23) (pl_jt A) 0 i))) (R := fX4_gather_78 21 (pl_wI m 23 (pl_tw (ml_I m 23) (pl_jt A) 0 n))) n (fun _ => ()) (fun fu i hi => ?_) (fun fu => ?_) ml_fu (by rw [pl_fu]; omega)
  · rw [pl_tw_0, pl_wI_0] at ho
    exact ho
  · show fX4_gather_7 (fu + 1) 21 10 (nI i) (pl_wI m 23 (pl_tw (ml_I m 23) (pl_jt A) 0 i)) = fX4_gather_7 fu 21 10 (nI (i + 1)) (pl_wI m 23 (pl_tw (ml_I m 23) (pl_jt A) 0 (i + 1)))
    rw [← ei (fX4_gather_7 fu) i hi]
    simp (disch := omega) only [fX4_gather_7, ↓pl_let, pl_b1, pl_b2, ↓reduceIte, pl_K_wI, k21, k23, if_true, hI21, h4, nI_leI, show ¬ n ≤ i by omega, if_false, pl_R_wI, r5, pl_in, nI_clamp, show i < 10 by omega, and_self, pl_wI_sI, pl_up_0]
  · simp (disch := omega) only [fX4_gather_7, ↓pl_let, pl_b1, pl_b2, ↓reduceIte, pl_K_wI, k21, if_true, hI21, h4, nI_leI, Nat.le_refl]
/-- the two tables from sets below the full one down to the empty one -/
theorem pl_tablesC {A : pl_A} {m : ml_M} (hS : pl_Sh m) (hW : pl_W A) {n : Nat} (hnA : n = pl_N A 0 5 0) (h4 : ml_I m 21 4 = nI n) (h23 : ∀ i, i < n → ml_I m 23 i = pl_jt A i) : fX4_gather_78 21 m = fX4_gather_142 21 (pl_wI (pl_wI m 24 (pl_lt1 A (ml_I m 24) 0 0)) 25 (pl_lt2 A (ml_I m 25) 0 0)) := by
  have hw := hW.1
  unfold pl_Wc at hw
  have hn10 : n ≤ 10 := by omega
  obtain ⟨N, hN⟩ : ∃ N, N = 2 ^ n := ⟨_, rfl⟩
  have p1 : 1 ≤ N := by rw [hN]; exact Nat.one_le_two_pow
  have p2 : 2 ^ n ≤ 1024 := Nat.le_trans (Nat.pow_le_pow_right (by decide) hn10) (by decide)
  have hI21 : ∀ g h, ml_I (pl_wI (pl_wI m 24 g) 25 h) 21 = ml_I m 21 := fun g h => by rw [pl_I_wI, if_neg (by decide), pl_I_wI, if_neg (by decide)]
  have hI23 : ∀ g h, ml_I (pl_wI (pl_wI m 24 g) 25 h) 23 = ml_I m 23 := fun g h => by rw [pl_I_wI, if_neg (by decide), pl_I_wI, if_neg (by decide)]
  have k21 := pl_k21 hS
  have k23 := pl_k23 hS
  have r5 := pl_r21_5 hS
  have e1 : (1 : Int32) = nI 1 := rfl
  have e10 : (10 : Int32) = nI 10 := rfl
  have ei : ∀ (K : Nat → Int32 → ml_M → Option ml_M) (s : Nat), 0 < s → s < N → fX4_gather_94 K ml_fu 21 (nI s) 0 (pl_wI (pl_wI m 24 (pl_lt1 A (ml_I m 24) s 0)) 25 (pl_lt2 A (ml_I m 25) s 0)) = K 21 (nI (s - 1)) (pl_wI (pl_wI m 24 (pl_lt1 A (ml_I m 24) (s - 1) 0)) 25 (pl_lt2 A (ml_I m 25) (s - 1) 0)) := fun K s hs0 hs => by
    have hh := pl_for (F := fun fu l (_ : Unit) => fX4_gather_94 K fu 21 (nI s) (nI l) (pl_wI (pl_wI m 24 (pl_lt1 A (ml_I m 24) s l)) 25 (pl_lt2 A (ml_I m 25) s l))) (R := K 21 (nI (s - 1)) (pl_wI (pl_wI m 24 (pl_lt1 A (ml_I m 24) (s - 1) 0)) 25 (pl_lt2 A (ml_I m 25) (s - 1) 0))) n (fun _ => ()) (fun fu l hl => ?_) (fun fu => ?_) ml_fu (by rw [pl_fu]; omega)
    · exact hh
    · show fX4_gather_94 K (fu + 1) 21 (nI s) (nI l) (pl_wI (pl_wI m 24 (pl_lt1 A (ml_I m 24) s l)) 25 (pl_lt2 A (ml_I m 25) s l)) = fX4_gather_94 K fu 21 (nI s) (nI (l + 1)) (pl_wI (pl_wI m 24 (pl_lt1 A (ml_I m 24) s (l + 1))) 25 (pl_lt2 A (ml_I m 25) s (l + 1)))
      have h1 := fun M => (pl_has (s := s) (t := l) (by omega) (by omega) M).1
      by_cases hq : s.testBit l = true
      · have hz : ∀ (M : ml_M) (f : Int32 → Option ml_M), ml_b1 (fX10_has (nI s) (nI l) M) f = f 1 := fun M f => by rw [h1, hq]; rfl
        have hble := pl_bc_le s n
        have hjb : pl_jd A l < 2 ^ n := by rw [hnA]; exact pl_set_lt _ _
        have hfo := pl_followC (A := A) (m := m) hS (n := n) (d := n - pl_bc s n) (set := s) (here := 10 * s + l) (joins := pl_jd A l) (js := pl_jn A l) h4 hnA hn10 (by omega) (by omega) (by omega) (fun i hi hqi => pl_jd_tb A (by omega) (fun z => by rw [z, hqi] at hq; cases hq)) (by omega) (fun i hi hqi => by
          have := pl_ins_gt hqi
          omega) (g := pl_lt1 A (ml_I m 24) s l) (h := pl_lt2 A (ml_I m 25) s l) (fun i hi hqi => by
          have hgt := pl_ins_gt hqi
          have hlt : s ||| 2 ^ i < 2 ^ n := pl_ins_lt (by omega) hi
          have hin := pl_fd_in (n := pl_N A 0 5 0) (s := s) (l := l) (set := s ||| 2 ^ i) (last := i) (by omega) (by omega) (by rw [← hnA]; exact hlt) (by rw [pl_tb_ins]; simp) (Or.inl hgt)
          unfold pl_lt1 pl_lt2
          rw [if_pos hin, if_pos hin, show (10 * (s ||| 2 ^ i) + i) / 10 = s ||| 2 ^ i by omega, show (10 * (s ||| 2 ^ i) + i) % 10 = i by omega]
          exact ⟨rfl, rfl⟩)
        have hG : pl_G A (n - pl_bc s n) s (pl_jn A l) = pl_gw A s l := by unfold pl_gw; rw [hnA]
        have ht1 : pl_up (pl_lt1 A (ml_I m 24) s l) (10 * s + l) (nI (pl_gw A s l).1) = pl_lt1 A (ml_I m 24) s (l + 1) := by
          funext y
          unfold pl_lt1 pl_up
          rw [pl_fd_up (by omega) (by omega) (by rw [← hnA]; omega) hq]
          by_cases hy : y = 10 * s + l
          · rw [if_pos hy, decide_eq_true hy, Bool.true_or, if_pos rfl, show y / 10 = s by omega, show y % 10 = l by omega]
          · rw [if_neg hy, decide_eq_false hy, Bool.false_or]
        have ht2 : pl_up (pl_lt2 A (ml_I m 25) s l) (10 * s + l) (nI (pl_gw A s l).2) = pl_lt2 A (ml_I m 25) s (l + 1) := by
          funext y
          unfold pl_lt2 pl_up
          rw [pl_fd_up (by omega) (by omega) (by rw [← hnA]; omega) hq]
          by_cases hy : y = 10 * s + l
          · rw [if_pos hy, decide_eq_true hy, Bool.true_or, if_pos rfl, show y / 10 = s by omega, show y % 10 = l by omega]
          · rw [if_neg hy, decide_eq_false hy, Bool.false_or]
        rw [hG, ht1, ht2] at hfo
        have hidx : (nI s : Int32) * 10 + nI l = nI (10 * s + l) := by rw [e10, pk_mul, nI_add, Nat.mul_comm]
        have h23l := h23 l hl
        unfold pl_jt at h23l
        simp (disch := omega) only [fX4_gather_94, fX4_gather_130, fX4_slot, ↓hz, ↓pl_let, pl_b1, pl_b2, ↓reduceIte, pl_K_wI, k21, k23, if_true, hI21, h4, nI_leI, show ¬ n ≤ l by omega, if_false, pl_10, hidx, pl_R_wI, r5, pl_in, nI_clamp, show l < 10 by omega, and_self, hI23, h23l, hfo, nI_1]
      · have hq0 : s.testBit l = false := by simpa using hq
        have hz : ∀ (M : ml_M) (f : Int32 → Option ml_M), ml_b1 (fX10_has (nI s) (nI l) M) f = f 0 := fun M f => by rw [h1, hq0]; rfl
        have ht1 : pl_lt1 A (ml_I m 24) s (l + 1) = pl_lt1 A (ml_I m 24) s l := by
          funext y
          unfold pl_lt1
          rw [pl_fd_sk hq0]
        have ht2 : pl_lt2 A (ml_I m 25) s (l + 1) = pl_lt2 A (ml_I m 25) s l := by
          funext y
          unfold pl_lt2
          rw [pl_fd_sk hq0]
        rw [ht1, ht2]
        simp (disch := omega) only [fX4_gather_94, fX4_gather_130, ↓hz, ↓pl_let, pl_b1, pl_b2, ↓reduceIte, pl_K_wI, k21, if_true, hI21, h4, nI_leI, show ¬ n ≤ l by omega, if_false, nI_1]
    · have ht1 : pl_lt1 A (ml_I m 24) s n = pl_lt1 A (ml_I m 24) (s - 1) 0 := by
        funext y
        unfold pl_lt1
        rw [hnA, pl_fd_dn hs0]
      have ht2 : pl_lt2 A (ml_I m 25) s n = pl_lt2 A (ml_I m 25) (s - 1) 0 := by
        funext y
        unfold pl_lt2
        rw [hnA, pl_fd_dn hs0]
      have hm1 : nI s + (-1 : Int32) = nI (s - 1) := by
        obtain ⟨e, he⟩ : ∃ e, s = e + 1 := ⟨s - 1, by omega⟩
        rw [he, pk_m1, Nat.add_sub_cancel]
      rw [ht1, ht2]
      simp (disch := omega) only [fX4_gather_94, fX4_gather_136, ↓pl_let, pl_b1, pl_b2, ↓reduceIte, pl_K_wI, k21, if_true, hI21, h4, nI_leI, Nat.le_refl, hm1]
  have ho := pl_for (F := fun fu j (_ : Unit) => fX4_gather_87 fu 21 (nI (N - 1 - j)) (pl_wI (pl_wI m 24 (pl_lt1 A (ml_I m 24) (N - 1 - j) 0)) 25 (pl_lt2 A (ml_I m 25) (N - 1 - j) 0))) (R := fX4_gather_142 21 (pl_wI (pl_wI m 24 (pl_lt1 A (ml_I m 24) 0 0)) 25 (pl_lt2 A (ml_I m 25) 0 0))) (N - 1) (fun _ => ()) (fun fu j hj => ?_) (fun fu => ?_) ml_fu (by rw [pl_fu]; omega)
  · have z1 : pl_lt1 A (ml_I m 24) (N - 1) 0 = ml_I m 24 := by
      funext y
      unfold pl_lt1
      rw [hN, hnA, pl_fd_0, if_neg (by decide)]
    have z2 : pl_lt2 A (ml_I m 25) (N - 1) 0 = ml_I (pl_wI m 24 (ml_I m 24)) 25 := by
      funext y
      unfold pl_lt2
      rw [hN, hnA, pl_fd_0, if_neg (by decide), pl_wI_0]
    rw [Nat.sub_zero, z1, z2, pl_wI_0, pl_wI_0] at ho
    have hsh : (1 : Int32) <<< (nI n &&& 31) - 1 = nI (N - 1) := by
      rw [pl_shl1 (by omega), ← hN]; exact pl_sub p1
    rw [← ho]
    simp (disch := omega) only [fX4_gather_78, ↓pl_let, pl_b1, pl_b2, ↓reduceIte, k21, if_true, h4, hsh]
  · show fX4_gather_87 (fu + 1) 21 (nI (N - 1 - j)) (pl_wI (pl_wI m 24 (pl_lt1 A (ml_I m 24) (N - 1 - j) 0)) 25 (pl_lt2 A (ml_I m 25) (N - 1 - j) 0)) = fX4_gather_87 fu 21 (nI (N - 1 - (j + 1))) (pl_wI (pl_wI m 24 (pl_lt1 A (ml_I m 24) (N - 1 - (j + 1)) 0)) 25 (pl_lt2 A (ml_I m 25) (N - 1 - (j + 1)) 0))
    rw [show N - 1 - (j + 1) = N - 1 - j - 1 by omega, ← ei (fX4_gather_87 fu) (N - 1 - j) (by omega) (by omega)]
    simp (disch := omega) only [fX4_gather_87, pl_leZ, show ¬ N - 1 - j = 0 by omega, if_false]
  · rw [Nat.sub_self]
    simp (disch := omega) only [fX4_gather_87, pl_leZ, if_true]

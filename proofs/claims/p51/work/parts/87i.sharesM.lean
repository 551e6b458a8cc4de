/-! SHARINGS: the reference's next sharing. -/
theorem pl_us_ors (w : List Nat) : pl_ors (fun i => 2 ^ w.getD i 0) w.length = pl_us w := by
  apply Nat.eq_of_testBit_eq
  intro l
  rw [pl_ors_tb, pl_us_tb]
  by_cases hm : l ∈ w
  · rw [decide_eq_true hm, pl_any_iff]
    obtain ⟨i, hi, he⟩ := List.getElem_of_mem hm
    refine ⟨i, hi, ?_⟩
    rw [List.getD_eq_getElem?_getD, List.getElem?_eq_getElem hi, he]
    exact Nat.testBit_two_pow_self
  · rw [decide_eq_false hm]
    cases hc : pl_any (fun i => (2 ^ w.getD i 0).testBit l) w.length with
    | false => rfl
    | true =>
      exfalso
      obtain ⟨i, hi, hd⟩ := (pl_any_iff _ _).mp hc
      rw [Nat.testBit_two_pow] at hd
      have hd := of_decide_eq_true hd
      apply hm
      rw [← hd, List.getD_eq_getElem?_getD, List.getElem?_eq_getElem hi]
      exact List.getElem_mem hi
theorem pl_get_lt {w : List Nat} {nl t : Nat} (hw : ∀ x ∈ w, x < nl) (ht : t < w.length) : w.getD t 0 < nl := by
  refine hw _ ?_
  rw [List.getD_eq_getElem?_getD, List.getElem?_eq_getElem ht]
  exact List.getElem_mem ht
def pl_pk (A : pl_A) (w : List Nat) (k : Nat) : Bool := decide (pl_N A 1 (w.getD (pl_N A 3 k 0) 0) 1 ≤ pl_N A 1 (w.getD (pl_N A 3 k 1) 0) 1)
/-- who has which trunk, as the reference has it -/
def pl_ow2 (A : pl_A) (m : ml_M) (w : List Nat) : Prop := w.length = pl_N A 0 1 0 ∧ (∀ x ∈ w, x < pl_N A 0 0 0) ∧ ∀ i, i < pl_N A 0 1 0 → ml_I m 48 i = nI (w.getD i 0)
theorem pl_isShM {A : pl_A} {m : ml_M} (hS : pl_Sh m) (hW : pl_W A) (hM : pl_M A m) {w : List Nat} (ho : pl_ow2 A m w) : fX11_isSharing 33 m = some (if pl_good A w = true then 1 else 0) := by
  obtain ⟨o1, o2, o3⟩ := ho
  have hww := hW.1
  unfold pl_Wc at hww
  have k33 := pl_k33 hS
  have k40 := pl_k40 hS
  have k42 := pl_k42 hS
  have k48 := pl_k48 hS
  have r12 := pl_r33_12 hS
  have r14 := pl_r33_14 hS
  have r27 := pl_r33_27 hS
  have h10 := hM.1.2.1
  have h11 := hM.1.2.2.1
  have e1 : (1 : Int32) = nI 1 := rfl
  have e2 : (2 : Int32) = nI 2 := rfl
  have e5 : (5 : Int32) = nI 5 := rfl
  have hgood : pl_good A w = (pl_all (pl_pk A w) (pl_N A 0 2 0) && pl_cov A (pl_us w)) := rfl
  have hcov := pl_covM hS hW hM (s := pl_us w)
  have h106 : ∀ b : Bool, fX11_isSharing_106 33 (nI (pl_us w)) (if b = true then 1 else 0) m = some (if (b && pl_cov A (pl_us w)) = true then 1 else 0) := fun b => by
    cases b
    · simp only [fX11_isSharing_106, Bool.false_eq_true, if_false, if_true, Bool.false_and]
    · by_cases hc : pl_cov A (pl_us w) = true
      · rw [hc] at hcov
        simp only [fX11_isSharing_106, if_true, pl_10, if_false, k33, hcov, ↓pl_let, pl_b1, pl_b2, ↓reduceIte, hc, Bool.true_and]
      · have hc0 : pl_cov A (pl_us w) = false := by simpa using hc
        rw [hc0] at hcov
        simp only [fX11_isSharing_106, if_true, pl_10, if_false, k33, hcov, ↓pl_let, pl_b1, pl_b2, ↓reduceIte, hc0, Bool.true_and, Bool.false_eq_true]
  have h33 : fX11_isSharing_33 ml_fu 33 (nI (pl_us w)) 1 0 m = some (if pl_good A w = true then 1 else 0) := by
    have hh := pl_forE (F := fun fu k (f : Int32) => fX11_isSharing_33 fu 33 (nI (pl_us w)) f (nI k) m) (R := some (if pl_good A w = true then 1 else 0)) (pl_N A 0 2 0) (fun k => if pl_all (pl_pk A w) k = true then 1 else 0) (fun fu k hk => ?_) (fun fu => ?_) ml_fu (by rw [pl_fu]; omega)
    · exact hh
    · show fX11_isSharing_33 (fu + 1) 33 (nI (pl_us w)) (if pl_all (pl_pk A w) k = true then 1 else 0) (nI k) m = fX11_isSharing_33 fu 33 (nI (pl_us w)) (if pl_all (pl_pk A w) (k + 1) = true then 1 else 0) (nI (k + 1)) m ∨ fX11_isSharing_33 (fu + 1) 33 (nI (pl_us w)) (if pl_all (pl_pk A w) k = true then 1 else 0) (nI k) m = _
      have hp := hW.2.2.2.1 k hk
      have hp3 := hM.2.2.2.1.2.2 k hk
      have p0 := hp3 0 (by decide)
      have p1 := hp3 1 (by decide)
      rw [Nat.add_zero] at p0
      have g0 := pl_get_lt o2 (t := pl_N A 3 k 0) (by omega)
      have g1 := pl_get_lt o2 (t := pl_N A 3 k 1) (by omega)
      have l0 := hM.2.2.2.1.1 _ g0 1 (by decide)
      have l1 := hM.2.2.2.1.1 _ g1 1 (by decide)
      have b0 := (hW.2.1 _ g0).2.1
      have b1 := (hW.2.1 _ g1).2.1
      have w0 := o3 _ hp.1
      have w1 := o3 _ hp.2.1
      by_cases ha : pl_all (pl_pk A w) k = true
      · left
        have e : pl_all (pl_pk A w) (k + 1) = (pl_all (pl_pk A w) k && pl_pk A w k) := rfl
        rw [e, ha, Bool.true_and, if_pos rfl]
        unfold pl_pk
        generalize w.getD (pl_N A 3 k 0) 0 = a0 at *
        generalize w.getD (pl_N A 3 k 1) 0 = a1 at *
        by_cases c : pl_N A 1 a0 1 ≤ pl_N A 1 a1 1
        · rw [if_pos (decide_eq_true c)]
          simp (disch := omega) only [fX11_isSharing_33, fX11_isSharing_99, k33, if_true, h11, nI_leI, show ¬ pl_N A 0 2 0 ≤ k by omega, if_false, pl_10, ↓pl_let, pl_b1, pl_b2, ↓reduceIte, r12, r14, r27, e1, e2, e5, pl_eq0, Nat.reduceEqDiff, pk_mul, nI_add, pl_in, nI_clamp, k42, show 2 * k + 1 < 24 by omega, show 2 * k < 24 by omega, and_self, p0, p1, k48, show pl_N A 3 k 0 < 8 by omega, show pl_N A 3 k 1 < 8 by omega, w0, w1, k40, show 5 * a0 + 1 < 40 by omega, show 5 * a1 + 1 < 40 by omega, l0, l1, nI_ltI, show ¬ pl_N A 1 a1 1 < pl_N A 1 a0 1 by omega]
        · rw [if_neg (by simpa using c)]
          simp (disch := omega) only [fX11_isSharing_33, fX11_isSharing_99, k33, if_true, h11, nI_leI, show ¬ pl_N A 0 2 0 ≤ k by omega, if_false, pl_10, ↓pl_let, pl_b1, pl_b2, ↓reduceIte, r12, r14, r27, e1, e2, e5, pl_eq0, Nat.reduceEqDiff, pk_mul, nI_add, pl_in, nI_clamp, k42, show 2 * k + 1 < 24 by omega, show 2 * k < 24 by omega, and_self, p0, p1, k48, show pl_N A 3 k 0 < 8 by omega, show pl_N A 3 k 1 < 8 by omega, w0, w1, k40, show 5 * a0 + 1 < 40 by omega, show 5 * a1 + 1 < 40 by omega, l0, l1, nI_ltI, show pl_N A 1 a1 1 < pl_N A 1 a0 1 by omega]
      · right
        have hall : pl_all (pl_pk A w) (pl_N A 0 2 0) = false := by
          cases hc : pl_all (pl_pk A w) (pl_N A 0 2 0) with
          | false => rfl
          | true =>
            exfalso
            rw [pl_all_iff] at hc
            exact ha ((pl_all_iff _ _).mpr fun j hj => hc j (by omega))
        have h6 := h106 false
        rw [if_neg (by decide), Bool.false_and] at h6
        rw [if_neg ha, hgood, hall, Bool.false_and, ← h6]
        simp (disch := omega) only [fX11_isSharing_33, k33, if_true, h11, nI_leI, show ¬ pl_N A 0 2 0 ≤ k by omega, if_false]
    · rw [hgood, ← h106]
      simp (disch := omega) only [fX11_isSharing_33, k33, if_true, h11, nI_leI, Nat.le_refl]
  have hh := pl_for (F := fun fu t (_ : Unit) => fX11_isSharing_4 fu 33 (nI (pl_ors (fun i => 2 ^ w.getD i 0) t)) (nI t) m) (R := some (if pl_good A w = true then 1 else 0)) (pl_N A 0 1 0) (fun _ => ()) (fun fu t ht => ?_) (fun fu => ?_) ml_fu (by rw [pl_fu]; omega)
  · exact hh
  · show fX11_isSharing_4 (fu + 1) 33 (nI (pl_ors (fun i => 2 ^ w.getD i 0) t)) (nI t) m = fX11_isSharing_4 fu 33 (nI (pl_ors (fun i => 2 ^ w.getD i 0) (t + 1))) (nI (t + 1)) m
    have g := pl_get_lt o2 (t := t) (by omega)
    have wt := o3 t ht
    have hor : nI (pl_ors (fun i => 2 ^ w.getD i 0) t) ||| (1 : Int32) <<< (nI (w.getD t 0) &&& 31) = nI (pl_ors (fun i => 2 ^ w.getD i 0) t ||| 2 ^ w.getD t 0) := by rw [pl_shl1 (by omega), pl_or]
    rw [pl_ors1]
    simp (disch := omega) only [fX11_isSharing_4, k33, if_true, h10, nI_leI, show ¬ pl_N A 0 1 0 ≤ t by omega, if_false, ↓pl_let, pl_b1, pl_b2, ↓reduceIte, r27, pl_in, nI_clamp, k48, show t < 8 by omega, and_self, wt, hor, nI_1]
  · have hu := pl_us_ors w
    rw [o1] at hu
    rw [hu, ← h33]
    simp (disch := omega) only [fX11_isSharing_4, fX11_isSharing_29, k33, if_true, h10, nI_leI, Nat.le_refl]
theorem pl_isMvM {A : pl_A} {m : ml_M} (hS : pl_Sh m) (hW : pl_W A) (hM : pl_M A m) {w : List Nat} (ho : pl_ow2 A m w) {i : Nat} (hi : i < pl_N A 0 3 0) : fX11_isMoved 33 (nI i) m = some (if (decide (pl_N A 4 i 3 ≠ 100) && !pl_may A (w.getD (pl_N A 4 i 3) 0) i) = true then 1 else 0) := by
  obtain ⟨o1, o2, o3⟩ := ho
  have hww := hW.1
  unfold pl_Wc at hww
  have k33 := pl_k33 hS
  have k48 := pl_k48 hS
  have r27 := pl_r33_27 hS
  obtain ⟨-, -, -, t4⟩ := pl_thgM hS hW hM hi
  obtain ⟨b1, b2⟩ := pl_tcB hW hi
  have hwt := (hW.2.2.2.2.1 i hi).2.2.2.1
  have hn9 : (pl_tc (pl_N A 4 i 3) = (-9 : Int32)) = (pl_N A 4 i 3 = 100) := pl_tcN b1
  by_cases hf : pl_N A 4 i 3 = 100
  · rw [if_neg (by simp [hf])]
    simp only [fX11_isMoved, k33, if_true, t4, ↓pl_let, pl_b1, pl_b2, ↓reduceIte, hn9, eq_true hf]
  · have htn : pl_N A 4 i 3 < pl_N A 0 1 0 := by omega
    have htc : pl_tc (pl_N A 4 i 3) = nI (pl_N A 4 i 3) := by unfold pl_tc; rw [if_neg hf]
    rw [htc] at t4 hn9
    have g := pl_get_lt o2 (t := pl_N A 4 i 3) (by omega)
    have hmy := pl_mayM hS hW hM (l := w.getD (pl_N A 4 i 3) 0) (i := i) g hi
    have wt := o3 _ htn
    by_cases hm : pl_may A (w.getD (pl_N A 4 i 3) 0) i = true
    · rw [hm, if_pos rfl] at hmy
      rw [if_neg (by rw [hm]; simp)]
      simp (disch := omega) only [fX11_isMoved, k33, if_true, t4, ↓pl_let, pl_b1, pl_b2, ↓reduceIte, hn9, hf, if_false, r27, pl_in, nI_clamp, k48, show pl_N A 4 i 3 < 8 by omega, and_self, wt, hmy, pl_10]
    · have hm0 : pl_may A (w.getD (pl_N A 4 i 3) 0) i = false := by simpa using hm
      rw [hm0, if_neg (by decide)] at hmy
      rw [if_pos (by rw [hm0]; simp [hf])]
      simp (disch := omega) only [fX11_isMoved, k33, if_true, t4, ↓pl_let, pl_b1, pl_b2, ↓reduceIte, hn9, hf, if_false, r27, pl_in, nI_clamp, k48, show pl_N A 4 i 3 < 8 by omega, and_self, wt, hmy]
theorem pl_movedM {A : pl_A} {m : ml_M} (hS : pl_Sh m) (hW : pl_W A) (hM : pl_M A m) {w : List Nat} (ho : pl_ow2 A m w) : fX11_movedMany 33 m = some (nI (pl_moved A w)) := by
  have hww := hW.1
  unfold pl_Wc at hww
  have k33 := pl_k33 hS
  have h24 := hM.1.2.2.2.1
  have hh := pl_for (F := fun fu i (_ : Unit) => fX11_movedMany_4 fu 33 (nI (pl_cnt (fun i => decide (pl_N A 4 i 3 ≠ 100) && !pl_may A (w.getD (pl_N A 4 i 3) 0) i) i)) (nI i) m) (R := some (nI (pl_moved A w))) (pl_N A 0 3 0) (fun _ => ()) (fun fu i hi => ?_) (fun fu => ?_) ml_fu (by rw [pl_fu]; omega)
  · exact hh
  · show fX11_movedMany_4 (fu + 1) 33 (nI (pl_cnt (fun i => decide (pl_N A 4 i 3 ≠ 100) && !pl_may A (w.getD (pl_N A 4 i 3) 0) i) i)) (nI i) m = fX11_movedMany_4 fu 33 (nI (pl_cnt (fun i => decide (pl_N A 4 i 3 ≠ 100) && !pl_may A (w.getD (pl_N A 4 i 3) 0) i) (i + 1))) (nI (i + 1)) m
    have hm := pl_isMvM hS hW hM ho hi
    rw [pl_cnt1]
    by_cases c : (decide (pl_N A 4 i 3 ≠ 100) && !pl_may A (w.getD (pl_N A 4 i 3) 0) i) = true
    · rw [if_pos c] at hm ⊢
      simp (disch := omega) only [fX11_movedMany_4, fX11_movedMany_26, k33, if_true, h24, nI_leI, show ¬ pl_N A 0 3 0 ≤ i by omega, if_false, hm, ↓pl_let, pl_b1, pl_b2, ↓reduceIte, pl_10, nI_1]
    · rw [if_neg c] at hm ⊢
      simp (disch := omega) only [fX11_movedMany_4, fX11_movedMany_26, k33, if_true, h24, nI_leI, show ¬ pl_N A 0 3 0 ≤ i by omega, if_false, hm, ↓pl_let, pl_b1, pl_b2, ↓reduceIte, Int32.add_zero, nI_1]
  · simp (disch := omega) only [fX11_movedMany_4, k33, if_true, h24, nI_leI, Nat.le_refl]
    rfl
def pl_sf2 (A : pl_A) (n : Nat) (w : List Nat) : Bool := pl_good A w && decide (pl_moved A w ≤ n)
/-- what the next sharing is -/
def pl_nS (A : pl_A) (Z : ml_M) (n : Nat) (rem : List (List Nat)) (R : Option (Int32 × ml_M)) : Prop :=
  (rem.filter (pl_sf2 A n) = [] ∧ ∃ o, R = some (0, pl_so Z 1 o)) ∨ ∃ w tl o, rem.filter (pl_sf2 A n) = w :: tl.filter (pl_sf2 A n) ∧ tl.length < rem.length ∧ R = some (1, pl_so Z 1 o) ∧ pl_fr0 (pl_N A 0 0 0) (pl_N A 0 1 0) w o ∧ pl_rs2 (pl_N A 0 0 0) (pl_N A 0 1 0) 1 o tl ∧ pl_sf2 A n w = true
theorem pl_nextS {A : pl_A} {Z : ml_M} (hS : pl_Sh Z) (hW : pl_W A) (hM : pl_M A Z) {n : Nat} (hn : n ≤ 20) : ∀ rem b o fu, rem.length < fu → pl_rs2 (pl_N A 0 0 0) (pl_N A 0 1 0) b o rem → pl_nS A Z n rem (ml_b2 (fX11_nextRow 33 (pl_so Z b o)) fun r m => fX11_nextSharing_5 fu 33 (nI n) r m) := by
  have hww := hW.1
  unfold pl_Wc at hww
  have k33 := pl_k33 hS
  intro rem
  induction rem with
  | nil =>
    intro b o fu hfu hr
    obtain ⟨fu, rfl⟩ : ∃ q, fu = q + 1 := ⟨fu - 1, by omega⟩
    rcases pl_nextM hS (by omega) (by omega) hM.1.1 hM.1.2.1 hr with ⟨-, o', he⟩ | ⟨w, tl, o', h1, -⟩
    · left
      refine ⟨rfl, o', ?_⟩
      rw [he, pl_b2]
      simp only [fX11_nextSharing_5, if_true, true_or]
    · cases h1
  | cons w tl ih =>
    intro b o fu hfu hr
    obtain ⟨fu, rfl⟩ : ∃ q, fu = q + 1 := ⟨fu - 1, by omega⟩
    rcases pl_nextM hS (by omega) (by omega) hM.1.1 hM.1.2.1 hr with ⟨h1, -⟩ | ⟨w', tl', o', h1, he, hf, hr'⟩
    · cases h1
    · cases h1
      have hS' := pl_so_S hS 1 o'
      have hM' : pl_M A (pl_so Z 1 o') := (pl_so_kp Z 1 o').M hM
      obtain ⟨f1, f2, f3, f4, f5⟩ := hf
      have ho : pl_ow2 A (pl_so Z 1 o') w := ⟨f1, f3, fun i hi => by rw [pl_so_48]; exact f4 i hi⟩
      have hsh := pl_isShM hS' hW hM' ho
      have hmv := pl_movedM hS' hW hM' ho
      have hm20 := pl_moved_le hW w
      rw [List.length_cons] at hfu
      have ihx := ih 1 o' fu (by omega) hr'
      have hskip : pl_sf2 A n w = false → pl_nS A Z n (w :: tl) (ml_b2 (fX11_nextRow 33 (pl_so Z 1 o')) fun r m => fX11_nextSharing_5 fu 33 (nI n) r m) := fun hz => by
        have e : (w :: tl).filter (pl_sf2 A n) = tl.filter (pl_sf2 A n) := by rw [List.filter_cons, if_neg (by rw [hz]; decide)]
        rcases ihx with ⟨z1, z2⟩ | ⟨x, t2, o2, z1, z2, z3⟩
        · exact Or.inl ⟨by rw [e]; exact z1, z2⟩
        · exact Or.inr ⟨x, t2, o2, by rw [e]; exact z1, by rw [List.length_cons]; omega, z3⟩
      rw [he, pl_b2]
      by_cases hg : pl_good A w = true
      · rw [if_pos hg] at hsh
        by_cases hle : pl_moved A w ≤ n
        · right
          have hsf : pl_sf2 A n w = true := by unfold pl_sf2; rw [hg, decide_eq_true hle]; rfl
          refine ⟨w, tl, o', by rw [List.filter_cons, if_pos hsf], by rw [List.length_cons]; omega, ?_, ⟨f1, f2, f3, f4, f5⟩, hr', hsf⟩
          simp (disch := omega) only [fX11_nextSharing_5, pl_10, if_false, pl_so_K, k33, if_true, hsh, ↓pl_let, pl_b1, pl_b2, ↓reduceIte, hmv, nI_leI, hle, or_true]
        · have hz : pl_sf2 A n w = false := by unfold pl_sf2; rw [decide_eq_false hle, Bool.and_false]
          have hs := hskip hz
          have e : fX11_nextSharing_5 (fu + 1) 33 (nI n) 1 (pl_so Z 1 o') = ml_b2 (fX11_nextRow 33 (pl_so Z 1 o')) fun r m => fX11_nextSharing_5 fu 33 (nI n) r m := by
            simp (disch := omega) only [fX11_nextSharing_5, fX11_nextSharing_24, pl_10, if_false, pl_so_K, k33, if_true, hsh, ↓pl_let, pl_b1, pl_b2, ↓reduceIte, hmv, nI_leI, hle]
          rw [e]; exact hs
      · rw [if_neg hg] at hsh
        have hg0 : pl_good A w = false := by simpa using hg
        have hz : pl_sf2 A n w = false := by unfold pl_sf2; rw [hg0, Bool.false_and]
        have hs := hskip hz
        have e : fX11_nextSharing_5 (fu + 1) 33 (nI n) 1 (pl_so Z 1 o') = ml_b2 (fX11_nextRow 33 (pl_so Z 1 o')) fun r m => fX11_nextSharing_5 fu 33 (nI n) r m := by
          simp (disch := omega) only [fX11_nextSharing_5, fX11_nextSharing_24, pl_10, if_false, pl_so_K, k33, if_true, hsh, ↓pl_let, pl_b1, pl_b2, ↓reduceIte]
        rw [e]; exact hs
theorem pl_nextSh {A : pl_A} {Z : ml_M} (hS : pl_Sh Z) (hW : pl_W A) (hM : pl_M A Z) {n : Nat} (hn : n ≤ 20) {rem : List (List Nat)} {b : Int32} {o : Nat → Int32} (hl : rem.length ≤ 200001) (hr : pl_rs2 (pl_N A 0 0 0) (pl_N A 0 1 0) b o rem) : pl_nS A Z n rem (fX11_nextSharing 33 (nI n) (pl_so Z b o)) := by
  have h := pl_nextS hS hW hM hn rem b o ml_fu (by rw [pl_fu]; omega) hr
  have k33 : ml_K (pl_so Z b o) 33 = (11, 0) := pl_k33 hS
  unfold fX11_nextSharing
  rw [k33, if_pos rfl]
  exact h
theorem pl_beginM {M : ml_M} (hS : pl_Sh M) : fX11_beginSharings 33 M = some (pl_so M 0 (fun j => if j < 8 then -1 else ml_I M 48 j)) := by
  have k33 := pl_k33 hS
  have k48 := pl_k48 hS
  have r27 := pl_r33_27 hS
  have e8 : (8 : Int32) = nI 8 := rfl
  have hh := pl_for (F := fun fu t (_ : Unit) => fX11_beginSharings_7 fu 33 (nI t) (pl_so M 0 (fun j => if j < t then -1 else ml_I M 48 j))) (R := some (pl_so M 0 (fun j => if j < 8 then -1 else ml_I M 48 j))) 8 (fun _ => ()) (fun fu t ht => ?_) (fun fu => ?_) ml_fu (by rw [pl_fu]; omega)
  · have e : ml_sI M 33 28 0 = pl_so M 0 (fun j => if j < 0 then -1 else ml_I M 48 j) := by
      have : (fun j => if j < 0 then (-1 : Int32) else ml_I M 48 j) = ml_I (ml_sI M 33 28 0) 48 := by
        funext j
        rw [if_neg (Nat.not_lt_zero j), pl_I_sI, if_neg (by omega)]
      unfold pl_so
      rw [this, pl_wI_0]
    unfold fX11_beginSharings
    rw [k33, if_pos rfl, pl_let, e]
    exact hh
  · show fX11_beginSharings_7 (fu + 1) 33 (nI t) (pl_so M 0 (fun j => if j < t then -1 else ml_I M 48 j)) = fX11_beginSharings_7 fu 33 (nI (t + 1)) (pl_so M 0 (fun j => if j < t + 1 then -1 else ml_I M 48 j))
    have e : pl_up (fun j => if j < t then (-1 : Int32) else ml_I M 48 j) t (-1) = fun j => if j < t + 1 then -1 else ml_I M 48 j := by
      funext j
      unfold pl_up
      by_cases h : j = t
      · rw [if_pos h, if_pos (by omega)]
      · rw [if_neg h]
        show (if j < t then (-1 : Int32) else ml_I M 48 j) = _
        by_cases h2 : j < t
        · rw [if_pos h2, if_pos (by omega)]
        · rw [if_neg h2, if_neg (by omega)]
    rw [← e]
    simp (disch := omega) only [fX11_beginSharings_7, e8, nI_leI, show ¬ 8 ≤ t by omega, if_false, pl_so_K, k33, if_true, ↓pl_let, pl_b1, pl_b2, ↓reduceIte, pl_so_R, r27, pl_in, nI_clamp, k48, ht, and_self, pl_so_sI, nI_1]
  · simp (disch := omega) only [fX11_beginSharings_7, e8, nI_leI, Nat.le_refl, if_true]
theorem pl_R_len {A : pl_A} (hW : pl_W A) : (pl_gv (pl_N A 0 0 0) (pl_N A 0 1 0) []).length ≤ 200001 := by
  have hww := hW.1
  unfold pl_Wc at hww
  have h1 := pl_gv_len (nl := pl_N A 0 0 0) (nt := pl_N A 0 1 0) (pl_N A 0 1 0) [] List.nodup_nil (fun x hx => by simp at hx) (by simp)
  have h2 := pl_dz_b (nl := pl_N A 0 0 0) (nt := pl_N A 0 1 0) (by omega) (by omega)
  have h3 : (pl_gv (pl_N A 0 0 0) (pl_N A 0 1 0) []).length ≤ 1 + pl_dz (pl_N A 0 0 0) (pl_N A 0 1 0) (pl_N A 0 1 0) := h1
  omega

/-! SETS: bits of small numbers; who can follow whom. -/
theorem pl_tb_ins (S t i : Nat) : (S ||| 2 ^ t).testBit i = (S.testBit i || decide (t = i)) := by
  rw [Nat.testBit_or, Nat.testBit_two_pow]
theorem pl_ins_lt {S t n : Nat} (hS : S < 2 ^ n) (ht : t < n) : S ||| 2 ^ t < 2 ^ n := Nat.or_lt_two_pow hS (Nat.pow_lt_pow_right (by decide) ht)
theorem pl_ins_gt {S t : Nat} (h : S.testBit t = false) : S < S ||| 2 ^ t := by
  have h1 : S ≤ S ||| 2 ^ t := Nat.left_le_or
  have h2 : S ≠ S ||| 2 ^ t := fun z => by
    have := pl_tb_ins S t t
    rw [← z, h] at this
    simp at this
  omega
/-- how many of the first n bits a set has -/
def pl_bc (S n : Nat) : Nat := pl_cnt (fun i => S.testBit i) n
theorem pl_bc_le (S n : Nat) : pl_bc S n ≤ n := pl_cnt_le _ _
theorem pl_cnt_eq {p q : Nat → Bool} {n : Nat} (h : ∀ i, i < n → p i = q i) : pl_cnt p n = pl_cnt q n := by
  induction n with
  | zero => rfl
  | succ n ih => rw [pl_cnt1, pl_cnt1, ih (fun i hi => h i (by omega)), h n (by omega)]
theorem pl_bc_ins {S t n : Nat} (h : S.testBit t = false) (ht : t < n) : pl_bc (S ||| 2 ^ t) n = pl_bc S n + 1 := by
  unfold pl_bc
  induction n with
  | zero => omega
  | succ n ih =>
    rw [pl_cnt1, pl_cnt1]
    by_cases htn : t = n
    · subst htn
      have e : pl_cnt (fun i => (S ||| 2 ^ t).testBit i) t = pl_cnt (fun i => S.testBit i) t := pl_cnt_eq fun i hi => by
        rw [pl_tb_ins, decide_eq_false (by omega), Bool.or_false]
      rw [e, pl_tb_ins, h, decide_eq_true rfl]
      simp
    · rw [ih (by omega)]
      have e : (S ||| 2 ^ t).testBit n = S.testBit n := by rw [pl_tb_ins, decide_eq_false htn, Bool.or_false]
      simp only [e]
      split <;> rfl
theorem pl_full_tb (n i : Nat) : (2 ^ n - 1).testBit i = decide (i < n) := Nat.testBit_two_pow_sub_one n i
theorem pl_eq_full {S n : Nat} (hS : S < 2 ^ n) : (∀ i, i < n → S.testBit i = true) ↔ S = 2 ^ n - 1 := by
  constructor
  · intro h
    apply Nat.eq_of_testBit_eq
    intro i
    rw [pl_full_tb]
    by_cases hi : i < n
    · rw [h i hi, decide_eq_true hi]
    · rw [decide_eq_false hi]
      exact Nat.testBit_lt_two_pow (Nat.lt_of_lt_of_le hS (Nat.pow_le_pow_right (by decide) (by omega)))
  · rintro rfl i hi
    rw [pl_full_tb, decide_eq_true hi]
theorem pl_cnt_full {p : Nat → Bool} {n : Nat} : pl_cnt p n = n ↔ ∀ i, i < n → p i = true := by
  induction n with
  | zero => exact ⟨fun _ i hi => by omega, fun _ => rfl⟩
  | succ n ih =>
    rw [pl_cnt1]
    have hle := pl_cnt_le p n
    constructor
    · intro h i hi
      by_cases hp : p n = true
      · rw [if_pos hp] at h
        by_cases hin : i = n
        · exact hin ▸ hp
        · exact ih.mp (by omega) i (by omega)
      · rw [if_neg hp] at h; omega
    · intro h
      rw [if_pos (h n (by omega)), ih.mpr (fun i hi => h i (by omega))]
theorem pl_bc_full {S n : Nat} (hS : S < 2 ^ n) : pl_bc S n = n ↔ S = 2 ^ n - 1 := by
  unfold pl_bc
  rw [pl_cnt_full, pl_eq_full hS]
theorem pl_ors_tb (f : Nat → Nat) (n i : Nat) : (pl_ors f n).testBit i = pl_any (fun k => (f k).testBit i) n := by
  induction n with
  | zero => simp [pl_ors, pl_any]
  | succ n ih => rw [pl_ors1, Nat.testBit_or, ih, pl_any1]
theorem pl_set_tb (p : Nat → Bool) (n i : Nat) : (pl_set p n).testBit i = (decide (i < n) && p i) := by
  induction n with
  | zero => simp [pl_set]
  | succ n ih =>
    rw [pl_set1]
    by_cases hp : p n = true
    · rw [if_pos hp, pl_tb_ins, ih]
      by_cases hin : n = i
      · subst hin; simp [hp]
      · by_cases hlt : i < n
        · simp [hlt, show i < n + 1 by omega, hin]
        · simp [hlt, show ¬ i < n + 1 by omega, hin]
    · rw [if_neg hp, ih]
      have hp : p n = false := by simpa using hp
      by_cases hin : n = i
      · subst hin; simp [hp]
      · by_cases hlt : i < n
        · simp [hlt, show i < n + 1 by omega]
        · simp [hlt, show ¬ i < n + 1 by omega]
/-- an int's set without another -/
theorem pl_sub0 {b s : Nat} (hb : b < 2 ^ 31) (hs : s < 2 ^ 31) : (nI b &&& (nI s ^^^ (-1 : Int32)) = 0) = (∀ i, b.testBit i = true → s.testBit i = true) := by
  have e0 : nI b &&& (nI s ^^^ (-1 : Int32)) = 0 ↔ BitVec.ofNat 32 b &&& (BitVec.ofNat 32 s ^^^ BitVec.allOnes 32) = 0#32 := by
    rw [← Int32.toBitVec_inj]
    exact Iff.rfl
  apply propext
  rw [e0]
  constructor
  · intro h i hi
    by_cases hi32 : i < 32
    · have := congrArg (fun v => v.getLsbD i) h
      simp only [BitVec.getLsbD_and, BitVec.getLsbD_xor, BitVec.getLsbD_allOnes, BitVec.getLsbD_ofNat, BitVec.getLsbD_zero, hi32, decide_true, Bool.true_and, hi, Bool.xor_true] at this
      simpa using this
    · have := Nat.testBit_lt_two_pow (x := b) (i := i) (Nat.lt_of_lt_of_le hb (Nat.pow_le_pow_right (by decide) (by omega)))
      rw [this] at hi; cases hi
  · intro h
    apply BitVec.eq_of_getLsbD_eq
    intro i hi32
    simp only [BitVec.getLsbD_and, BitVec.getLsbD_xor, BitVec.getLsbD_allOnes, BitVec.getLsbD_ofNat, BitVec.getLsbD_zero, hi32, decide_true, Bool.true_and, Bool.xor_true]
    cases hb2 : b.testBit i with
    | false => simp
    | true => rw [h i hb2]; simp
/-- trunk t can come upon a set of trunks -/
def pl_cf (A : pl_A) (S t : Nat) : Bool := !S.testBit t && pl_all (fun k => decide (pl_N A 3 k 1 = t → S.testBit (pl_N A 3 k 0) = true)) (pl_N A 0 2 0)
theorem pl_blw_tb (A : pl_A) (t i : Nat) : (pl_blw A t).testBit i = pl_any (fun k => decide (pl_N A 3 k 1 = t ∧ pl_N A 3 k 0 = i)) (pl_N A 0 2 0) := by
  unfold pl_blw
  rw [pl_ors_tb]
  congr 1
  funext k
  by_cases h : pl_N A 3 k 1 = t
  · rw [if_pos h, Nat.testBit_two_pow]
    by_cases h2 : pl_N A 3 k 0 = i <;> simp [h, h2]
  · rw [if_neg h]
    simp [h]
theorem pl_blw_sub (A : pl_A) (S t : Nat) : (∀ i, (pl_blw A t).testBit i = true → S.testBit i = true) ↔ pl_all (fun k => decide (pl_N A 3 k 1 = t → S.testBit (pl_N A 3 k 0) = true)) (pl_N A 0 2 0) = true := by
  rw [pl_all_iff]
  constructor
  · intro h k hk
    refine decide_eq_true fun hkt => h _ ?_
    rw [pl_blw_tb, pl_any_iff]
    exact ⟨k, hk, decide_eq_true ⟨hkt, rfl⟩⟩
  · intro h i hi
    rw [pl_blw_tb, pl_any_iff] at hi
    obtain ⟨k, hk, hd⟩ := hi
    obtain ⟨h1, h2⟩ := of_decide_eq_true hd
    have := of_decide_eq_true (h k hk) h1
    rw [h2] at this
    exact this
theorem pl_ors_lt {f : Nat → Nat} {n b : Nat} (h : ∀ k, k < n → f k < 2 ^ b) : pl_ors f n < 2 ^ b := by
  induction n with
  | zero => exact Nat.two_pow_pos b
  | succ n ih => exact Nat.or_lt_two_pow (ih fun k hk => h k (by omega)) (h n (by omega))
theorem pl_blw_lt {A : pl_A} (hW : pl_W A) (t : Nat) : pl_blw A t < 2 ^ pl_N A 0 1 0 := by
  refine pl_ors_lt fun k hk => ?_
  split
  · exact Nat.pow_lt_pow_right (by decide) (hW.2.2.2.1 k hk).1
  · exact Nat.two_pow_pos _
theorem pl_canFollow {A : pl_A} {m : ml_M} (hS : pl_Sh m) (hW : pl_W A) (hCh : pl_Ch A m) {S t : Nat} (ht : t < pl_N A 0 1 0) (hSl : S < 2 ^ pl_N A 0 1 0) : fX10_canFollow 1 (nI S) (nI t) m = some (if pl_cf A S t then 1 else 0) := by
  have hw := hW.1
  unfold pl_Wc at hw
  have hT := hCh.2.2.2.2.2.2 t ht
  have hp : 2 ^ pl_N A 0 1 0 ≤ 2 ^ 8 := Nat.pow_le_pow_right (by decide) (by omega)
  have hb := pl_blw_lt hW t
  have hh := (pl_has (s := S) (t := t) (by omega) (by omega) m).1
  have z1 := hCh.1.2.2
  have z2 := hCh.2.2.1.2.2
  have hsub := pl_sub0 (b := pl_blw A t) (s := S) (by omega) (by omega)
  unfold pl_cf
  by_cases hs : S.testBit t = true
  · simp (disch := omega) only [fX10_canFollow, ↓pl_let, pl_b1, pl_b2, ↓reduceIte, hh, hs, if_true, pl_l1, pl_eq0, Nat.reduceEqDiff, if_false, Bool.not_true, Bool.false_and, Bool.false_eq_true]
  · have hs : S.testBit t = false := by simpa using hs
    simp (disch := omega) only [fX10_canFollow, ↓pl_let, pl_b1, pl_b2, ↓reduceIte, hh, hs, Bool.false_eq_true, if_false, if_true, pl_k1 hS, pl_k2 hS, pl_k3 hS, pl_k8 hS, pl_k9 hS, pl_k10 hS, pl_k11 hS, pl_k12 hS, pl_k13 hS, pl_k14 hS, pl_k15 hS, pl_k16 hS, pl_k17 hS, pl_k18 hS, pl_k19 hS, pl_k20 hS, pl_k21 hS, pl_k22 hS, pl_k23 hS, pl_k24 hS, pl_k25 hS, pl_k26 hS, pl_k27 hS, pl_k28 hS, pl_k29 hS, pl_k30 hS, pl_k31 hS, pl_k32 hS, pl_r1_0 hS, pl_r1_1 hS, pl_r1_4 hS, pl_r1_6 hS, pl_r1_8 hS, pl_r1_10 hS, pl_r1_12 hS, pl_r1_13 hS, pl_r1_14 hS, pl_r1_18 hS, pl_r12_2 hS, pl_r12_3 hS, pl_r12_4 hS, pl_r12_8 hS, pl_r12_9 hS, pl_r12_10 hS, pl_r12_11 hS, pl_r12_12 hS, pl_r21_3 hS, pl_r21_5 hS, pl_r21_6 hS, pl_r21_7 hS, pl_r26_0 hS, pl_r26_2 hS, pl_r26_3 hS, pl_r26_4 hS, pl_r26_5 hS, z1, z2, pl_in, nI_clamp, show t < 8 by omega, and_self, hT.1.2.2, hT.2.2.2.2, Bool.not_false, Bool.true_and]
    by_cases hz : pl_all (fun k => decide (pl_N A 3 k 1 = t → S.testBit (pl_N A 3 k 0) = true)) (pl_N A 0 2 0) = true
    · rw [if_pos (by rw [hsub]; exact (pl_blw_sub A S t).mpr hz), if_pos hz]
    · rw [if_neg (fun z => hz ((pl_blw_sub A S t).mp (by rw [← hsub]; exact z))), if_neg hz]
theorem pl_canCome {A : pl_A} {m : ml_M} (hS : pl_Sh m) (hW : pl_W A) (hM : pl_M A m) {S t : Nat} (ht : t < pl_N A 0 1 0) (hSl : S < 2 ^ pl_N A 0 1 0) : fX11_canCome 33 (nI t) (nI S) m = some (if pl_cf A S t then 1 else 0) := by
  have hw := hW.1
  unfold pl_Wc at hw
  have hp : 2 ^ pl_N A 0 1 0 ≤ 2 ^ 8 := Nat.pow_le_pow_right (by decide) (by omega)
  have hh := (pl_has (s := S) (t := t) (by omega) (by omega) m).2
  have hl : ∀ b : Bool, fX11_canCome_17 ml_fu 33 (nI t) (nI S) (if b then 1 else 0) 0 m = some (if (b && pl_all (fun k => decide (pl_N A 3 k 1 = t → S.testBit (pl_N A 3 k 0) = true)) (pl_N A 0 2 0)) then 1 else 0) := fun b => by
    have hx := pl_for (F := fun fu k g => fX11_canCome_17 fu 33 (nI t) (nI S) g (nI k) m) (R := some (if (b && pl_all (fun k => decide (pl_N A 3 k 1 = t → S.testBit (pl_N A 3 k 0) = true)) (pl_N A 0 2 0)) then 1 else 0)) (pl_N A 0 2 0) (fun k => if (b && pl_all (fun k => decide (pl_N A 3 k 1 = t → S.testBit (pl_N A 3 k 0) = true)) k) then 1 else 0) (fun fu k hk => ?_) (fun fu => ?_) ml_fu (by rw [pl_fu]; omega)
    · have e : (b && pl_all (fun k => decide (pl_N A 3 k 1 = t → S.testBit (pl_N A 3 k 0) = true)) 0) = b := by simp [pl_all]
      rw [e] at hx
      exact hx
    · have hp3 := hM.2.2.2.1.2.2 k hk
      have p0 := hp3 0 (by decide)
      have p1 := hp3 1 (by decide)
      rw [Nat.add_zero] at p0
      have hwp := hW.2.2.2.1 k hk
      have hh2 := (pl_has (s := S) (t := pl_N A 3 k 0) (by omega) (by omega) m).2
      have e : pl_all (fun k => decide (pl_N A 3 k 1 = t → S.testBit (pl_N A 3 k 0) = true)) (k + 1) = (pl_all (fun k => decide (pl_N A 3 k 1 = t → S.testBit (pl_N A 3 k 0) = true)) k && decide (pl_N A 3 k 1 = t → S.testBit (pl_N A 3 k 0) = true)) := rfl
      rw [e, ← Bool.and_assoc]
      generalize (b && pl_all (fun k => decide (pl_N A 3 k 1 = t → S.testBit (pl_N A 3 k 0) = true)) k) = g
      cases g
      · simp (disch := omega) only [fX11_canCome_17, fX11_canCome_65, fX11_canCome_66, ↓pl_let, pl_b1, pl_b2, ↓reduceIte, pl_k33 hS, hM.1.1, hM.1.2.1, hM.1.2.2.1, hM.1.2.2.2.1, hM.1.2.2.2.2.1, hM.1.2.2.2.2.2.1, hM.1.2.2.2.2.2.2.1, hM.1.2.2.2.2.2.2.2.1, nI_leI, show ¬ pl_N A 0 2 0 ≤ k by omega, if_false, if_true, Bool.false_eq_true, Bool.false_and, pl_l1, nI_add]
      · simp (disch := omega) only [fX11_canCome_17, fX11_canCome_61, fX11_canCome_65, fX11_canCome_66, ↓pl_let, pl_b1, pl_b2, ↓reduceIte, pl_k33 hS, pl_k34 hS, pl_k35 hS, pl_k36 hS, pl_k37 hS, pl_k38 hS, pl_k39 hS, pl_k40 hS, pl_k41 hS, pl_k42 hS, pl_k43 hS, pl_k44 hS, pl_k45 hS, pl_k46 hS, pl_k47 hS, pl_k48 hS, pl_k49 hS, pl_k50 hS, pl_k51 hS, pl_k52 hS, pl_k53 hS, pl_k54 hS, pl_k55 hS, pl_k56 hS, pl_k57 hS, pl_k58 hS, pl_k59 hS, pl_k60 hS, pl_r33_1 hS, pl_r33_4 hS, pl_r33_5 hS, pl_r33_6 hS, pl_r33_7 hS, pl_r33_8 hS, pl_r33_12 hS, pl_r33_13 hS, pl_r33_14 hS, pl_r33_20 hS, pl_r33_21 hS, pl_r33_22 hS, pl_r33_25 hS, pl_r33_26 hS, pl_r33_27 hS, pl_r33_29 hS, pl_r33_31 hS, pl_r33_35 hS, pl_r33_36 hS, pl_r33_38 hS, pl_r33_39 hS, pl_r33_40 hS, pl_r33_42 hS, pl_r33_43 hS, pl_r33_44 hS, pl_r33_45 hS, pl_r33_47 hS, hM.1.1, hM.1.2.1, hM.1.2.2.1, hM.1.2.2.2.1, hM.1.2.2.2.2.1, hM.1.2.2.2.2.2.1, hM.1.2.2.2.2.2.2.1, hM.1.2.2.2.2.2.2.2.1, pl_l1, pl_l2, pl_l3, pl_l4, pl_l5, pl_l6, pl_l7, pl_l8, pl_l9, pl_l10, pl_l11, pl_l12, pl_l13, pl_l14, pl_l15, pl_l16, pl_l17, pl_l18, pl_l19, pl_l20, pl_l21, pl_l22, pl_l23, pl_l24, pl_l25, pl_l26, pl_l27, pl_l28, pl_l29, pl_l30, pl_l31, pl_l32, pl_l33, pl_l34, pl_l35, pl_l36, pl_l37, pl_l38, pl_l39, pl_l40, pl_l41, pl_l42, pl_l43, pl_l44, pl_l45, pl_l46, pl_l47, pl_l48, pl_l49, pl_l50, pl_l51, pl_l52, pl_l53, pl_l54, pl_l55, pl_l56, pl_l57, pl_l58, pl_l59, pl_l60, pl_l61, pl_l62, pl_l63, pl_l64, pl_l99, pl_l100, pl_l119, pl_l120, pl_l255, pl_l256, pl_l999, pl_l1000, pl_l1023, pl_l1024, pl_l1111, pl_l5555, pl_l10240, nI_leI, show ¬ pl_N A 0 2 0 ≤ k by omega, if_false, if_true, pl_eq0, Nat.reduceEqDiff, pk_mul, nI_add, pl_in, nI_clamp, show 2 * k + 1 < 24 by omega, show 2 * k < 24 by omega, and_self, p0, p1, nI_eq, hh2, Bool.true_and]
        by_cases h1 : pl_N A 3 k 1 = t
        · by_cases h2 : S.testBit (pl_N A 3 k 0) = true
          · simp (disch := omega) only [h1, h2, if_true, pl_l1, pl_eq0, Nat.reduceEqDiff, if_false, forall_const, decide_true]
          · simp (disch := omega) only [h1, h2, if_true, if_false, forall_const, decide_false, Bool.false_eq_true]
        · simp (disch := omega) only [h1, if_false, if_true, false_implies, decide_true]
    · simp (disch := omega) only [fX11_canCome_17, ↓pl_let, pl_b1, pl_b2, ↓reduceIte, pl_k33 hS, hM.1.1, hM.1.2.1, hM.1.2.2.1, hM.1.2.2.2.1, hM.1.2.2.2.2.1, hM.1.2.2.2.2.2.1, hM.1.2.2.2.2.2.2.1, hM.1.2.2.2.2.2.2.2.1, nI_leI, Nat.le_refl, if_true]
      exact pl_b01 _
  unfold pl_cf
  by_cases hs : S.testBit t = true
  · have := hl false
    simp (disch := omega) only [fX11_canCome, fX11_canCome_13, ↓pl_let, pl_b1, pl_b2, ↓reduceIte, hh, hs, if_true, pl_l1, pl_eq0, Nat.reduceEqDiff, if_false, Bool.not_true, Bool.false_and, Bool.false_eq_true] at this ⊢
    exact this
  · have hs : S.testBit t = false := by simpa using hs
    have := hl true
    simp (disch := omega) only [fX11_canCome, fX11_canCome_13, ↓pl_let, pl_b1, pl_b2, ↓reduceIte, hh, hs, if_true, if_false, Bool.not_false, Bool.true_and, Bool.false_eq_true] at this ⊢
    exact this

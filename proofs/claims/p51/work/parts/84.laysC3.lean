/-! LAYS: the class's first row; its tables made anew. -/
theorem pl_nextOfC {A : pl_A} {m : ml_M} (hS : pl_Sh m) {n d set here joins : Nat} {js : Nat → Bool} (h4 : ml_I m 21 4 = nI n) (hnA : n = pl_N A 0 5 0) (hn10 : n ≤ 10) (hset : set < 2 ^ n) (hb : pl_bc set n + (d + 1) = n) (hj : joins < 2 ^ 31) (hjs : ∀ i, i < n → set.testBit i = false → joins.testBit i = js i) (hhere : here < 10240) (hg : ∀ i, i < n → set.testBit i = false → ml_I m 24 (10 * (set ||| 2 ^ i) + i) = nI (pl_gw A (set ||| 2 ^ i) i).1) (hh : ml_I m 24 here = nI (pl_G A (d + 1) set js).1) :
    fX4_nextOf 21 (nI set) (nI here) (nI joins) m = some (nI (pl_fi A d set js)) := by
  have p2 : 2 ^ n ≤ 1024 := Nat.le_trans (Nat.pow_le_pow_right (by decide) hn10) (by decide)
  have e1 : (1 : Int32) = nI 1 := rfl
  have e10 : (10 : Int32) = nI 10 := rfl
  have e31 : (31 : Int32) = nI 31 := rfl
  have k21 := pl_k21 hS
  have k24 := pl_k24 hS
  have r6 := pl_r21_6 hS
  have hok := pl_fi_ok A (d := d) (set := set) js (by omega) (by rw [← hnA]; exact hset) (by rw [← hnA]; exact hb)
  have hGb := pl_G_b A (d + 1) set js (by omega) (by rw [← hnA]; exact hset) (by rw [← hnA]; exact hb)
  have step : ∀ (fu i : Nat), i < n → (set.testBit i = true → fX4_nextOf_3 (fu + 1) 21 (nI set) (nI here) (nI joins) (nI i) m = fX4_nextOf_3 fu 21 (nI set) (nI here) (nI joins) (nI (i + 1)) m) ∧
      (set.testBit i = false → fX4_nextOf_3 (fu + 1) 21 (nI set) (nI here) (nI joins) (nI i) m = if pl_gs A d set js i = (pl_G A (d + 1) set js).1 then some (nI i) else fX4_nextOf_3 fu 21 (nI set) (nI here) (nI joins) (nI (i + 1)) m) := fun fu i hi => by
    have h1 := fun M => (pl_has (s := set) (t := i) (by omega) (by omega) M).1
    refine ⟨fun hq => ?_, fun hq => ?_⟩
    · have hz : ∀ (M : ml_M) (f : Int32 → Option Int32), ml_b1 (fX10_has (nI set) (nI i) M) f = f 1 := fun M f => by rw [h1, hq]; rfl
      simp (disch := omega) only [fX4_nextOf_3, fX4_nextOf_71, ↓hz, ↓pl_let, pl_b1, pl_b2, ↓reduceIte, k21, if_true, h4, nI_leI, show ¬ n ≤ i by omega, if_false, pl_10, nI_1]
    · have hz : ∀ (M : ml_M) (f : Int32 → Option Int32), ml_b1 (fX10_has (nI set) (nI i) M) f = f 0 := fun M f => by rw [h1, hq]; rfl
      have hg1 := hg i hi hq
      rw [pl_gw_ins (A := A) (d := d) hq (by omega) (by rw [← hnA]; omega)] at hg1
      have hlt : set ||| 2 ^ i < 2 ^ n := pl_ins_lt hset hi
      have hvb := pl_G_b A d (set ||| 2 ^ i) (pl_jn A i) (by omega) (by rw [← hnA]; exact hlt) (by rw [← hnA, pl_bc_ins hq hi]; omega)
      have hgs : pl_gs A d set js i = (pl_G A d (set ||| 2 ^ i) (pl_jn A i)).1 + (if js i then 0 else 1) := rfl
      have hidx : (nI (set ||| 2 ^ i) : Int32) * nI 10 + nI i = nI (10 * (set ||| 2 ^ i) + i) := by rw [pk_mul, nI_add, Nat.mul_comm]
      have h54 : ∀ (t0 t1 : Int32), t1 + t0 = nI (pl_gs A d set js i) → fX4_nextOf_54 (fX4_nextOf_3 fu) 21 (nI set) (nI here) (nI joins) (nI i) t0 t1 m = if pl_gs A d set js i = (pl_G A (d + 1) set js).1 then some (nI i) else fX4_nextOf_3 fu 21 (nI set) (nI here) (nI joins) (nI (i + 1)) m := fun t0 t1 htt => by
        have hb2 : pl_gs A d set js i < 2 ^ 31 := by rw [hgs]; split <;> omega
        simp (disch := omega) only [fX4_nextOf_54, fX4_nextOf_71, ↓pl_let, pl_b1, pl_b2, ↓reduceIte, htt, k21, if_true, r6, pl_in, nI_clamp, k24, hhere, and_self, hh, nI_eq, nI_1]
      have h3 := fun M => (pl_has (s := joins) (t := i) hj (by omega) M).1
      have hji := hjs i hi hq
      cases hjb : js i
      · rw [hjb] at hji hgs
        have hz3 : ∀ (M : ml_M) (f : Int32 → Option Int32), ml_b1 (fX10_has (nI joins) (nI i) M) f = f 0 := fun M f => by rw [h3, hji]; rfl
        rw [← h54 (nI 1) (nI (pl_G A d (set ||| 2 ^ i) (pl_jn A i)).1) (by rw [nI_add, hgs]; rfl)]
        simp (disch := omega) only [fX4_nextOf_3, fX4_slot, ↓hz, ↓hz3, ↓pl_let, pl_b1, pl_b2, ↓reduceIte, k21, k24, if_true, h4, nI_leI, show ¬ n ≤ i by omega, if_false, e1, e10, e31, pl_and, pl_shl2, pl_or, hidx, r6, pl_in, nI_clamp, show 10 * (set ||| 2 ^ i) + i < 10240 by omega, and_self, hg1]
      · rw [hjb] at hji hgs
        have hz3 : ∀ (M : ml_M) (f : Int32 → Option Int32), ml_b1 (fX10_has (nI joins) (nI i) M) f = f 1 := fun M f => by rw [h3, hji]; rfl
        rw [← h54 0 (nI (pl_G A d (set ||| 2 ^ i) (pl_jn A i)).1) (by rw [Int32.add_zero, hgs]; rfl)]
        simp (disch := omega) only [fX4_nextOf_3, fX4_slot, ↓hz, ↓hz3, ↓pl_let, pl_b1, pl_b2, ↓reduceIte, k21, k24, if_true, h4, nI_leI, show ¬ n ≤ i by omega, if_false, pl_eq0, Nat.reduceEqDiff, e1, e10, e31, pl_and, pl_shl2, pl_or, hidx, r6, pl_in, nI_clamp, show 10 * (set ||| 2 ^ i) + i < 10240 by omega, and_self, hg1]
  have hsr := pl_srch (F := fun fu i => fX4_nextOf_3 fu 21 (nI set) (nI here) (nI joins) (nI i) m) (R0 := some 0) (R1 := fun i => some (nI i)) n (fun j => !set.testBit j && decide (pl_gs A d set js j = (pl_G A (d + 1) set js).1)) (fun fu i hi hp => ?_) (fun fu i hi hp => ?_) (fun fu => ?_) ml_fu (by rw [pl_fu]; omega)
  · have hlt : pl_lst (fun j => !set.testBit j && decide (pl_gs A d set js j = (pl_G A (d + 1) set js).1)) n < n := by
      have := hok.1
      unfold pl_fi at this
      rw [hnA]; exact this
    rw [if_pos hlt] at hsr
    unfold fX4_nextOf
    refine hsr.trans ?_
    unfold pl_fi
    rw [hnA]
  · show fX4_nextOf_3 (fu + 1) 21 (nI set) (nI here) (nI joins) (nI i) m = fX4_nextOf_3 fu 21 (nI set) (nI here) (nI joins) (nI (i + 1)) m
    by_cases hq : set.testBit i = true
    · exact (step fu i hi).1 hq
    · have hq0 : set.testBit i = false := by simpa using hq
      rw [(step fu i hi).2 hq0, if_neg]
      intro z
      rw [hq0, decide_eq_true z] at hp
      cases hp
  · show fX4_nextOf_3 (fu + 1) 21 (nI set) (nI here) (nI joins) (nI i) m = some (nI i)
    rw [Bool.and_eq_true, decide_eq_true_eq] at hp
    have hq0 : set.testBit i = false := by simpa using hp.1
    rw [(step fu i hi).2 hq0, if_pos hp.2]
  · simp (disch := omega) only [fX4_nextOf_3, k21, if_true, h4, nI_leI, Nat.le_refl]
theorem pl_getD0 (x : Nat) (l : List Nat) : (x :: l).getD 0 0 = x := rfl
theorem pl_getD1 (x : Nat) (l : List Nat) (k : Nat) : (x :: l).getD (k + 1) 0 = l.getD k 0 := rfl
def pl_f22 (A : pl_A) (g : Nat → Int32) (d set : Nat) (js : Nat → Bool) (k : Nat) : Nat → Int32 := fun y => if k ≤ y ∧ y < k + d then nI ((pl_fr A d set js).getD (y - k) 0) else g y
theorem pl_firstC {A : pl_A} {m : ml_M} (hS : pl_Sh m) {n : Nat} (h4 : ml_I m 21 4 = nI n) (hnA : n = pl_N A 0 5 0) (hn10 : n ≤ 10) (h23 : ∀ i, i < n → ml_I m 23 i = pl_jt A i) (h24 : ∀ set last, set < 2 ^ n → last < n → set.testBit last = true → ml_I m 24 (10 * set + last) = nI (pl_gw A set last).1) :
    ∀ d k set here joins js g fu, k + d = n → d < fu → set < 2 ^ n → pl_bc set n + d = n → joins < 2 ^ 31 → (∀ i, i < n → set.testBit i = false → joins.testBit i = js i) → here < 10240 → (0 < d → ml_I m 24 here = nI (pl_G A d set js).1) →
      fX4_findFirst_13 fu 21 (nI set) (nI here) (nI joins) (nI k) (pl_wI m 22 g) = some (pl_wI m 22 (pl_f22 A g d set js k)) := by
  have p2 : 2 ^ n ≤ 1024 := Nat.le_trans (Nat.pow_le_pow_right (by decide) hn10) (by decide)
  have hI21 : ∀ g, ml_I (pl_wI m 22 g) 21 = ml_I m 21 := fun g => by rw [pl_I_wI, if_neg (by decide)]
  have hI23 : ∀ g, ml_I (pl_wI m 22 g) 23 = ml_I m 23 := fun g => by rw [pl_I_wI, if_neg (by decide)]
  have hI24 : ∀ g, ml_I (pl_wI m 22 g) 24 = ml_I m 24 := fun g => by rw [pl_I_wI, if_neg (by decide)]
  have k21 := pl_k21 hS
  have k22 := pl_k22 hS
  have k23 := pl_k23 hS
  have r3 := pl_r21_3 hS
  have r5 := pl_r21_5 hS
  have e1 : (1 : Int32) = nI 1 := rfl
  have e10 : (10 : Int32) = nI 10 := rfl
  have e31 : (31 : Int32) = nI 31 := rfl
  intro d
  induction d with
  | zero =>
    intro k set here joins js g fu hk hfu hset hb hj hjs hhere hh
    obtain ⟨fu, rfl⟩ : ∃ q, fu = q + 1 := ⟨fu - 1, by omega⟩
    have e : pl_f22 A g 0 set js k = g := by funext y; unfold pl_f22; rw [if_neg (by omega)]
    rw [e]
    simp (disch := omega) only [fX4_findFirst_13, pl_K_wI, k21, if_true, hI21, h4, nI_leI, show n ≤ k by omega]
  | succ d ih =>
    intro k set here joins js g fu hk hfu hset hb hj hjs hhere hh
    obtain ⟨fu, rfl⟩ : ∃ q, fu = q + 1 := ⟨fu - 1, by omega⟩
    have hnx := pl_nextOfC (A := A) (m := pl_wI m 22 g) (hS.wI 22 g) (by rw [hI21]; exact h4) hnA hn10 hset hb hj hjs hhere (fun i hi hq => by rw [hI24]; exact h24 _ _ (pl_ins_lt hset hi) hi (by rw [pl_tb_ins]; simp)) (by rw [hI24]; exact hh (by omega))
    have hok := pl_fi_ok A (d := d) (set := set) js (by omega) (by rw [← hnA]; exact hset) (by rw [← hnA]; exact hb)
    obtain ⟨i, hi⟩ : ∃ i, i = pl_fi A d set js := ⟨_, rfl⟩
    rw [← hi] at hnx hok
    have hin : i < n := by rw [hnA]; exact hok.1
    have hlt : set ||| 2 ^ i < 2 ^ n := pl_ins_lt hset hin
    have hgw := pl_gw_ins (A := A) (d := d) hok.2.1 hok.1 (by rw [← hnA]; omega)
    have hjb : pl_jd A i < 2 ^ n := by rw [hnA]; exact pl_set_lt _ _
    have hih := ih (k + 1) (set ||| 2 ^ i) (10 * (set ||| 2 ^ i) + i) (pl_jd A i) (pl_jn A i) (pl_up g k (nI i)) fu (by omega) (by omega) hlt (by rw [pl_bc_ins hok.2.1 hin]; omega) (by omega) (fun j hj hq => pl_jd_tb A (by omega) (fun z => by rw [← z, pl_tb_ins] at hq; simp at hq)) (by omega) (fun _ => by rw [h24 _ _ hlt hin (by rw [pl_tb_ins]; simp), hgw])
    have ef : pl_f22 A (pl_up g k (nI i)) d (set ||| 2 ^ i) (pl_jn A i) (k + 1) = pl_f22 A g (d + 1) set js k := by
      funext y
      unfold pl_f22 pl_up
      rw [pl_fr1, ← hi]
      by_cases hy : y = k
      · rw [if_neg (by omega), if_pos hy, if_pos (by omega), show y - k = 0 by omega, pl_getD0]
      · by_cases hy2 : k + 1 ≤ y ∧ y < k + 1 + d
        · obtain ⟨e, he⟩ : ∃ e, y - k = e + 1 := ⟨y - k - 1, by omega⟩
          rw [if_pos hy2, if_pos (by omega), he, pl_getD1, show y - (k + 1) = e by omega]
        · rw [if_neg hy2, if_neg hy, if_neg (by omega)]
    rw [ef] at hih
    have hidx : (nI (set ||| 2 ^ i) : Int32) * 10 + nI i = nI (10 * (set ||| 2 ^ i) + i) := by rw [e10, pk_mul, nI_add, Nat.mul_comm]
    have h23i := h23 i hin
    unfold pl_jt at h23i
    have hor : nI set ||| (1 : Int32) <<< (nI i &&& 31) = nI (set ||| 2 ^ i) := by rw [pl_shl1 (by omega), pl_or]
    rw [← hih]
    simp (disch := omega) only [fX4_findFirst_13, fX4_slot, ↓pl_let, pl_b1, pl_b2, ↓reduceIte, pl_K_wI, k21, k22, k23, if_true, hI21, h4, nI_leI, show ¬ n ≤ k by omega, if_false, hnx, pl_R_wI, r3, r5, pl_in, nI_clamp, show k < 10 by omega, show i < 10 by omega, and_self, pl_wI_sI, pl_up_0, hor, hidx, hI23, h23i, nI_1]
theorem pl_refrL {A : pl_A} {m : ml_M} (h : pl_Rel A m) : ∃ m1, fX10_refreshLays 1 m = some m1 ∧ pl_Rel A m1 ∧ ml_n m1 = ml_n m ∧ ml_s m1 = ml_s m ∧ ml_I m1 21 0 = 0 ∧ ml_I m1 21 1 = nI (pl_G A (pl_N A 0 5 0) 0 fun _ => false).1 ∧ ml_I m1 21 2 = nI (pl_G A (pl_N A 0 5 0) 0 fun _ => false).2 ∧ ∀ k, k < pl_N A 0 5 0 → ml_I m1 22 k = nI ((pl_fr A (pl_N A 0 5 0) 0 fun _ => false).getD k 0) := by
  obtain ⟨hS, hW, hM, hC⟩ := h
  have h : pl_Rel A m := ⟨hS, hW, hM, hC⟩
  have hw := hW.1
  unfold pl_Wc at hw
  rcases hC.2.2.2.2.2.2.2.2.1 with hst | hst
  · obtain ⟨n, hnA⟩ : ∃ n, n = pl_N A 0 5 0 := ⟨_, rfl⟩
    have hn10 : n ≤ 10 := by omega
    have p1 : 1 ≤ 2 ^ n := Nat.one_le_two_pow
    have h9 : ml_I m 1 9 = nI n := by rw [hnA]; exact hC.1.2.2.2.1
    rw [← hnA]
    obtain ⟨m0, hm0⟩ : ∃ m0, m0 = ml_sI m 21 4 (nI n) := ⟨_, rfl⟩
    have hS0 : pl_Sh m0 := by rw [hm0]; exact hS.sI 21 4 (nI n)
    have h4 : ml_I m0 21 4 = nI n := by rw [hm0, pl_I_sI, if_pos ⟨rfl, rfl⟩]
    have hx0 : pl_ex [21, 22, 23, 24, 25] m m0 := by rw [hm0]; exact (pl_ex.refl _ m).sI (by decide)
    have dd : pl_dif [] [] [] A A := ⟨fun _ _ _ => rfl, fun _ _ => rfl, fun _ _ => rfl⟩
    have hCn : ∀ g, pl_Cn A (pl_wI m0 23 g) := fun g => by
      have hx := hx0.wI (a := 23) (g := g) (Or.inl (by decide))
      obtain ⟨-, -, -, -, fn, -, -, -⟩ := pl_Cd dd hS hC hx (by decide) (by rw [hm0]; rfl)
      exact fn (by decide)
    have hjo := pl_joinedC hS0 hW hCn hnA h4
    obtain ⟨m1, hm1⟩ : ∃ m1, m1 = pl_wI m0 23 (pl_tw (ml_I m0 23) (pl_jt A) 0 n) := ⟨_, rfl⟩
    rw [← hm1] at hjo
    have hS1 : pl_Sh m1 := by rw [hm1]; exact hS0.wI 23 _
    have h41 : ml_I m1 21 4 = nI n := by rw [hm1, pl_I_wI, if_neg (by decide)]; exact h4
    have h231 : ∀ i, i < n → ml_I m1 23 i = pl_jt A i := fun i hi => by rw [hm1, pl_I_wI, if_pos rfl, pl_tw_i (by omega)]
    have htb := pl_tablesC hS1 hW hnA h41 h231
    obtain ⟨m2, hm2⟩ : ∃ m2, m2 = pl_wI (pl_wI m1 24 (pl_up (pl_lt1 A (ml_I m1 24) 0 0) 0 (nI (pl_G A n 0 fun _ => false).1))) 25 (pl_up (pl_lt2 A (ml_I m1 25) 0 0) 0 (nI (pl_G A n 0 fun _ => false).2)) := ⟨_, rfl⟩
    have hgt0 : ∀ i, i < n → 10 * (0 ||| 2 ^ i) + i ≠ 0 := fun i hi => by
      have := Nat.two_pow_pos i
      rw [Nat.zero_or]; omega
    have hfo : fX4_follow 21 0 0 0 (pl_wI (pl_wI m1 24 (pl_lt1 A (ml_I m1 24) 0 0)) 25 (pl_lt2 A (ml_I m1 25) 0 0)) = some m2 := by
      rw [hm2]
      exact pl_followC (A := A) (m := m1) hS1 (n := n) (d := n) (set := 0) (here := 0) (joins := 0) (js := fun _ => false) h41 hnA hn10 (by omega) (by rw [pl_bc0]; omega) (by omega) (fun i _ _ => Nat.zero_testBit i) (by omega) (fun i hi _ => hgt0 i hi) (fun i hi _ => by
        have hlt : 0 ||| 2 ^ i < 2 ^ n := pl_ins_lt (by omega) hi
        have hin := pl_fd_in (n := pl_N A 0 5 0) (s := 0) (l := 0) (set := 0 ||| 2 ^ i) (last := i) (by omega) (by omega) (by rw [← hnA]; exact hlt) (by rw [pl_tb_ins]; simp) (Or.inl (by rw [Nat.zero_or]; exact Nat.two_pow_pos i))
        unfold pl_lt1 pl_lt2
        rw [if_pos hin, if_pos hin, show (10 * (0 ||| 2 ^ i) + i) / 10 = 0 ||| 2 ^ i by omega, show (10 * (0 ||| 2 ^ i) + i) % 10 = i by omega]
        exact ⟨rfl, rfl⟩)
    have hS2 : pl_Sh m2 := by rw [hm2]; exact (hS1.wI 24 _).wI 25 _
    have i24 : ml_I m2 24 = pl_up (pl_lt1 A (ml_I m1 24) 0 0) 0 (nI (pl_G A n 0 fun _ => false).1) := by rw [hm2, pl_I_wI, if_neg (by decide), pl_I_wI, if_pos rfl]
    have i25 : ml_I m2 25 0 = nI (pl_G A n 0 fun _ => false).2 := by rw [hm2, pl_I_wI, if_pos rfl, pl_up_k]
    have i240 : ml_I m2 24 0 = nI (pl_G A n 0 fun _ => false).1 := by rw [i24, pl_up_k]
    obtain ⟨m3, hm3⟩ : ∃ m3, m3 = ml_sI (ml_sI m2 21 1 (nI (pl_G A n 0 fun _ => false).1)) 21 2 (nI (pl_G A n 0 fun _ => false).2) := ⟨_, rfl⟩
    have hS3 : pl_Sh m3 := by rw [hm3]; exact (hS2.sI _ _ _).sI _ _ _
    have j24 : ml_I m3 24 = ml_I m2 24 := by rw [hm3]; funext j; rw [pl_I_sI, if_neg (by omega), pl_I_sI, if_neg (by omega)]
    have j23 : ml_I m3 23 = ml_I m1 23 := by
      rw [hm3]; funext j; rw [pl_I_sI, if_neg (by omega), pl_I_sI, if_neg (by omega), hm2, pl_I_wI, if_neg (by decide), pl_I_wI, if_neg (by decide)]
    have j214 : ml_I m3 21 4 = nI n := by
      rw [hm3, pl_I_sI, if_neg (by omega), pl_I_sI, if_neg (by omega), hm2, pl_I_wI, if_neg (by decide), pl_I_wI, if_neg (by decide)]; exact h41
    have hff := pl_firstC (A := A) hS3 j214 hnA hn10 (fun i hi => by rw [j23]; exact h231 i hi) (fun set last hs hl ht => by
      have hpos : 0 < set := by
        refine Nat.pos_of_ne_zero fun z => ?_
        rw [z, Nat.zero_testBit] at ht; cases ht
      have hin := pl_fd_in (n := pl_N A 0 5 0) (s := 0) (l := 0) (set := set) (last := last) (by omega) (by omega) (by rw [← hnA]; exact hs) ht (Or.inl hpos)
      rw [j24, i24, pl_up_n _ _ (by omega)]
      unfold pl_lt1
      rw [if_pos hin, show (10 * set + last) / 10 = set by omega, show (10 * set + last) % 10 = last by omega]) n 0 0 0 0 (fun _ => false) (ml_I m3 22) ml_fu (by omega) (by rw [pl_fu]; omega) (by omega) (by rw [pl_bc0]; omega) (by omega) (fun i _ _ => Nat.zero_testBit i) (by omega) (fun _ => by rw [j24]; exact i240)
    rw [pl_wI_0] at hff
    obtain ⟨m4, hm4⟩ : ∃ m4, m4 = pl_wI m3 22 (pl_f22 A (ml_I m3 22) n 0 (fun _ => false) 0) := ⟨_, rfl⟩
    rw [← hm4] at hff
    have hx4 : pl_ex [21, 22, 23, 24, 25] m (ml_sI m4 21 0 0) := by
      rw [hm4, hm3, hm2, hm1]
      exact ((((((hx0.wI (Or.inl (by decide))).wI (Or.inl (by decide))).wI (Or.inl (by decide))).sI (by decide)).sI (by decide)).wI (Or.inl (by decide))).sI (by decide)
    have hco4 : pl_co m (ml_sI m4 21 0 0) := by
      rw [hm4, hm3, hm2, hm1, hm0]
      exact ((((((((pl_co.refl m).sI (by decide)).wI (by decide)).wI (by decide)).wI (by decide)).sI (by decide)).sI (by decide)).wI (by decide)).sI (by decide)
    have hI21 : ∀ j, j ≠ 0 → ml_I (ml_sI m4 21 0 0) 21 j = ml_I m3 21 j := fun j hj => by rw [pl_I_sI, if_neg (by omega), hm4, pl_I_wI, if_neg (by decide)]
    have hy : ml_I (ml_sI m4 21 0 0) 21 0 = 0 ∧ ml_I (ml_sI m4 21 0 0) 21 1 = nI (pl_G A n 0 fun _ => false).1 ∧ ml_I (ml_sI m4 21 0 0) 21 2 = nI (pl_G A n 0 fun _ => false).2 ∧ ∀ k, k < n → ml_I (ml_sI m4 21 0 0) 22 k = nI ((pl_fr A n 0 fun _ => false).getD k 0) := by
      refine ⟨by rw [pl_I_sI, if_pos ⟨rfl, rfl⟩], ?_, ?_, fun k hk => ?_⟩
      · rw [hI21 1 (by decide), hm3, pl_I_sI, if_neg (by omega), pl_I_sI, if_pos ⟨rfl, rfl⟩]
      · rw [hI21 2 (by decide), hm3, pl_I_sI, if_pos ⟨rfl, rfl⟩]
      · rw [pl_I_sI, if_neg (by omega), hm4, pl_I_wI, if_pos rfl]
        unfold pl_f22
        rw [if_pos (by omega), Nat.sub_zero]
    have hrel : pl_Rel A (ml_sI m4 21 0 0) := by
      refine h.ly hx4 hco4 ?_ ?_ (by rw [← hnA]; exact hy)
      · rw [hm4, hm3, hm2, hm1, hm0]; rfl
      · rw [hm4, hm3, hm2, hm1, hm0]; rfl
    refine ⟨_, ?_, hrel, by rw [hm4, hm3, hm2, hm1, hm0]; rfl, by rw [hm4, hm3, hm2, hm1, hm0]; rfl, hy⟩
    have hS4 : pl_Sh m4 := by rw [hm4]; exact hS3.wI 22 _
    have z00 : (0 : Int32) * 10 + 0 = 0 := by decide
    have c0 : (0 : Int32).toNatClampNeg = 0 := rfl
    have in24 : ml_in m2 24 20 0 := by rw [← nI_0, pl_in (by decide), pl_k24 hS2]; exact ⟨rfl, by decide⟩
    have in25 : ml_in (ml_sI m2 21 1 (nI (pl_G A n 0 fun _ => false).1)) 25 20 0 := by rw [← nI_0, pl_in (by decide), pl_K_sI, pl_k25 hS2]; exact ⟨rfl, by decide⟩
    have i25' : ml_I (ml_sI m2 21 1 (nI (pl_G A n 0 fun _ => false).1)) 25 0 = nI (pl_G A n 0 fun _ => false).2 := by rw [pl_I_sI, if_neg (by omega)]; exact i25
    have h142 : fX4_gather_142 21 (pl_wI (pl_wI m1 24 (pl_lt1 A (ml_I m1 24) 0 0)) 25 (pl_lt2 A (ml_I m1 25) 0 0)) = some (ml_sI m4 21 0 0) := by
      unfold fX4_gather_142 fX4_slot
      rw [pl_b1, z00, pl_K_wI, pl_K_wI, pl_k21 hS1, if_pos rfl, hfo, pl_b1, pl_k21 hS2, if_pos rfl, pl_r21_6 hS2, pl_let, pl_b1, if_pos in24, c0, i240, pl_let, pl_R_sI, pl_r21_7 hS2, pl_let, pl_b1, if_pos in25, c0, i25', pl_let, ← hm3]
      unfold fX4_findFirst fX4_slot
      have hff' : fX4_findFirst_13 ml_fu 21 0 0 0 0 m3 = some m4 := hff
      rw [pl_b1, z00, hff', pl_b1, pl_k21 hS4, if_pos rfl, pl_let]
    have e01 : ¬ ml_I m 21 0 = 0 := by rw [hst]; decide
    unfold fX10_refreshLays
    rw [pl_k1 hS, if_pos rfl, pl_r1_13 hS, pl_let, pl_k21 hS, if_pos rfl, if_neg e01, pl_let, pl_r1_8 hS, pl_let, pl_k21 hS, if_pos rfl, h9]
    unfold fX4_gather
    rw [pl_k21 hS, if_pos rfl, pl_let, ← hm0, hjo, htb, h142, pl_b1]
  · refine ⟨m, ?_, h, rfl, rfl, hst⟩
    unfold fX10_refreshLays
    rw [pl_k1 hS, if_pos rfl, pl_r1_13 hS, pl_let, pl_k21 hS, if_pos rfl, if_pos hst.1]

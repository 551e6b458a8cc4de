/-! LAYS: the class's side. -/
theorem pl_s2524 (m : ml_M) (g : Nat → Int32) (k : Nat) (v : Int32) : ml_sI (pl_wI m 25 g) 24 k v = pl_wI (ml_sI m 24 k v) 25 g := pl_sIsw m (by decide) g k v
def pl_z2 (p : Nat × Nat) : Nat := if p.2 = 0 then 0 else p.1
def pl_up (g : Nat → Int32) (k : Nat) (v : Int32) : Nat → Int32 := fun y => if y = k then v else g y
theorem pl_up_k (g : Nat → Int32) (k : Nat) (v : Int32) : pl_up g k v k = v := if_pos rfl
theorem pl_up_n (g : Nat → Int32) {k y : Nat} (v : Int32) (h : y ≠ k) : pl_up g k v y = g y := if_neg h
theorem pl_up_up (g : Nat → Int32) (k : Nat) (v w : Int32) : (fun y => if y = k then w else pl_up g k v y) = pl_up g k w := pl_upd2 g k v w
theorem pl_up_0 (g : Nat → Int32) (k : Nat) (w : Int32) : (fun y => if y = k then w else g y) = pl_up g k w := rfl
theorem pl_followC {A : pl_A} {m : ml_M} (hS : pl_Sh m) {n d set here joins : Nat} {js : Nat → Bool} (h4 : ml_I m 21 4 = nI n) (hnA : n = pl_N A 0 5 0) (hn10 : n ≤ 10) (hset : set < 2 ^ n) (hb : pl_bc set n + d = n) (hj : joins < 2 ^ 31) (hjs : ∀ i, i < n → set.testBit i = false → joins.testBit i = js i) (hhere : here < 10240) (hne : ∀ i, i < n → set.testBit i = false → 10 * (set ||| 2 ^ i) + i ≠ here) {g h : Nat → Int32} (hg : ∀ i, i < n → set.testBit i = false → g (10 * (set ||| 2 ^ i) + i) = nI (pl_gw A (set ||| 2 ^ i) i).1 ∧ h (10 * (set ||| 2 ^ i) + i) = nI (pl_gw A (set ||| 2 ^ i) i).2) :
    fX4_follow 21 (nI set) (nI here) (nI joins) (pl_wI (pl_wI m 24 g) 25 h) = some (pl_wI (pl_wI m 24 (pl_up g here (nI (pl_G A d set js).1))) 25 (pl_up h here (nI (pl_G A d set js).2))) := by
  have p1 : 1 ≤ 2 ^ n := Nat.one_le_two_pow
  have p2 : 2 ^ n ≤ 1024 := Nat.le_trans (Nat.pow_le_pow_right (by decide) hn10) (by decide)
  have e1 : (1 : Int32) = nI 1 := rfl
  have e10 : (10 : Int32) = nI 10 := rfl
  have e31 : (31 : Int32) = nI 31 := rfl
  have hI21 : ∀ g h, ml_I (pl_wI (pl_wI m 24 g) 25 h) 21 = ml_I m 21 := fun g h => by rw [pl_I_wI, if_neg (by decide), pl_I_wI, if_neg (by decide)]
  have hI24 : ∀ g h, ml_I (pl_wI (pl_wI m 24 g) 25 h) 24 = g := fun g h => by rw [pl_I_wI, if_neg (by decide), pl_I_wI, if_pos rfl]
  have hI25 : ∀ g h, ml_I (pl_wI (pl_wI m 24 g) 25 h) 25 = h := fun g h => by rw [pl_I_wI, if_pos rfl]
  have k21 := pl_k21 hS
  have k24 := pl_k24 hS
  have k25 := pl_k25 hS
  have r6 := pl_r21_6 hS
  have r7 := pl_r21_7 hS
  have hfull : nI 1 <<< (nI n &&& 31) - nI 1 = nI (2 ^ n - 1) := by
    rw [← e1, pl_shl1 (by omega)]; exact pl_sub p1
  -- the steps over those not laid, from a state of the cell
  obtain ⟨am, ham⟩ : ∃ am : Nat → Nat × Nat, am = fun i => if d = 0 then (0, 1) else pl_am (fun j => set.testBit j) (pl_gs A (d - 1) set js) (pl_gt2 A (d - 1) set) i := ⟨_, rfl⟩
  have hamn : am n = pl_G A d set js := by
    rw [ham]
    show (if d = 0 then (0, 1) else _) = _
    by_cases hd : d = 0
    · rw [if_pos hd, hd]; rfl
    · obtain ⟨e, he⟩ : ∃ e, d = e + 1 := ⟨d - 1, by omega⟩
      rw [if_neg hd, he, pl_G_am, ← hnA]; rfl
  have hfl : d = 0 → ∀ i, i < n → set.testBit i = true := fun hd i hi => by
    have := (pl_bc_full hset).mp (by omega)
    rw [this, pl_full_tb, decide_eq_true hi]
  have hGb := pl_G_b A d set js (by omega) (by rw [← hnA]; exact hset) (by rw [← hnA]; exact hb)
  have hloop : fX4_follow_36 ml_fu 21 (nI set) (nI here) (nI joins) 0 (pl_wI (pl_wI m 24 (pl_up g here (nI (pl_z2 (am 0))))) 25 (pl_up h here (nI (am 0).2))) = some (pl_wI (pl_wI m 24 (pl_up g here (nI (pl_z2 (am n))))) 25 (pl_up h here (nI (am n).2))) := by
    refine pl_for (F := fun fu i (_ : Unit) => fX4_follow_36 fu 21 (nI set) (nI here) (nI joins) (nI i) (pl_wI (pl_wI m 24 (pl_up g here (nI (pl_z2 (am i))))) 25 (pl_up h here (nI (am i).2)))) (R := some (pl_wI (pl_wI m 24 (pl_up g here (nI (pl_z2 (am n))))) 25 (pl_up h here (nI (am n).2)))) n (fun _ => ()) (fun fu i hi => ?_) (fun fu => ?_) ml_fu (by rw [pl_fu]; omega)
    · show fX4_follow_36 (fu + 1) 21 (nI set) (nI here) (nI joins) (nI i) (pl_wI (pl_wI m 24 (pl_up g here (nI (pl_z2 (am i))))) 25 (pl_up h here (nI (am i).2))) = fX4_follow_36 fu 21 (nI set) (nI here) (nI joins) (nI (i + 1)) (pl_wI (pl_wI m 24 (pl_up g here (nI (pl_z2 (am (i + 1)))))) 25 (pl_up h here (nI (am (i + 1)).2)))
      have h1 := fun M => (pl_has (s := set) (t := i) (by omega) (by omega) M).1
      by_cases hq : set.testBit i = true
      · have he : am (i + 1) = am i := by
          rw [ham]
          show (if d = 0 then (0, 1) else _) = (if d = 0 then (0, 1) else _)
          by_cases hd : d = 0
          · rw [if_pos hd, if_pos hd]
          · rw [if_neg hd, if_neg hd, pl_am1, if_pos hq]
        have hz : ∀ (M : ml_M) (f : Int32 → Option ml_M), ml_b1 (fX10_has (nI set) (nI i) M) f = f 1 := fun M f => by rw [h1, hq]; rfl
        rw [he]
        simp (disch := omega) only [fX4_follow_36, fX4_follow_165, ↓hz, ↓pl_let, pl_b1, pl_b2, ↓reduceIte, pl_K_wI, k21, if_true, hI21, h4, nI_leI, show ¬ n ≤ i by omega, if_false, pl_10, nI_1]
      · have hq0 : set.testBit i = false := by simpa using hq
        have hd : ¬ d = 0 := fun z => hq (hfl z i hi)
        obtain ⟨e, he⟩ : ∃ e, d = e + 1 := ⟨d - 1, by omega⟩
        have hz : ∀ (M : ml_M) (f : Int32 → Option ml_M), ml_b1 (fX10_has (nI set) (nI i) M) f = f 0 := fun M f => by rw [h1, hq0]; rfl
        obtain ⟨hg1, hg2⟩ := hg i hi hq0
        have hgw := pl_gw_ins (A := A) (d := e) hq0 (by omega) (by rw [← hnA]; omega)
        rw [hgw] at hg1 hg2
        have hlt : set ||| 2 ^ i < 2 ^ n := pl_ins_lt hset hi
        have hvb := pl_G_b A e (set ||| 2 ^ i) (pl_jn A i) (by omega) (by rw [← hnA]; exact hlt) (by rw [← hnA, pl_bc_ins hq0 hi]; omega)
        have hall : ∀ j, j < i → set.testBit j = false → pl_gs A e set js j < 100 ∧ 0 < pl_gt2 A e set j ∧ pl_gt2 A e set j ≤ pl_fac e := fun j hj hqj => by
          have := pl_G_b A e (set ||| 2 ^ j) (pl_jn A j) (by omega) (by rw [← hnA]; exact pl_ins_lt hset (by omega)) (by rw [← hnA, pl_bc_ins hqj (by omega)]; omega)
          unfold pl_gs pl_gt2
          refine ⟨?_, this.2⟩
          split <;> omega
        have hok := (pl_am_ok (fun j => set.testBit j) (pl_gs A e set js) (pl_gt2 A e set) i fun j hj hqj => ⟨(hall j hj hqj).1, (hall j hj hqj).2.1⟩).2
        have hle := pl_am_le (fun j => set.testBit j) (pl_gs A e set js) (pl_gt2 A e set) (pl_fac e) i fun j hj hqj => (hall j hj hqj).2.2
        have hcl := pl_cnt_le (fun j => !set.testBit j) i
        have hfac := pl_fac_10 e (by omega)
        have hmul : pl_cnt (fun j => !set.testBit j) i * pl_fac e ≤ 10 * 3628800 := Nat.mul_le_mul (by omega) hfac
        have hs : am (i + 1) = if pl_gs A e set js i < (am i).1 then (pl_gs A e set js i, pl_gt2 A e set i) else if pl_gs A e set js i = (am i).1 then ((am i).1, (am i).2 + pl_gt2 A e set i) else am i := by
          rw [ham]
          show (if d = 0 then (0, 1) else pl_am (fun j => set.testBit j) (pl_gs A (d - 1) set js) (pl_gt2 A (d - 1) set) (i + 1)) = if pl_gs A e set js i < (if d = 0 then (0, 1) else pl_am (fun j => set.testBit j) (pl_gs A (d - 1) set js) (pl_gt2 A (d - 1) set) i).1 then _ else if pl_gs A e set js i = (if d = 0 then (0, 1) else pl_am (fun j => set.testBit j) (pl_gs A (d - 1) set js) (pl_gt2 A (d - 1) set) i).1 then ((if d = 0 then (0, 1) else pl_am (fun j => set.testBit j) (pl_gs A (d - 1) set js) (pl_gt2 A (d - 1) set) i).1, (if d = 0 then (0, 1) else pl_am (fun j => set.testBit j) (pl_gs A (d - 1) set js) (pl_gt2 A (d - 1) set) i).2 + pl_gt2 A e set i) else (if d = 0 then (0, 1) else pl_am (fun j => set.testBit j) (pl_gs A (d - 1) set js) (pl_gt2 A (d - 1) set) i)
          rw [if_neg hd, if_neg hd, pl_am1, if_neg hq, show d - 1 = e by omega]
        have hai : am i = pl_am (fun j => set.testBit j) (pl_gs A e set js) (pl_gt2 A e set) i := by
          rw [ham]
          show (if d = 0 then (0, 1) else _) = _
          rw [if_neg hd, show d - 1 = e by omega]
        rw [← hai] at hok hle
        have hgs : pl_gs A e set js i = (pl_G A e (set ||| 2 ^ i) (pl_jn A i)).1 + (if js i then 0 else 1) := rfl
        have hgt : pl_gt2 A e set i = (pl_G A e (set ||| 2 ^ i) (pl_jn A i)).2 := rfl
        rw [← hgt] at hg2
        have hvi : pl_gs A e set js i < 100 := by rw [hgs]; split <;> omega
        have hwi : 0 < pl_gt2 A e set i := hvb.2.1
        have hnei := hne i hi hq0
        rw [hs]
        have hidx : (nI (set ||| 2 ^ i) : Int32) * nI 10 + nI i = nI (10 * (set ||| 2 ^ i) + i) := by rw [pk_mul, nI_add, Nat.mul_comm]
        -- behind the sum
        have h91 : ∀ (v : Nat) (t0 t1 : Int32), t1 + t0 = nI v → v = pl_gs A e set js i → fX4_follow_91 (fX4_follow_36 fu) 21 (nI set) (nI here) (nI joins) (nI i) (nI (10 * (set ||| 2 ^ i) + i)) t0 t1 (pl_wI (pl_wI m 24 (pl_up g here (nI (pl_z2 (am i))))) 25 (pl_up h here (nI (am i).2))) = fX4_follow_36 fu 21 (nI set) (nI here) (nI joins) (nI (i + 1)) (pl_wI (pl_wI m 24 (pl_up g here (nI (pl_z2 (if pl_gs A e set js i < (am i).1 then (pl_gs A e set js i, pl_gt2 A e set i) else if pl_gs A e set js i = (am i).1 then ((am i).1, (am i).2 + pl_gt2 A e set i) else am i))))) 25 (pl_up h here (nI (if pl_gs A e set js i < (am i).1 then (pl_gs A e set js i, pl_gt2 A e set i) else if pl_gs A e set js i = (am i).1 then ((am i).1, (am i).2 + pl_gt2 A e set i) else am i).2))) := fun v t0 t1 htt hv => by
          rw [← hv]
          rw [← hv] at hvi
          have hge : pl_up h here (nI (am i).2) (10 * (set ||| 2 ^ i) + i) = nI (pl_gt2 A e set i) := by rw [pl_up_n _ _ hnei]; exact hg2
          have h114 : fX4_follow_114 (fX4_follow_36 fu) 21 (nI set) (nI here) (nI joins) (nI i) (nI (10 * (set ||| 2 ^ i) + i)) (nI v) (pl_wI (pl_wI m 24 (pl_up g here (nI (pl_z2 (am i))))) 25 (pl_up h here (nI (am i).2))) = fX4_follow_36 fu 21 (nI set) (nI here) (nI joins) (nI (i + 1)) (pl_wI (pl_wI m 24 (pl_up g here (nI v))) 25 (pl_up h here (nI (pl_gt2 A e set i)))) := by
            simp (disch := omega) only [fX4_follow_114, fX4_follow_165, ↓pl_let, pl_b1, pl_b2, ↓reduceIte, pl_K_wI, pl_K_sI, k21, k24, k25, if_true, pl_R_wI, pl_R_sI, r6, r7, pl_in, nI_clamp, hhere, show 10 * (set ||| 2 ^ i) + i < 10240 by omega, and_self, pl_s2524, pl_wI_sI, pl_up_up, hI25, hge, nI_1]
          rcases hok with ⟨ha, hb0, -⟩ | ⟨ha, hb0, -⟩
          · have e1' : (if v < (am i).1 then (v, pl_gt2 A e set i) else if v = (am i).1 then ((am i).1, (am i).2 + pl_gt2 A e set i) else am i) = (v, pl_gt2 A e set i) := if_pos (by omega)
            have e2' : pl_z2 (v, pl_gt2 A e set i) = v := if_neg (by show ¬ pl_gt2 A e set i = 0; omega)
            rw [e1', e2', ← h114]
            simp (disch := omega) only [fX4_follow_91, ↓pl_let, pl_b1, pl_b2, ↓reduceIte, htt, pl_K_wI, k21, k25, if_true, pl_R_wI, r7, pl_in, nI_clamp, hhere, and_self, hI25, pl_up_k, pl_eq0, eq_true hb0]
          · have hzi : pl_z2 (am i) = (am i).1 := if_neg (by omega)
            by_cases c1 : v < (am i).1
            · have e1' : (if v < (am i).1 then (v, pl_gt2 A e set i) else if v = (am i).1 then ((am i).1, (am i).2 + pl_gt2 A e set i) else am i) = (v, pl_gt2 A e set i) := if_pos c1
              have e2' : pl_z2 (v, pl_gt2 A e set i) = v := if_neg (by show ¬ pl_gt2 A e set i = 0; omega)
              rw [e1', e2', ← h114]
              simp (disch := omega) only [fX4_follow_91, ↓pl_let, pl_b1, pl_b2, ↓reduceIte, htt, pl_K_wI, k21, k24, k25, if_true, pl_R_wI, r6, r7, pl_in, nI_clamp, hhere, and_self, hI24, hI25, pl_up_k, pl_eq0, show ¬ (am i).2 = 0 by omega, if_false, hzi, nI_leI, show ¬ (am i).1 ≤ v by omega]
            · by_cases c2 : v = (am i).1
              · have e1' : (if v < (am i).1 then (v, pl_gt2 A e set i) else if v = (am i).1 then ((am i).1, (am i).2 + pl_gt2 A e set i) else am i) = ((am i).1, (am i).2 + pl_gt2 A e set i) := by rw [if_neg c1, if_pos c2]
                have e2' : pl_z2 ((am i).1, (am i).2 + pl_gt2 A e set i) = (am i).1 := if_neg (by show ¬ (am i).2 + pl_gt2 A e set i = 0; omega)
                rw [e1', e2']
                simp (disch := omega) only [fX4_follow_91, fX4_follow_165, ↓pl_let, pl_b1, pl_b2, ↓reduceIte, htt, pl_K_wI, k21, k24, k25, if_true, pl_R_wI, r6, r7, pl_in, nI_clamp, hhere, and_self, hI24, hI25, pl_up_k, pl_eq0, show ¬ (am i).2 = 0 by omega, if_false, hzi, nI_leI, show (am i).1 ≤ v by omega, Nat.le_refl, nI_eq, c2, show 10 * (set ||| 2 ^ i) + i < 10240 by omega, hge, nI_add, pl_wI_sI, pl_up_up, nI_1]
              · have e1' : (if v < (am i).1 then (v, pl_gt2 A e set i) else if v = (am i).1 then ((am i).1, (am i).2 + pl_gt2 A e set i) else am i) = am i := by rw [if_neg c1, if_neg c2]
                rw [e1']
                simp (disch := omega) only [fX4_follow_91, fX4_follow_165, ↓pl_let, pl_b1, pl_b2, ↓reduceIte, htt, pl_K_wI, k21, k24, k25, if_true, pl_R_wI, r6, r7, pl_in, nI_clamp, hhere, and_self, hI24, hI25, pl_up_k, pl_eq0, show ¬ (am i).2 = 0 by omega, if_false, hzi, nI_leI, show (am i).1 ≤ v by omega, nI_eq, c2, nI_1]
        have h3 := fun M => (pl_has (s := joins) (t := i) hj (by omega) M).1
        have hji := hjs i hi hq0
        have hgi : pl_up g here (nI (pl_z2 (am i))) (10 * (set ||| 2 ^ i) + i) = nI (pl_G A e (set ||| 2 ^ i) (pl_jn A i)).1 := by rw [pl_up_n _ _ hnei]; exact hg1
        cases hjb : js i
        · rw [hjb] at hji hgs
          have hz3 : ∀ (M : ml_M) (f : Int32 → Option ml_M), ml_b1 (fX10_has (nI joins) (nI i) M) f = f 0 := fun M f => by rw [h3, hji]; rfl
          rw [← h91 (pl_gs A e set js i) (nI 1) (nI (pl_G A e (set ||| 2 ^ i) (pl_jn A i)).1) (by rw [nI_add, hgs]; rfl) rfl]
          simp (disch := omega) only [fX4_follow_36, fX4_slot, ↓hz, ↓hz3, ↓pl_let, pl_b1, pl_b2, ↓reduceIte, pl_K_wI, k21, k24, if_true, hI21, h4, nI_leI, show ¬ n ≤ i by omega, if_false, e1, e10, e31, pl_and, pl_shl2, pl_or, hidx, pl_R_wI, r6, pl_in, nI_clamp, show 10 * (set ||| 2 ^ i) + i < 10240 by omega, and_self, hI24, hgi]
        · rw [hjb] at hji hgs
          have hz3 : ∀ (M : ml_M) (f : Int32 → Option ml_M), ml_b1 (fX10_has (nI joins) (nI i) M) f = f 1 := fun M f => by rw [h3, hji]; rfl
          rw [← h91 (pl_gs A e set js i) 0 (nI (pl_G A e (set ||| 2 ^ i) (pl_jn A i)).1) (by rw [Int32.add_zero, hgs]; rfl) rfl]
          simp (disch := omega) only [fX4_follow_36, fX4_slot, ↓hz, ↓hz3, ↓pl_let, pl_b1, pl_b2, ↓reduceIte, pl_K_wI, k21, k24, if_true, hI21, h4, nI_leI, show ¬ n ≤ i by omega, if_false, pl_eq0, Nat.reduceEqDiff, e1, e10, e31, pl_and, pl_shl2, pl_or, hidx, pl_R_wI, r6, pl_in, nI_clamp, show 10 * (set ||| 2 ^ i) + i < 10240 by omega, and_self, hI24, hgi]
    · simp (disch := omega) only [fX4_follow_36, pl_K_wI, k21, if_true, hI21, h4, nI_leI, Nat.le_refl]
  have hzn : pl_z2 (am n) = (am n).1 := if_neg (by rw [hamn]; omega)
  rw [hzn, hamn] at hloop
  rw [← hloop]
  by_cases hd : d = 0
  · have hfs : set = 2 ^ n - 1 := (pl_bc_full hset).mp (by omega)
    have ha0 : am 0 = (0, 1) := by rw [ham]; exact if_pos hd
    have hz0 : pl_z2 (0, 1) = 0 := rfl
    rw [ha0, hz0]
    simp (disch := omega) only [fX4_follow, fX4_follow_33, ↓pl_let, pl_b1, pl_b2, ↓reduceIte, pl_K_wI, pl_K_sI, k21, k24, k25, if_true, pl_R_wI, pl_R_sI, r6, r7, pl_in, nI_clamp, hhere, and_self, pl_s2524, pl_wI_sI, pl_up_up, pl_up_0, hI21, h4, e1, hfull, eq_true hfs, nI_eq, nI_0]
  · have hfs : ¬ set = 2 ^ n - 1 := fun z => by have := (pl_bc_full hset).mpr z; omega
    have ha0 : am 0 = (100, 0) := by rw [ham]; exact if_neg hd
    have hz0 : pl_z2 (100, 0) = 0 := rfl
    rw [ha0, hz0]
    simp (disch := omega) only [fX4_follow, fX4_follow_33, ↓pl_let, pl_b1, pl_b2, ↓reduceIte, pl_K_wI, pl_K_sI, k21, k24, k25, if_true, pl_R_wI, pl_R_sI, r6, r7, pl_in, nI_clamp, hhere, and_self, pl_s2524, pl_wI_sI, pl_up_0, hI21, h4, e1, hfull, hfs, nI_eq, if_false, nI_0]

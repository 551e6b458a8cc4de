/-! LAYS: the reference's first row; the pair sheets. -/
/-- which bit was laid last -/
def pl_ls (n set : Nat) (A : pl_A) (li : Int32) (dl : Nat) (js : Nat → Bool) : Prop := (li = -9 ∧ dl = 1 ∧ js = fun _ => false) ∨ ∃ l, l < n ∧ li = nI l ∧ set.testBit l = true ∧ dl = 0 ∧ js = pl_jn A l
theorem pl_comesM {A : pl_A} {m : ml_M} (hS : pl_Sh m) (hW : pl_W A) (hb : pl_bk A m) (hk : pl_gk2 A m) {n d set left dl i : Nat} {li : Int32} {js : Nat → Bool} (hnA : n = pl_N A 0 5 0) (hset : set < 2 ^ n) (hbc : pl_bc set n + (d + 1) = n) (hls : pl_ls n set A li dl js) (hleft : left + dl = (pl_G A (d + 1) set js).1) (hi : i < n) :
    fX11_comesNext 33 (nI i) li (nI set) (nI left) m = some (if (!set.testBit i && decide (pl_gs A d set js i = (pl_G A (d + 1) set js).1)) = true then 1 else 0) := by
  have hw := hW.1
  unfold pl_Wc at hw
  have hn10 : n ≤ 10 := by omega
  have p2 : 2 ^ n ≤ 1024 := Nat.le_trans (Nat.pow_le_pow_right (by decide) hn10) (by decide)
  have e1 : (1 : Int32) = nI 1 := rfl
  have e10 : (10 : Int32) = nI 10 := rfl
  have hGb := pl_G_b A (d + 1) set js (by omega) (by rw [← hnA]; exact hset) (by rw [← hnA]; exact hbc)
  have hh := fun M => (pl_has (s := set) (t := i) (by omega) (by omega) M).2
  -- behind the more
  have h25 : ∀ more : Nat, more ≤ 1 → (set.testBit i = false → more + dl = if js i then 0 else 1) → fX11_comesNext_25 33 (nI i) (nI set) (nI left) (nI more) m = some (if (!set.testBit i && decide (pl_gs A d set js i = (pl_G A (d + 1) set js).1)) = true then 1 else 0) := fun more hmo hmore => by
    by_cases hq : set.testBit i = true
    · have hz : ∀ (M : ml_M) (f : Int32 → Option Int32), ml_b1 (fX11_has (nI set) (nI i) M) f = f 1 := fun M f => by rw [hh, hq]; rfl
      rw [if_neg (by simp [hq])]
      simp (disch := omega) only [fX11_comesNext_25, ↓hz, pl_10, if_false]
    · have hq0 : set.testBit i = false := by simpa using hq
      have hz : ∀ (M : ml_M) (f : Int32 → Option Int32), ml_b1 (fX11_has (nI set) (nI i) M) f = f 0 := fun M f => by rw [hh, hq0]; rfl
      have hlt : set ||| 2 ^ i < 2 ^ n := pl_ins_lt hset hi
      have hgt := pl_ins_gt hq0
      have hv := (hk (set ||| 2 ^ i) i (by omega) (by rw [← hnA]; exact hlt) (by omega) (by rw [pl_tb_ins]; simp)).1
      rw [pl_gw_ins (A := A) (d := d) hq0 (by omega) (by rw [← hnA]; omega)] at hv
      have hvb := pl_G_b A d (set ||| 2 ^ i) (pl_jn A i) (by omega) (by rw [← hnA]; exact hlt) (by rw [← hnA, pl_bc_ins hq0 hi]; omega)
      have hgs : pl_gs A d set js i = (pl_G A d (set ||| 2 ^ i) (pl_jn A i)).1 + (if js i then 0 else 1) := rfl
      have hidx : (10 : Int32) * (nI set ||| (1 : Int32) <<< (nI i &&& 31)) + nI i = nI (10 * (set ||| 2 ^ i) + i) := by rw [pl_shl1 (by omega), pl_or, e10, pk_mul, nI_add]
      have hm := hmore hq0
      by_cases c : pl_gs A d set js i = (pl_G A (d + 1) set js).1
      · rw [if_pos (by simp [hq0, c])]
        simp (disch := omega) only [fX11_comesNext_25, ↓hz, ↓pl_let, pl_b1, pl_b2, ↓reduceIte, pl_k33 hS, if_true, pl_r33_39 hS, hidx, pl_in, nI_clamp, pl_k54 hS, show 10 * (set ||| 2 ^ i) + i < 10240 by omega, and_self, hv, nI_add, nI_eq, show (pl_G A d (set ||| 2 ^ i) (pl_jn A i)).1 + more = left by omega]
      · rw [if_neg (by simp [c])]
        simp (disch := omega) only [fX11_comesNext_25, ↓hz, ↓pl_let, pl_b1, pl_b2, ↓reduceIte, pl_k33 hS, if_true, pl_r33_39 hS, hidx, pl_in, nI_clamp, pl_k54 hS, show 10 * (set ||| 2 ^ i) + i < 10240 by omega, and_self, hv, nI_add, nI_eq, show ¬ (pl_G A d (set ||| 2 ^ i) (pl_jn A i)).1 + more = left by omega, if_false]
  rcases hls with ⟨rfl, rfl, rfl⟩ | ⟨l, hl, rfl, hlt, rfl, rfl⟩
  · have := h25 0 (by decide) (fun _ => rfl)
    rw [nI_0] at this
    unfold fX11_comesNext
    rw [if_pos rfl]
    exact this
  · by_cases hli : l = i
    · have hq : set.testBit i = true := by rw [← hli]; exact hlt
      have := h25 0 (by decide) (fun z => by rw [hq] at z; cases z)
      rw [nI_0] at this
      unfold fX11_comesNext
      rw [if_neg (by rw [pl_n9 (by omega)]; exact id), if_pos (by rw [hli])]
      exact this
    · have hjn := pl_joinM2 hS hW hb (i := l) (j := i) (by omega) (by omega)
      unfold fX11_comesNext
      rw [if_neg (by rw [pl_n9 (by omega)]; exact id), if_neg (by rw [nI_eq (by omega) (by omega)]; exact hli), pl_k33 hS, if_pos rfl, hjn, pl_b1]
      cases hjb : pl_jn A l i
      · have := h25 1 (by decide) (fun _ => by rw [hjb]; rfl)
        rw [if_pos (by decide)]
        exact this
      · have := h25 0 (by decide) (fun _ => by rw [hjb]; rfl)
        rw [nI_0] at this
        rw [if_pos rfl, if_neg (by decide)]
        exact this
def pl_f36 (A : pl_A) (g : Nat → Int32) (d set : Nat) (js : Nat → Bool) (b k : Nat) : Nat → Int32 := fun y => if b + k ≤ y ∧ y < b + k + d then nI ((pl_fr A d set js).getD (y - (b + k)) 0) else g y
theorem pl_rowM {A : pl_A} {Z : ml_M} (hS : pl_Sh Z) (hW : pl_W A) (hb : pl_bk A Z) (hk : pl_gk2 A Z) {n r : Nat} (hnA : n = pl_N A 0 5 0) (hr : r < 6) (v : Int32) :
    ∀ d k set li dl js left g fu, k + d = n → d < fu → set < 2 ^ n → pl_bc set n + d = n → pl_ls n set A li dl js → (0 < d → left + dl = (pl_G A d set js).1) →
      fX11_sheets_50 fu 33 (nI r) (nI left) v (nI set) li (nI k) (pl_wI Z 36 g) = some (v, pl_wI Z 36 (pl_f36 A g d set js (48 * r) k)) := by
  have hw := hW.1
  unfold pl_Wc at hw
  have hn10 : n ≤ 10 := by omega
  have p2 : 2 ^ n ≤ 1024 := Nat.le_trans (Nat.pow_le_pow_right (by decide) hn10) (by decide)
  have hSg : ∀ g, pl_Sh (pl_wI Z 36 g) := fun g => hS.wI 36 g
  have hbg : ∀ g, pl_bk A (pl_wI Z 36 g) := fun g => hb.wI g (by decide)
  have hkg : ∀ g, pl_gk2 A (pl_wI Z 36 g) := fun g set last h0 h1 h2 h3 => by
    rw [pl_I_wI, if_neg (by decide), pl_I_wI, if_neg (by decide)]
    exact hk set last h0 h1 h2 h3
  have h37 : ∀ g, ml_I (pl_wI Z 36 g) 33 37 = nI n := fun g => by rw [hnA]; exact (hbg g).1
  have k33 := pl_k33 hS
  have k36 := pl_k36 hS
  have r5 := pl_r33_5 hS
  have e1 : (1 : Int32) = nI 1 := rfl
  have e48 : (48 : Int32) = nI 48 := rfl
  have e31 : (31 : Int32) = nI 31 := rfl
  intro d
  induction d with
  | zero =>
    intro k set li dl js left g fu hkd hfu hset hbc hls hleft
    obtain ⟨fu, rfl⟩ : ∃ q, fu = q + 1 := ⟨fu - 1, by omega⟩
    have e : pl_f36 A g 0 set js (48 * r) k = g := by funext y; unfold pl_f36; rw [if_neg (by omega)]
    rw [e]
    simp (disch := omega) only [fX11_sheets_50, pl_K_wI, k33, if_true, h37, nI_leI, show n ≤ k by omega]
  | succ d ih =>
    intro k set li dl js left g fu hkd hfu hset hbc hls hleft
    obtain ⟨fu, rfl⟩ : ∃ q, fu = q + 1 := ⟨fu - 1, by omega⟩
    have hleft := hleft (by omega)
    have hok := pl_fi_ok A (d := d) (set := set) js (by omega) (by rw [← hnA]; exact hset) (by rw [← hnA]; exact hbc)
    have hGb := pl_G_b A (d + 1) set js (by omega) (by rw [← hnA]; exact hset) (by rw [← hnA]; exact hbc)
    obtain ⟨i, hi⟩ : ∃ i, i = pl_fi A d set js := ⟨_, rfl⟩
    rw [← hi] at hok
    have hin : i < n := by rw [hnA]; exact hok.1
    have hlt : set ||| 2 ^ i < 2 ^ n := pl_ins_lt hset hin
    have hvb := pl_G_b A d (set ||| 2 ^ i) (pl_jn A i) (by omega) (by rw [← hnA]; exact hlt) (by rw [← hnA, pl_bc_ins hok.2.1 hin]; omega)
    have hgs : pl_gs A d set js i = (pl_G A d (set ||| 2 ^ i) (pl_jn A i)).1 + (if js i then 0 else 1) := rfl
    have hih := ih (k + 1) (set ||| 2 ^ i) (nI i) 0 (pl_jn A i) (pl_G A d (set ||| 2 ^ i) (pl_jn A i)).1 (pl_up g (48 * r + k) (nI i)) fu (by omega) (by omega) hlt (by rw [pl_bc_ins hok.2.1 hin]; omega) (Or.inr ⟨i, hin, rfl, by rw [pl_tb_ins]; simp, rfl, rfl⟩) (fun _ => rfl)
    have ef : pl_f36 A (pl_up g (48 * r + k) (nI i)) d (set ||| 2 ^ i) (pl_jn A i) (48 * r) (k + 1) = pl_f36 A g (d + 1) set js (48 * r) k := by
      funext y
      unfold pl_f36 pl_up
      rw [pl_fr1, ← hi]
      by_cases hy : y = 48 * r + k
      · rw [if_neg (by omega), if_pos hy, if_pos (by omega), show y - (48 * r + k) = 0 by omega, pl_getD0]
      · by_cases hy2 : 48 * r + (k + 1) ≤ y ∧ y < 48 * r + (k + 1) + d
        · obtain ⟨e, he⟩ : ∃ e, y - (48 * r + k) = e + 1 := ⟨y - (48 * r + k) - 1, by omega⟩
          rw [if_pos hy2, if_pos (by omega), he, pl_getD1, show y - (48 * r + (k + 1)) = e by omega]
        · rw [if_neg hy2, if_neg hy, if_neg (by omega)]
    rw [ef] at hih
    -- behind the search
    have h106 : ∀ more : Nat, (pl_G A d (set ||| 2 ^ i) (pl_jn A i)).1 + more = left → fX11_sheets_106 (fX11_sheets_50 fu) 33 (nI r) v (nI set) (nI k) (nI i) (nI more) (nI left) (pl_wI Z 36 g) = some (v, pl_wI Z 36 (pl_f36 A g (d + 1) set js (48 * r) k)) := fun more hmo => by
      have hsub : nI left - nI more = nI (pl_G A d (set ||| 2 ^ i) (pl_jn A i)).1 := by rw [pl_sub (by omega), show left - more = (pl_G A d (set ||| 2 ^ i) (pl_jn A i)).1 by omega]
      rw [← hih]
      simp (disch := omega) only [fX11_sheets_106, ↓pl_let, pl_b1, pl_b2, ↓reduceIte, hsub, pl_K_wI, k33, k36, if_true, pl_R_wI, r5, e48, pk_mul, nI_add, pl_in, nI_clamp, show 48 * r + k < 288 by omega, and_self, pl_wI_sI, pl_up_0, e1, e31, pl_and, pl_shl2, pl_or]
    have h82 : fX11_sheets_82 (fX11_sheets_50 fu) 33 (nI r) (nI left) v (nI set) li (nI k) (nI i) (pl_wI Z 36 g) = some (v, pl_wI Z 36 (pl_f36 A g (d + 1) set js (48 * r) k)) := by
      rcases hls with ⟨rfl, rfl, rfl⟩ | ⟨l, hl, rfl, hltb, rfl, rfl⟩
      · have hz := h106 0 (by rw [hok.2.2] at hgs; simp only [Bool.false_eq_true, if_false] at hgs; omega)
        rw [nI_0] at hz
        unfold fX11_sheets_82
        rw [if_pos rfl]
        exact hz
      · have hjn := pl_joinM2 (hSg g) hW (hbg g) (i := l) (j := i) (by omega) (by omega)
        unfold fX11_sheets_82
        rw [if_neg (by rw [pl_n9 (by omega)]; exact id), pl_K_wI, k33, if_pos rfl, hjn, pl_b1]
        cases hjb : pl_jn A l i
        · rw [hjb] at hgs
          have hz := h106 1 (by rw [hok.2.2] at hgs; simp only [Bool.false_eq_true, if_false] at hgs; omega)
          rw [if_pos (by decide)]
          exact hz
        · rw [hjb] at hgs
          have hz := h106 0 (by rw [hok.2.2] at hgs; simp only [if_true] at hgs; omega)
          rw [nI_0] at hz
          rw [if_pos rfl, if_neg (by decide)]
          exact hz
    have hcm := fun j (hj : j < n) => pl_comesM (hSg g) hW (hbg g) (hkg g) hnA hset hbc hls hleft hj
    have hsr := pl_srchH (F := fun f2 j => fX11_sheets_62 (fX11_sheets_50 fu) f2 33 (nI r) (nI left) v (nI set) li (nI k) (nI j) (pl_wI Z 36 g)) (R0 := none) (R1 := fun j => fX11_sheets_82 (fX11_sheets_50 fu) 33 (nI r) (nI left) v (nI set) li (nI k) (nI j) (pl_wI Z 36 g)) n (fun j => !set.testBit j && decide (pl_gs A d set js j = (pl_G A (d + 1) set js).1)) (fun f2 j hj hp => ?_) (fun f2 j hj _ hp => ?_) (fun f2 hp => ?_) ml_fu (by rw [pl_fu]; omega)
    · have hfi : pl_lst (fun j => !set.testBit j && decide (pl_gs A d set js j = (pl_G A (d + 1) set js).1)) n = i := by rw [hi, hnA]; rfl
      rw [hfi, if_pos hin, h82] at hsr
      simp (disch := omega) only [fX11_sheets_50, pl_K_wI, k33, if_true, h37, nI_leI, show ¬ n ≤ k by omega, if_false]
      exact hsr
    · have hpj := hp j (Nat.le_refl j)
      have hc := hcm j hj
      rw [if_neg (by rw [hpj]; decide)] at hc
      show fX11_sheets_62 (fX11_sheets_50 fu) (f2 + 1) 33 (nI r) (nI left) v (nI set) li (nI k) (nI j) (pl_wI Z 36 g) = fX11_sheets_62 (fX11_sheets_50 fu) f2 33 (nI r) (nI left) v (nI set) li (nI k) (nI (j + 1)) (pl_wI Z 36 g)
      simp only [fX11_sheets_62, ↓pl_let, pl_b1, pl_b2, ↓reduceIte, pl_K_wI, k33, if_true, hc, nI_1]
    · have hc := hcm j hj
      rw [if_pos hp] at hc
      show fX11_sheets_62 (fX11_sheets_50 fu) (f2 + 1) 33 (nI r) (nI left) v (nI set) li (nI k) (nI j) (pl_wI Z 36 g) = fX11_sheets_82 (fX11_sheets_50 fu) 33 (nI r) (nI left) v (nI set) li (nI k) (nI j) (pl_wI Z 36 g)
      simp only [fX11_sheets_62, ↓pl_let, pl_b1, pl_b2, ↓reduceIte, pl_K_wI, k33, if_true, hc, pl_10, if_false]
    · exfalso
      have := hp i hin
      rw [hok.2.1, hok.2.2, decide_eq_true rfl] at this
      cases this
/-- a row of the reference anew -/
theorem pl_rowMM {A : pl_A} {M m2 : ml_M} (hM : pl_M A M) (hW : pl_W A) {r n : Nat} {f g : Nat → Int32} (hr : r < 6) (h35 : ml_I m2 35 = ml_I (pl_cM M r (nI n)) 35) (h36 : ml_I m2 36 = g) (hg : ∀ y, ¬ (48 * r ≤ y ∧ y < 48 * r + 48) → g y = ml_I M 36 y) (hgf : ∀ j, j < n → g (48 * r + j) = f j) (hkk : (∀ a ∈ [34, 38, 39, 40, 41, 42, 46, 51, 53, 60], ml_I m2 a = ml_I M a) ∧ (∀ k ∈ [0, 2, 9, 10, 11, 23, 24, 34, 37, 46], ml_I m2 33 k = ml_I M 33 k) ∧ ml_J m2 33 3 = ml_J M 33 3) : pl_M (pl_rA A r (n + 1) f) m2 := by
  refine pl_rM hM hW (fun q hq => ?_) (fun q hq hqr j hj => ?_) (fun j hj => ?_) hkk
  · rw [h35]
    unfold pl_cM
    rw [pl_I_wI, if_neg (by decide), pl_I_sI, pl_sz1]
    by_cases hqr : q = r
    · rw [if_pos ⟨rfl, hqr⟩, if_pos hqr]
    · rw [if_neg (fun z => hqr z.2), if_neg hqr]
  · rw [h36, hg _ (by omega)]
  · rw [h36, hgf j (by omega)]
theorem pl_op_sheets (x0 : Int32) : pl_Ok (fX10_sheets 1 x0) (fX11_sheets 33 x0) := by
  intro A m h
  have hS := h.1
  have hW := h.2.1
  have hw := hW.1
  unfold pl_Wc at hw
  rcases pl_rng0 (x := x0) 5 (by decide) with hr | ⟨r, hr, rfl⟩
  · refine pl_Ok.same h (-1) ?_ ?_ <;> simp [fX10_sheets, fX11_sheets, ↓pl_let, pl_b1, pl_b2, ↓reduceIte, pl_isRow, pl_isRowM, hr]
  · have hr5 : 0 ≤ nI r ∧ nI r ≤ nI 5 := ⟨nI_pos' (by omega), nI_le (by omega) (by decide)⟩
    obtain ⟨m1, c1, c2, c3, c4, -, c5, -, c7⟩ := pl_refrL h
    obtain ⟨n, hnA⟩ : ∃ n, n = pl_N A 0 5 0 := ⟨_, rfl⟩
    have hn10 : n ≤ 10 := by omega
    rw [← hnA] at c5 c7
    have hS1 := c2.1
    have hn60 := hS1.2.2
    obtain ⟨m2, d1, d2, d3, d4, d5, d6, d7, d8⟩ := pl_copyOf (m := m1) (a := 22) (L := 10) (n := n) (pl_k22 hS1) (by omega) hn10 (by decide) hn60
    have hd := pl_rowC c2 (r := r) (f := fun k => nI ((pl_fr A n 0 fun _ => false).getD k 0)) (by omega) d6 d7 d8 (c := ml_n m1 + 1) ⟨by omega, by omega⟩ d4 (fun j hj => by rw [d5 j hj, c7 j hj])
    have hS2 : pl_Sh m2 := d6.sh hS1 (fun q _ hq => by simp at hq)
    have hS3 := hd.1
    have hC1 : fX10_sheets 1 (nI r) m = some (nI (pl_G A n 0 fun _ => false).1, ml_sR m2 2 r (ml_n m1 + 1)) := by
      have h9 : ml_I m1 1 9 = nI n := by rw [hnA]; exact c2.2.2.2.1.2.2.2.1
      have i21 : ml_I (ml_sR m2 2 r (ml_n m1 + 1)) 21 1 = nI (pl_G A n 0 fun _ => false).1 := by
        rw [pl_I_sR, (d6.2.2 21 (by omega) (by simp)).1, c5]
      have k2 := pl_k2 hS2
      simp (disch := omega) only [fX10_sheets, ↓pl_let, pl_b1, pl_b2, ↓reduceIte, pl_isRow, hr5, and_self, if_true, pl_10, if_false, pl_k1 hS, c1, pl_k1 hS1, pl_r1_0 hS1, pl_r1_13 hS1, pl_k21 hS1, pl_r21_3 hS1, h9, d1, d4, pl_in, nI_clamp, k2, show r < 6 by omega, pl_k1 hS3, pl_r1_13 hS3, pl_k21 hS3, i21]
    refine pl_Ok.mk hd hC1 (by rw [pl_n_sR]; omega) (by rw [pl_s_sR]; omega) (pl_rW hW (by omega)) fun M hSM hMM => ?_
    have h37 := hMM.1.2.2.2.2.2.1
    rw [← hnA] at h37
    obtain ⟨Q, hQ⟩ : ∃ Q, Q = pl_cM M r (nI n) := ⟨_, rfl⟩
    have hSQ : pl_Sh Q := by rw [hQ]; exact (pl_cM_mo M r _).sh hSM
    have hQI : ∀ a, a ≠ 35 → a ≠ 36 → ml_I Q a = ml_I M a := fun a h1 h2 => by
      rw [hQ]; unfold pl_cM
      rw [pl_I_wI, if_neg h2]; funext j; rw [pl_I_sI, if_neg (fun z => h1 z.1)]
    have hQJ : ml_J Q = ml_J M := by rw [hQ]; rfl
    have hQ36 : ml_I Q 36 = pl_z M r 48 := by
      rw [hQ]; unfold pl_cM; rw [pl_I_wI, if_pos rfl]
    have hbQ : pl_bk A Q := by
      have := pl_bkM hMM
      unfold pl_bk
      rw [hQI 33 (by decide) (by decide), hQI 53 (by decide) (by decide)]
      exact this
    have hmoQ : pl_mo M Q := by rw [hQ]; exact pl_cM_mo M r _
    have h37Q := hbQ.1
    rw [← hnA] at h37Q
    by_cases h0 : n = 0
    · refine ⟨Q, ?_, hmoQ, ?_⟩
      · have e : (pl_G A n 0 fun _ => false).1 = 0 := by rw [h0]; rfl
        rw [e]
        simp (disch := omega) only [fX11_sheets, ↓pl_let, pl_b1, pl_b2, ↓reduceIte, pl_isRowM, hr5, and_self, if_true, pl_10, if_false, pl_k33 hSM, h37, pl_clear hSM r (show r < 6 by omega), ← hQ, pl_k33 hSQ, h37Q, pl_eq0, eq_true h0]
        rw [nI_0]
      · have hkk : (∀ a ∈ [34, 38, 39, 40, 41, 42, 46, 51, 53, 60], ml_I Q a = ml_I M a) ∧ (∀ k ∈ [0, 2, 9, 10, 11, 23, 24, 34, 37, 46], ml_I Q 33 k = ml_I M 33 k) ∧ ml_J Q 33 3 = ml_J M 33 3 := ⟨fun a ha => hQI a (by rintro rfl; revert ha; decide) (by rintro rfl; revert ha; decide), fun k _ => by rw [hQI 33 (by decide) (by decide)], by rw [hQJ]⟩
        exact pl_rowMM hMM hW (by omega) (by rw [hQ]) hQ36 (fun y hy => by unfold pl_z; rw [if_neg hy]) (fun j hj => by omega) hkk
    · obtain ⟨n', hn'⟩ : ∃ n', n = n' + 1 := ⟨n - 1, by omega⟩
      obtain ⟨f1, f2, -⟩ := pl_first (A := A) (by omega) (show pl_N A 0 5 0 = n' + 1 by omega)
      have hgp := pl_gapsM hSQ hW hbQ
      obtain ⟨Z, hZ⟩ : ∃ Z, Z = pl_wI (pl_wI Q 54 (pl_q1 A (ml_I Q 54) 0 0)) 55 (pl_q2 A (ml_I Q 55) 0 0) := ⟨_, rfl⟩
      rw [← hZ] at hgp
      have hSZ : pl_Sh Z := by rw [hZ]; exact (hSQ.wI 54 _).wI 55 _
      have hbZ : pl_bk A Z := by rw [hZ]; exact (hbQ.wI _ (by decide)).wI _ (by decide)
      have hkZ : pl_gk2 A Z := by rw [hZ]; exact pl_gk2_ok (by omega) _ _
      have hle := pl_leastM hSZ hW hbZ hkZ
      rw [← hnA] at hle
      have hZI : ∀ a, a ≠ 35 → a ≠ 36 → a ≠ 54 → a ≠ 55 → ml_I Z a = ml_I M a := fun a h1 h2 h3 h4 => by
        rw [hZ, pl_I_wI, if_neg h4, pl_I_wI, if_neg h3, hQI a h1 h2]
      have hZJ : ml_J Z = ml_J M := by rw [hZ, pl_J_wI, pl_J_wI, hQJ]
      have hZ35 : ml_I Z 35 = ml_I (pl_cM M r (nI n)) 35 := by rw [hZ, pl_I_wI, if_neg (by decide), pl_I_wI, if_neg (by decide), hQ]
      have hZ36 : ml_I Z 36 = pl_z M r 48 := by rw [hZ, pl_I_wI, if_neg (by decide), pl_I_wI, if_neg (by decide), hQ36]
      have hmoZ : pl_mo M Z := by rw [hZ]; exact (hmoQ.wI (by decide)).wI (by decide)
      have hG1 : (pl_G A n 0 fun _ => false).1 = pl_ml (pl_v1 A) n + 1 := by rw [hn']; exact f2
      have hrow := pl_rowM hSZ hW hbZ hkZ hnA (r := r) (by omega) (nI (pl_ml (pl_v1 A) n + 1)) n 0 0 (-9) 1 (fun _ => false) (pl_ml (pl_v1 A) n) (ml_I Z 36) ml_fu (by omega) (by rw [pl_fu]; omega) (Nat.two_pow_pos n) (by rw [pl_bc0]; omega) (Or.inl ⟨rfl, rfl, rfl⟩) (fun _ => hG1.symm)
      rw [pl_wI_0] at hrow
      have hrow' : fX11_sheets_50 ml_fu 33 (nI r) (nI (pl_ml (pl_v1 A) n)) (nI (pl_ml (pl_v1 A) n + 1)) 0 (-9) 0 Z = some (nI (pl_ml (pl_v1 A) n + 1), pl_wI Z 36 (pl_f36 A (ml_I Z 36) n 0 (fun _ => false) (48 * r) 0)) := hrow
      have e1 : (1 : Int32) = nI 1 := rfl
      refine ⟨pl_wI Z 36 (pl_f36 A (ml_I Z 36) n 0 (fun _ => false) (48 * r) 0), ?_, hmoZ.wI (by decide), ?_⟩
      · rw [hG1, ← hrow']
        simp (disch := omega) only [fX11_sheets, ↓pl_let, pl_b1, pl_b2, ↓reduceIte, pl_isRowM, hr5, and_self, if_true, pl_10, if_false, pl_k33 hSM, h37, pl_clear hSM r (show r < 6 by omega), ← hQ, pl_k33 hSQ, h37Q, pl_eq0, h0, hgp, pl_k33 hSZ, hle, nI_1]
      · have hkk : (∀ a ∈ [34, 38, 39, 40, 41, 42, 46, 51, 53, 60], ml_I (pl_wI Z 36 (pl_f36 A (ml_I Z 36) n 0 (fun _ => false) (48 * r) 0)) a = ml_I M a) ∧ (∀ k ∈ [0, 2, 9, 10, 11, 23, 24, 34, 37, 46], ml_I (pl_wI Z 36 (pl_f36 A (ml_I Z 36) n 0 (fun _ => false) (48 * r) 0)) 33 k = ml_I M 33 k) ∧ ml_J (pl_wI Z 36 (pl_f36 A (ml_I Z 36) n 0 (fun _ => false) (48 * r) 0)) 33 3 = ml_J M 33 3 := ⟨fun a ha => by
          have h9 : a ≠ 35 ∧ a ≠ 36 ∧ a ≠ 54 ∧ a ≠ 55 := by revert ha; revert a; decide
          rw [pl_I_wI, if_neg h9.2.1, hZI a h9.1 h9.2.1 h9.2.2.1 h9.2.2.2], fun k _ => by rw [pl_I_wI, if_neg (by decide), hZI 33 (by decide) (by decide) (by decide) (by decide)], by rw [pl_J_wI, hZJ]⟩
        refine pl_rowMM hMM hW (by omega) ?_ (g := pl_f36 A (ml_I Z 36) n 0 (fun _ => false) (48 * r) 0) (by rw [pl_I_wI, if_pos rfl]) (fun y hy => ?_) (fun j hj => ?_) hkk
        · rw [pl_I_wI, if_neg (by decide), hZ35]
        · unfold pl_f36
          rw [if_neg (by omega), hZ36]
          unfold pl_z
          rw [if_neg hy]
        · unfold pl_f36
          rw [if_pos (by omega), show 48 * r + j - (48 * r + 0) = j by omega]

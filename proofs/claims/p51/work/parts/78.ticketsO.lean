/-! TICKETS: the reference's tables; the pairs travellers, journey. -/
theorem pl_10 : ((1 : Int32) = 0) = False := eq_false (by decide)
theorem pl_s5857 (m : ml_M) (g : Nat → Int32) (k : Nat) (v : Int32) : ml_sI (pl_wI m 58 g) 57 k v = pl_wI (ml_sI m 57 k v) 58 g := pl_sIsw m (by decide) g k v
/-- whether a set is one traveller's, over its first k -/
def pl_io (n : Nat) (a b x : Nat → Nat) (s k : Nat) : Bool := decide (s = 0) || pl_any (fun i => (pl_tl n a b (pl_on x) (s + 1) s).testBit i) k
def pl_it2 (n : Nat) (a b x : Nat → Nat) (s : Nat) : Int32 := if pl_io n a b x s n = true then 1 else 0
/-- first years and journeys of sets below s -/
def pl_jy (m : ml_M) (n : Nat) (a b x : Nat → Nat) (g57 : Nat → Int32) (s : Nat) : ml_M := pl_wI (pl_wI m 57 g57) 58 (pl_tw (ml_I m 58) (pl_it2 n a b x) 0 s)
def pl_h57 (n : Nat) (a b x : Nat → Nat) (g0 : Nat → Int32) (s k : Nat) : Nat → Int32 := fun y => if y / 10 < s ∧ y % 10 < n ∨ y / 10 = s ∧ y % 10 < k then pl_yt n a b x y else g0 y
theorem pl_h57_n {n : Nat} (hn : n ≤ 10) (a b x : Nat → Nat) (g0 : Nat → Int32) (s : Nat) : pl_h57 n a b x g0 s n = pl_h57 n a b x g0 (s + 1) 0 := by
  funext y
  unfold pl_h57
  by_cases h : y / 10 < s ∧ y % 10 < n ∨ y / 10 = s ∧ y % 10 < n
  · rw [if_pos h, if_pos (by omega)]
  · rw [if_neg h, if_neg (by omega)]
theorem pl_h57_1 {n : Nat} (hn : n ≤ 10) (a b x : Nat → Nat) (g0 : Nat → Int32) {s k : Nat} (hk : k < n) : (fun y => if y = 10 * s + k then nI (pl_yb n a b (pl_on x) s k) else pl_h57 n a b x g0 s k y) = pl_h57 n a b x g0 s (k + 1) := by
  funext y
  unfold pl_h57
  by_cases h : y = 10 * s + k
  · rw [if_pos h, if_pos (by omega)]
    unfold pl_yt
    rw [show y / 10 = s by omega, show y % 10 = k by omega]
  · rw [if_neg h]
    by_cases h2 : y / 10 < s ∧ y % 10 < n ∨ y / 10 = s ∧ y % 10 < k
    · rw [if_pos h2, if_pos (by omega)]
    · rw [if_neg h2, if_neg (by omega)]
theorem pl_journeysM {m : ml_M} (hS : pl_Sh m) {n N : Nat} {a b x : Nat → Nat} (ht : pl_tkM m n a b x) (hN : N = 2 ^ n) : fX11_layJourneys 33 m = some (pl_jy m n a b x (pl_h57 n a b x (ml_I m 57) N 0) N) := by
  have hn := ht.1
  have hn10 := ht.2.1
  have p1 : 1 ≤ N := by rw [hN]; exact Nat.one_le_two_pow
  have p2 : 2 ^ n ≤ 1024 := Nat.le_trans (Nat.pow_le_pow_right (by decide) hn10) (by decide)
  have e1 : (1 : Int32) = nI 1 := rfl
  have e31 : (31 : Int32) = nI 31 := rfl
  have e10 : (10 : Int32) = nI 10 := rfl
  have e1000 : (1000 : Int32) = nI 1000 := rfl
  have a0 : (0 : Int32) &&& 1 = 0 := by decide
  have a1 : (1 : Int32) &&& 1 = 1 := by decide
  have ha99 : ∀ k, k < n → a k ≤ 99 := fun k hkn => by obtain ⟨t, h⟩ := ht.2.2 k hkn; omega
  have hI33 : ∀ g h, ml_I (pl_wI (pl_wI m 57 g) 58 h) 33 = ml_I m 33 := fun g h => by rw [pl_I_wI, if_neg (by decide), pl_I_wI, if_neg (by decide)]
  have hI57 : ∀ g h, ml_I (pl_wI (pl_wI m 57 g) 58 h) 57 = g := fun g h => by rw [pl_I_wI, if_neg (by decide), pl_I_wI, if_pos rfl]
  have hI58 : ∀ g h, ml_I (pl_wI (pl_wI m 57 g) 58 h) 58 = h := fun g h => by rw [pl_I_wI, if_pos rfl]
  have hSg : ∀ g h, pl_Sh (pl_wI (pl_wI m 57 g) 58 h) := fun g h => (hS.wI 57 _).wI 58 _
  have htg : ∀ g h, pl_tkM (pl_wI (pl_wI m 57 g) 58 h) n a b x := fun g h => (ht.wI g (by decide)).wI h (by decide)
  have k33 := pl_k33 hS
  have k57 := pl_k57 hS
  have k58 := pl_k58 hS
  have r43 := pl_r33_43 hS
  have r44 := pl_r33_44 hS
  have ei : ∀ (K : Nat → Int32 → ml_M → Option ml_M) (s : Nat), s < N → fX11_layJourneys_29 K ml_fu 33 (nI s) 0 (pl_wI (pl_wI m 57 (pl_h57 n a b x (ml_I m 57) s 0)) 58 (fun y => if y = s then (if pl_io n a b x s 0 = true then 1 else 0) else pl_tw (ml_I m 58) (pl_it2 n a b x) 0 s y)) = K 33 (nI (s + 1)) (pl_jy m n a b x (pl_h57 n a b x (ml_I m 57) (s + 1) 0) (s + 1)) := fun K s hs => by
    have hh := pl_for (F := fun fu k (_ : Unit) => fX11_layJourneys_29 K fu 33 (nI s) (nI k) (pl_wI (pl_wI m 57 (pl_h57 n a b x (ml_I m 57) s k)) 58 (fun y => if y = s then (if pl_io n a b x s k = true then 1 else 0) else pl_tw (ml_I m 58) (pl_it2 n a b x) 0 s y))) (R := K 33 (nI (s + 1)) (pl_jy m n a b x (pl_h57 n a b x (ml_I m 57) (s + 1) 0) (s + 1))) n (fun _ => ()) (fun fu k hk => ?_) (fun fu => ?_) ml_fu (by rw [pl_fu]; omega)
    · exact hh
    · show fX11_layJourneys_29 K (fu + 1) 33 (nI s) (nI k) (pl_wI (pl_wI m 57 (pl_h57 n a b x (ml_I m 57) s k)) 58 (fun y => if y = s then (if pl_io n a b x s k = true then 1 else 0) else pl_tw (ml_I m 58) (pl_it2 n a b x) 0 s y)) = fX11_layJourneys_29 K fu 33 (nI s) (nI (k + 1)) (pl_wI (pl_wI m 57 (pl_h57 n a b x (ml_I m 57) s (k + 1))) 58 (fun y => if y = s then (if pl_io n a b x s (k + 1) = true then 1 else 0) else pl_tw (ml_I m 58) (pl_it2 n a b x) 0 s y))
      have hyle := pl_yb_le (b := b) (on := pl_on x) ha99 s k
      have hio : pl_io n a b x s (k + 1) = (pl_io n a b x s k || (pl_tl n a b (pl_on x) (s + 1) s).testBit k) := by
        unfold pl_io; rw [pl_any1, Bool.or_assoc]
      have hbit : (pl_tl n a b (pl_on x) (s + 1) s).testBit k = decide (pl_yb n a b (pl_on x) s k < 1000) := by
        have := pl_ov_99 ha99 s n (Nat.le_refl n)
        unfold pl_yb
        cases hc : (pl_tl n a b (pl_on x) (s + 1) s).testBit k
        · rw [if_neg (by decide)]; rfl
        · rw [if_pos rfl, decide_eq_true (by omega)]
      rw [hbit] at hio
      rw [← pl_h57_1 hn10 a b x (ml_I m 57) hk]
      -- behind the year
      have h75 : ∀ y : Nat, y = pl_yb n a b (pl_on x) s k → fX11_layJourneys_75 K (fX11_layJourneys_29 K fu) 33 (nI s) (nI k) (nI (10 * s + k)) (nI y) (nI (10 * s + k)) 57 (pl_wI (pl_wI m 57 (pl_h57 n a b x (ml_I m 57) s k)) 58 (fun y => if y = s then (if pl_io n a b x s k = true then 1 else 0) else pl_tw (ml_I m 58) (pl_it2 n a b x) 0 s y)) = fX11_layJourneys_29 K fu 33 (nI s) (nI (k + 1)) (pl_wI (pl_wI m 57 (fun y => if y = 10 * s + k then nI (pl_yb n a b (pl_on x) s k) else pl_h57 n a b x (ml_I m 57) s k y)) 58 (fun y => if y = s then (if pl_io n a b x s (k + 1) = true then 1 else 0) else pl_tw (ml_I m 58) (pl_it2 n a b x) 0 s y)) := fun y hy => by
        rw [hio, ← hy]
        rw [← hy] at hyle
        by_cases c1 : pl_io n a b x s k = true
        · have hu := pl_upd2 (pl_tw (ml_I m 58) (pl_it2 n a b x) 0 s) s 1 1
          simp (disch := omega) only [fX11_layJourneys_75, fX11_layJourneys_102, fX11_layJourneys_107, c1, if_true, Bool.true_or, ↓pl_let, pl_b1, pl_b2, ↓reduceIte, pl_K_wI, k33, k57, k58, pl_R_wI, r43, r44, pl_in, nI_clamp, show 10 * s + k < 10240 by omega, show s < 1024 by omega, and_self, pl_s5857, pl_wI_sI, hI58, a1, hu, if_false, pl_10]
          rw [show nI k + 1 = nI (k + 1) from nI_1 k]
        · have c10 : pl_io n a b x s k = false := by simpa using c1
          by_cases c2 : y < 1000
          · have hu := pl_upd2 (pl_tw (ml_I m 58) (pl_it2 n a b x) 0 s) s 0 1
            rw [decide_eq_true c2, Bool.or_true, if_pos rfl]
            simp (disch := omega) only [fX11_layJourneys_75, fX11_layJourneys_102, fX11_layJourneys_107, c10, if_true, Bool.false_eq_true, ↓pl_let, pl_b1, pl_b2, ↓reduceIte, pl_K_wI, k33, k57, k58, pl_R_wI, r43, r44, pl_in, nI_clamp, show 10 * s + k < 10240 by omega, show s < 1024 by omega, and_self, pl_s5857, pl_wI_sI, hI58, hI57, e1000, nI_leI, show ¬ 1000 ≤ y by omega, a1, hu, if_false, pl_10]
            rw [show nI k + 1 = nI (k + 1) from nI_1 k]
          · have hu := pl_upd2 (pl_tw (ml_I m 58) (pl_it2 n a b x) 0 s) s 0 0
            rw [decide_eq_false c2, Bool.or_false, c10]
            simp (disch := omega) only [fX11_layJourneys_75, fX11_layJourneys_102, fX11_layJourneys_107, if_true, Bool.false_eq_true, ↓pl_let, pl_b1, pl_b2, ↓reduceIte, pl_K_wI, k33, k57, k58, pl_R_wI, r43, r44, pl_in, nI_clamp, show 10 * s + k < 10240 by omega, show s < 1024 by omega, and_self, pl_s5857, pl_wI_sI, hI58, hI57, e1000, nI_leI, show 1000 ≤ y by omega, a0, hu, if_false, pl_10]
            rw [show nI k + 1 = nI (k + 1) from nI_1 k]
      have h1 := fun M => (pl_has (s := s) (t := k) (by omega) (by omega) M).2
      rw [← h75 (pl_yb n a b (pl_on x) s k) rfl]
      by_cases hb : s.testBit k = true
      · have hdl := pl_del_lt hb
        have hdn := pl_andn (pl_bit_sub hb)
        have hea := pl_earliest (hSg (pl_h57 n a b x (ml_I m 57) s k) (fun y => if y = s then (if pl_io n a b x s k = true then 1 else 0) else pl_tw (ml_I m 58) (pl_it2 n a b x) 0 s y)) (htg _ _) (by omega) hk hb (fun j hj => by
          rw [hI57]
          unfold pl_h57 pl_yt
          rw [if_pos (by omega), show (10 * (s ^^^ 2 ^ k) + j) / 10 = s ^^^ 2 ^ k by omega, show (10 * (s ^^^ 2 ^ k) + j) % 10 = j by omega])
        have hdn' : nI s &&& ((1 : Int32) <<< (nI k &&& 31) ^^^ (-1 : Int32)) = nI (s ^^^ 2 ^ k) := by rw [pl_shl1 (by omega), hdn]
        have hz : ∀ (M : ml_M) (f : Int32 → Option ml_M), ml_b1 (fX11_has (nI s) (nI k) M) f = f 1 := fun M f => by rw [h1, hb]; rfl
        have hidx : (10 : Int32) * nI s + nI k = nI (10 * s + k) := by rw [e10, pk_mul, nI_add]
        simp (disch := omega) only [fX11_layJourneys_29, ↓hz, ↓pl_let, pl_b1, pl_b2, ↓reduceIte, pl_K_wI, k33, if_true, hI33, hn, nI_leI, show ¬ n ≤ k by omega, if_false, hidx, pl_R_wI, r43, pl_10, hdn', hea]
      · have hb0 : s.testBit k = false := by simpa using hb
        have hz : ∀ (M : ml_M) (f : Int32 → Option ml_M), ml_b1 (fX11_has (nI s) (nI k) M) f = f 0 := fun M f => by rw [h1, hb0]; rfl
        have hidx : (10 : Int32) * nI s + nI k = nI (10 * s + k) := by rw [e10, pk_mul, nI_add]
        rw [pl_yb_no n a b (pl_on x) hb0]
        simp (disch := omega) only [fX11_layJourneys_29, ↓hz, ↓pl_let, pl_b1, pl_b2, ↓reduceIte, pl_K_wI, k33, if_true, hI33, hn, nI_leI, show ¬ n ≤ k by omega, if_false, hidx, pl_R_wI, r43, e1000]
    · unfold pl_jy
      rw [← pl_h57_n hn10, ← pl_tw_1 (ml_I m 58) (pl_it2 n a b x) (Nat.zero_le s) (if pl_io n a b x s n = true then 1 else 0) rfl]
      simp (disch := omega) only [fX11_layJourneys_29, fX11_layJourneys_114, ↓pl_let, pl_b1, pl_b2, ↓reduceIte, pl_K_wI, k33, if_true, hI33, hn, nI_leI, Nat.le_refl]
      rw [show nI s + 1 = nI (s + 1) from nI_1 s]
  have hsh : (1 : Int32) <<< (nI n &&& 31) = nI N := by rw [pl_shl1 (by omega), hN]
  have ho := pl_for (F := fun fu s (_ : Unit) => fX11_layJourneys_2 fu 33 (nI s) (pl_jy m n a b x (pl_h57 n a b x (ml_I m 57) s 0) s)) (R := some (pl_jy m n a b x (pl_h57 n a b x (ml_I m 57) N 0) N)) N (fun _ => ()) (fun fu s hs => ?_) (fun fu => ?_) ml_fu (by rw [pl_fu]; omega)
  · have e : pl_jy m n a b x (pl_h57 n a b x (ml_I m 57) 0 0) 0 = m := by
      have e57 : pl_h57 n a b x (ml_I m 57) 0 0 = ml_I m 57 := by
        funext y; unfold pl_h57; rw [if_neg (by omega)]
      unfold pl_jy
      rw [e57, pl_tw_0, pl_wI_0, pl_wI_0]
    rw [e] at ho
    exact ho
  · show fX11_layJourneys_2 (fu + 1) 33 (nI s) (pl_jy m n a b x (pl_h57 n a b x (ml_I m 57) s 0) s) = fX11_layJourneys_2 fu 33 (nI (s + 1)) (pl_jy m n a b x (pl_h57 n a b x (ml_I m 57) (s + 1) 0) (s + 1))
    rw [← ei (fX11_layJourneys_2 fu) s hs]
    have hio0 : pl_io n a b x s 0 = decide (s = 0) := by unfold pl_io; exact Bool.or_false _
    rw [hio0]
    unfold pl_jy
    by_cases h0 : s = 0
    · simp (disch := omega) only [fX11_layJourneys_2, fX11_layJourneys_26, ↓pl_let, pl_b1, pl_b2, ↓reduceIte, pl_K_wI, k33, k58, if_true, hI33, hn, hsh, nI_leI, show ¬ N ≤ s by omega, if_false, pl_R_wI, r44, pl_eq0, eq_true h0, pl_in, nI_clamp, show s < 1024 by omega, and_self, a1, pl_wI_sI, decide_true]
    · simp (disch := omega) only [fX11_layJourneys_2, fX11_layJourneys_26, ↓pl_let, pl_b1, pl_b2, ↓reduceIte, pl_K_wI, k33, k58, if_true, hI33, hn, hsh, nI_leI, show ¬ N ≤ s by omega, if_false, pl_R_wI, r44, pl_eq0, h0, pl_in, nI_clamp, show s < 1024 by omega, and_self, a0, pl_wI_sI, decide_false, Bool.false_eq_true]
  · unfold pl_jy
    simp (disch := omega) only [fX11_layJourneys_2, ↓pl_let, pl_b1, pl_b2, ↓reduceIte, pl_K_wI, k33, if_true, hI33, hn, hsh, nI_leI, Nat.le_refl]
theorem pl_io_L {n : Nat} {a b x : Nat → Nat} {s : Nat} (h0 : 0 < s) : pl_io n a b x s n = decide (pl_tl n a b (pl_on x) (s + 1) s ≠ 0) := by
  unfold pl_io
  rw [decide_eq_false (by omega), Bool.false_or, pl_any_tb (pl_tl_lt n a b (pl_on x) (s + 1) s)]
theorem pl_fewM {m : ml_M} (hS : pl_Sh m) {n N : Nat} (hn10 : n ≤ 10) (hN : N = 2 ^ n) (h41 : ml_I m 33 41 = nI n) {L : Nat → Nat} (h58 : ∀ s, 1 ≤ s → s < N → ml_I m 58 s = if L s ≠ 0 then 1 else 0) :
    ∃ g, fX11_travellers_19 ml_fu 33 0 m = some (nI (pl_pp L N (N - 1)), pl_wI m 59 g) := by
  have p1 : 1 ≤ N := by rw [hN]; exact Nat.one_le_two_pow
  have p2 : 2 ^ n ≤ 1024 := Nat.le_trans (Nat.pow_le_pow_right (by decide) hn10) (by decide)
  have e1 : (1 : Int32) = nI 1 := rfl
  have e100 : (100 : Int32) = nI 100 := rfl
  have hI33 : ∀ g, ml_I (pl_wI m 59 g) 33 = ml_I m 33 := fun g => by rw [pl_I_wI, if_neg (by decide)]
  have hI58 : ∀ g, ml_I (pl_wI m 59 g) 58 = ml_I m 58 := fun g => by rw [pl_I_wI, if_neg (by decide)]
  have hI59 : ∀ g, ml_I (pl_wI m 59 g) 59 = g := fun g => by rw [pl_I_wI, if_pos rfl]
  have k33 := pl_k33 hS
  have k58 := pl_k58 hS
  have k59 := pl_k59 hS
  have r44 := pl_r33_44 hS
  have r45 := pl_r33_45 hS
  refine ⟨pl_tw (ml_I m 59) (pl_ft2 L) 0 N, ?_⟩
  have ei : ∀ (K : Nat → Int32 → ml_M → Option (Int32 × ml_M)) (s : Nat) (G : Nat → Int32), s < N → (∀ y, y < s → G y = nI (pl_pp L s y)) → ∀ f p v fu, p < f → f ≤ fu → p &&& s = p → v ≤ 100 → fX11_travellers_47 K fu 33 (nI s) (nI p) (pl_wI m 59 (fun y => if y = s then nI v else G y)) = K 33 (nI (s + 1)) (pl_wI m 59 (fun y => if y = s then nI (pl_pf (pl_gp L (pl_pp L s) s) s f p v) else G y)) := by
    intro K s G hs hG f
    induction f with
    | zero => intro p v fu hp; omega
    | succ f ih =>
      intro p v fu hp hfu hsub hv
      obtain ⟨fu, rfl⟩ : ∃ k, fu = k + 1 := ⟨fu - 1, by omega⟩
      have hps : p ≤ s := by rw [← hsub]; exact Nat.and_le_right
      rw [pl_pf1]
      by_cases h0 : p = 0
      · rw [if_pos h0]
        simp (disch := omega) only [fX11_travellers_47, fX11_travellers_113, pl_leZ, eq_true h0, if_true, e1, nI_add]
      · rw [if_neg h0]
        have hlt := pl_part_lt (s := s) (p := p) (by omega)
        have hgv : pl_gp L (pl_pp L s) s p v ≤ v := by unfold pl_gp; split <;> omega
        rw [← ih ((p - 1) &&& s) (pl_gp L (pl_pp L s) s p v) fu (by omega) (by omega) (pl_part_sub p s) (by omega)]
        have hnx : nI p - nI 1 = nI (p - 1) := pl_sub (by omega)
        have h58p := h58 p (by omega) (by omega)
        have h77 : ∀ w : Nat, w ≤ 101 → pl_gp L (pl_pp L s) s p v = (if v ≤ w then v else w) → fX11_travellers_77 K (fX11_travellers_47 K fu) 33 (nI s) (nI p) (nI w) (pl_wI m 59 (fun y => if y = s then nI v else G y)) = fX11_travellers_47 K fu 33 (nI s) (nI ((p - 1) &&& s)) (pl_wI m 59 (fun y => if y = s then nI (pl_gp L (pl_pp L s) s p v) else G y)) := fun w hw hg => by
          rw [hg]
          by_cases hc : v ≤ w
          · have hu := pl_upd2 G s (nI v) (nI v)
            rw [if_pos hc]
            simp (disch := omega) only [fX11_travellers_77, fX11_travellers_103, ↓pl_let, pl_b1, pl_b2, ↓reduceIte, pl_K_wI, k33, k59, if_true, pl_R_wI, r45, pl_in, nI_clamp, show s < 1024 by omega, and_self, hI59, nI_leI, hc, pl_wI_sI, hu, e1, hnx, pl_and]
          · have hu := pl_upd2 G s (nI v) (nI w)
            rw [if_neg hc]
            simp (disch := omega) only [fX11_travellers_77, fX11_travellers_103, ↓pl_let, pl_b1, pl_b2, ↓reduceIte, pl_K_wI, k33, k59, if_true, pl_R_wI, r45, pl_in, nI_clamp, show s < 1024 by omega, and_self, hI59, nI_leI, hc, if_false, pl_wI_sI, hu, e1, hnx, pl_and]
        by_cases hl : L p = 0
        · have hg : pl_gp L (pl_pp L s) s p v = (if v ≤ 100 then v else 100) := by unfold pl_gp; rw [if_neg (fun z => z.1 hl), if_pos hv]
          rw [← h77 100 (by decide) hg]
          rw [if_neg (fun z => z hl)] at h58p
          simp (disch := omega) only [fX11_travellers_47, ↓pl_let, pl_b1, pl_b2, ↓reduceIte, pl_leZ, h0, if_false, pl_K_wI, k33, k58, if_true, pl_R_wI, r44, pl_in, nI_clamp, show p < 1024 by omega, and_self, hI58, h58p, e100]
        · have hxl := pl_xor_lt hsub (by omega)
          have hdn := pl_andn hsub
          have hFx := hG (s ^^^ p) hxl
          have hF100 := pl_pp_100 L s (s ^^^ p)
          have hsx : ¬ s ^^^ p = s := by omega
          have hg : pl_gp L (pl_pp L s) s p v = (if v ≤ 1 + pl_pp L s (s ^^^ p) then v else 1 + pl_pp L s (s ^^^ p)) := by
            unfold pl_gp
            by_cases hc : pl_pp L s (s ^^^ p) + 1 < v
            · rw [if_pos ⟨hl, hc⟩, if_neg (by omega)]; omega
            · rw [if_neg (fun z => hc z.2), if_pos (by omega)]
          rw [← h77 (1 + pl_pp L s (s ^^^ p)) (by omega) hg]
          rw [if_pos hl] at h58p
          have hadd : (1 : Int32) + nI (pl_pp L s (s ^^^ p)) = nI (1 + pl_pp L s (s ^^^ p)) := by rw [e1, nI_add]
          simp (disch := omega) only [fX11_travellers_47, ↓pl_let, pl_b1, pl_b2, ↓reduceIte, pl_leZ, h0, if_false, pl_K_wI, k33, k58, k59, if_true, pl_R_wI, r44, r45, pl_in, nI_clamp, show p < 1024 by omega, show s ^^^ p < 1024 by omega, and_self, hI58, h58p, hdn, hI59, hsx, hFx, hadd, pl_10]
  have hsh : (1 : Int32) <<< (nI n &&& 31) = nI N := by rw [pl_shl1 (by omega), hN]
  have ho := pl_for (F := fun fu s (_ : Unit) => fX11_travellers_19 fu 33 (nI s) (pl_wI m 59 (pl_tw (ml_I m 59) (pl_ft2 L) 0 s))) (R := some (nI (pl_pp L N (N - 1)), pl_wI m 59 (pl_tw (ml_I m 59) (pl_ft2 L) 0 N))) N (fun _ => ()) (fun fu s hs => ?_) (fun fu => ?_) ml_fu (by rw [pl_fu]; omega)
  · rw [pl_tw_0, pl_wI_0] at ho
    exact ho
  · show fX11_travellers_19 (fu + 1) 33 (nI s) (pl_wI m 59 (pl_tw (ml_I m 59) (pl_ft2 L) 0 s)) = fX11_travellers_19 fu 33 (nI (s + 1)) (pl_wI m 59 (pl_tw (ml_I m 59) (pl_ft2 L) 0 (s + 1)))
    have h := ei (fX11_travellers_19 fu) s (pl_tw (ml_I m 59) (pl_ft2 L) 0 s) hs (fun y hy => by
      rw [pl_tw_i (by omega), pl_pp_st L (show y < y + 1 by omega) (show y + 1 ≤ s by omega)]; rfl) (s + 1) s (if s = 0 then 0 else 100) ml_fu (by omega) (by rw [pl_fu]; omega) (Nat.and_self s) (by split <;> omega)
    have hv : pl_pf (pl_gp L (pl_pp L s) s) s (s + 1) s (if s = 0 then 0 else 100) = pl_pp L (s + 1) s := by
      rw [pl_pp1, if_pos rfl]
      by_cases h0 : s = 0
      · rw [if_pos h0, if_pos h0, pl_pf1, if_pos h0]
      · rw [if_neg h0, if_neg h0]
    rw [hv, pl_tw_1 (ml_I m 59) (pl_ft2 L) (Nat.zero_le s) (nI (pl_pp L (s + 1) s)) rfl] at h
    rw [← h]
    by_cases h0 : s = 0
    · rw [if_pos h0]
      simp (disch := omega) only [fX11_travellers_19, fX11_travellers_44, ↓pl_let, pl_b1, pl_b2, ↓reduceIte, pl_K_wI, k33, k59, if_true, hI33, h41, hsh, nI_leI, show ¬ N ≤ s by omega, if_false, pl_R_wI, r45, pl_eq0, eq_true h0, pl_in, nI_clamp, show s < 1024 by omega, and_self, pl_wI_sI]
      rw [nI_0]
    · rw [if_neg h0]
      simp (disch := omega) only [fX11_travellers_19, fX11_travellers_44, ↓pl_let, pl_b1, pl_b2, ↓reduceIte, pl_K_wI, k33, k59, if_true, hI33, h41, hsh, nI_leI, show ¬ N ≤ s by omega, if_false, pl_R_wI, r45, pl_eq0, h0, pl_in, nI_clamp, show s < 1024 by omega, and_self, pl_wI_sI, e100]
  · have hv : pl_tw (ml_I m 59) (pl_ft2 L) 0 N (N - 1) = nI (pl_pp L N (N - 1)) := by
      rw [pl_tw_i (by omega)]; unfold pl_ft2; rw [show N - 1 + 1 = N by omega]
    have hm1 : nI N - (1 : Int32) = nI (N - 1) := pl_sub p1
    simp (disch := omega) only [fX11_travellers_19, fX11_travellers_119, ↓pl_let, pl_b1, pl_b2, ↓reduceIte, pl_K_wI, k33, k59, if_true, hI33, h41, hsh, nI_leI, Nat.le_refl, pl_R_wI, r45, hm1, pl_in, nI_clamp, show N - 1 < 1024 by omega, and_self, hI59, hv]

/-! READINGS: the reference's side; the pairs. -/
theorem pl_br2 {α : Type} {p q : Prop} [Decidable p] [Decidable q] (X Y : α) (h : ¬ (p ∧ ¬ q)) : (if p then if q then X else Y else X) = X := by
  by_cases hp : p
  · by_cases hq : q
    · rw [if_pos hp, if_pos hq]
    · exact absurd ⟨hp, hq⟩ h
  · rw [if_neg hp]
theorem pl_br3 {α : Type} {p q : Prop} [Decidable p] [Decidable q] (X Y : α) (h : p ∧ ¬ q) : (if p then if q then X else Y else X) = Y := by
  rw [if_pos h.1, if_neg h.2]
def pl_rdt (nt L : Nat) (phi : Nat → Nat → Bool) (g0 : Nat → Int32) (l s : Nat) : Nat → Int32 := fun x => if x / 256 ≤ L ∧ x % 256 < 2 ^ nt ∧ (l < x / 256 ∨ (l = x / 256 ∧ x % 256 < s)) then nI (pl_rd nt L phi (L - x / 256) (x % 256)) else g0 x
theorem pl_rdt_dn (nt L : Nat) (phi : Nat → Nat → Bool) (g0 : Nat → Int32) (l : Nat) : pl_rdt nt L phi g0 (l + 1) (2 ^ nt) = pl_rdt nt L phi g0 l 0 := by
  funext x
  unfold pl_rdt
  by_cases h : x / 256 ≤ L ∧ x % 256 < 2 ^ nt ∧ l < x / 256
  · rw [if_pos (by omega), if_pos (by omega)]
  · rw [if_neg (by omega), if_neg (by omega)]
theorem pl_rdt_0 (nt L : Nat) (phi : Nat → Nat → Bool) (g0 : Nat → Int32) : pl_rdt nt L phi g0 L 0 = g0 := by
  funext x
  unfold pl_rdt
  rw [if_neg (by omega)]
theorem pl_rdt_up {nt L : Nat} {phi : Nat → Nat → Bool} {g0 : Nat → Int32} {l s : Nat} (hl : l ≤ L) (hs : s < 2 ^ nt) (hn : 2 ^ nt ≤ 256) : (fun x => if x = 256 * l + s then nI (pl_rd nt L phi (L - l) s) else pl_rdt nt L phi g0 l s x) = pl_rdt nt L phi g0 l (s + 1) := by
  funext x
  unfold pl_rdt
  by_cases h : x = 256 * l + s
  · rw [if_pos h, if_pos (by omega), show x / 256 = l by omega, show x % 256 = s by omega]
  · rw [if_neg h]
    by_cases h2 : x / 256 ≤ L ∧ x % 256 < 2 ^ nt ∧ (l < x / 256 ∨ (l = x / 256 ∧ x % 256 < s))
    · rw [if_pos h2, if_pos (by omega)]
    · rw [if_neg h2, if_neg (by omega)]
def pl_rp (nt L : Nat) (phi : Nat → Nat → Bool) (l s t : Nat) : Nat := pl_sum (fun t => if (phi l t && !s.testBit t) = true then pl_rd nt L phi (L - (l + 1)) (s ||| 2 ^ t) else 0) t
theorem pl_rp1 (nt L : Nat) (phi : Nat → Nat → Bool) (l s t : Nat) : pl_rp nt L phi l s (t + 1) = pl_rp nt L phi l s t + (if (phi l t && !s.testBit t) = true then pl_rd nt L phi (L - (l + 1)) (s ||| 2 ^ t) else 0) := rfl
theorem pl_rp_n {nt L : Nat} {phi : Nat → Nat → Bool} {l s : Nat} (hl : l < L) : pl_rp nt L phi l s nt = pl_rd nt L phi (L - l) s := by
  obtain ⟨d, hd⟩ : ∃ d, L - l = d + 1 := ⟨L - l - 1, by omega⟩
  rw [hd]
  unfold pl_rp
  show _ = pl_sum _ _
  rw [show L - (l + 1) = d by omega, show L - (d + 1) = l by omega]
theorem pl_readsM {A : pl_A} {M : ml_M} (hS : pl_Sh M) (hW : pl_W A) (hM : pl_M A M) (q1 q2 : Int32) (phi : Nat → Nat → Bool) (hphi : ∀ l t, l < pl_N A 0 4 0 → t < pl_N A 0 1 0 → phi l t = (if nI l = q1 ∧ ¬ nI t = q2 then false else pl_lf A l t)) : ∃ g, fX11_readingsBy 33 q1 q2 M = some (nI (pl_rg (pl_N A 0 1 0) (pl_N A 0 4 0) phi 0), pl_wI M 52 g) := by
  have hw := hW.1
  unfold pl_Wc at hw
  obtain ⟨nt, hnt⟩ : ∃ nt, nt = pl_N A 0 1 0 := ⟨_, rfl⟩
  obtain ⟨L, hL⟩ : ∃ L, L = pl_N A 0 4 0 := ⟨_, rfl⟩
  obtain ⟨N, hN⟩ : ∃ N, N = 2 ^ nt := ⟨_, rfl⟩
  rw [← hnt, ← hL] at hphi ⊢
  obtain ⟨p1, p2⟩ := pl_pown (show nt ≤ 8 by omega)
  rw [← hN] at p1 p2
  have hMg : ∀ g, pl_M A (pl_wI M 52 g) := fun g => ((pl_kp.refl M).wI (by decide)).M hM
  have hSg : ∀ g, pl_Sh (pl_wI M 52 g) := fun g => hS.wI 52 g
  have hIg : ∀ g, ml_I (pl_wI M 52 g) 52 = g := fun g => by rw [pl_I_wI, if_pos rfl]
  have h10 : ∀ g, ml_I (pl_wI M 52 g) 33 10 = nI nt := fun g => by rw [hnt]; exact (hMg g).1.2.1
  have h34 : ∀ g, ml_I (pl_wI M 52 g) 33 34 = nI L := fun g => by rw [hL]; exact (hMg g).1.2.2.2.2.1
  have k33 : ∀ g, ml_K (pl_wI M 52 g) 33 = (11, 0) := fun g => pl_k33 (hSg g)
  have k52 : ∀ g, ml_K (pl_wI M 52 g) 52 = (20, 2304) := fun g => pl_k52 (hSg g)
  have r36 : ∀ g, ml_R (pl_wI M 52 g) 33 36 = 52 := fun g => pl_r33_36 (hSg g)
  have e31 : (31 : Int32) = nI 31 := rfl
  have e1 : (1 : Int32) = nI 1 := rfl
  have e256 : (256 : Int32) = nI 256 := rfl
  obtain ⟨g0, hg0⟩ : ∃ g0, g0 = ml_I M 52 := ⟨_, rfl⟩
  refine ⟨pl_rdt nt L phi g0 0 N, ?_⟩
  have ei : ∀ (K13 : Nat → Int32 → Int32 → Int32 → Int32 → ml_M → Option (Int32 × ml_M)) (K21 : Nat → Int32 → Int32 → Int32 → Int32 → Int32 → ml_M → Option (Int32 × ml_M)) (l s : Nat), l < L → s < N → fX11_readingsBy_46 K13 K21 ml_fu 33 q1 q2 (nI N) (nI l) (nI s) 0 0 (pl_wI M 52 (pl_rdt nt L phi g0 l s)) = K21 33 q1 q2 (nI N) (nI l) (nI (s + 1)) (pl_wI M 52 (pl_rdt nt L phi g0 l (s + 1))) := fun K13 K21 l s hl hs => by
    refine pl_for (F := fun fu t (_ : Unit) => fX11_readingsBy_46 K13 K21 fu 33 q1 q2 (nI N) (nI l) (nI s) (nI (pl_rp nt L phi l s t)) (nI t) (pl_wI M 52 (pl_rdt nt L phi g0 l s))) (R := K21 33 q1 q2 (nI N) (nI l) (nI (s + 1)) (pl_wI M 52 (pl_rdt nt L phi g0 l (s + 1)))) nt (fun _ => ()) (fun fu t ht => ?_) (fun fu => ?_) ml_fu (by rw [pl_fu]; omega)
    · show fX11_readingsBy_46 K13 K21 (fu + 1) 33 q1 q2 (nI N) (nI l) (nI s) (nI (pl_rp nt L phi l s t)) (nI t) (pl_wI M 52 (pl_rdt nt L phi g0 l s)) = fX11_readingsBy_46 K13 K21 fu 33 q1 q2 (nI N) (nI l) (nI s) (nI (pl_rp nt L phi l s (t + 1))) (nI (t + 1)) (pl_wI M 52 (pl_rdt nt L phi g0 l s))
      have h2 := fun M => (pl_has (s := s) (t := t) (by omega) (by omega) M).2
      have hlf := pl_lineFits (hSg (pl_rdt nt L phi g0 l s)) hW (hMg (pl_rdt nt L phi g0 l s)) (l := l) (t := t) (by omega) (by omega)
      have hp := hphi l t hl ht
      rw [pl_rp1]
      generalize pl_rp nt L phi l s t = a
      by_cases hst : s.testBit t = true
      · rw [if_neg (by simp [hst]), Nat.add_zero a]
        simp (disch := omega) only [fX11_readingsBy_46, fX11_readingsBy_101, fX11_readingsBy_102, fX11_readingsBy_136, ↓pl_let, pl_b1, pl_b2, ↓reduceIte, k33, if_true, h10, h34, nI_leI, show ¬ nt ≤ t by omega, show ¬ L ≤ l by omega, if_false, h2, hst, e1, pl_eq0, Nat.reduceEqDiff, Int32.add_zero, nI_add]
      · have hst : s.testBit t = false := by simpa using hst
        by_cases hq : nI l = q1 ∧ ¬ nI t = q2
        · rw [if_pos hq] at hp
          rw [if_neg (by simp [hp]), Nat.add_zero a]
          simp (disch := omega) only [fX11_readingsBy_46, ↓pl_let, pl_b1, pl_b2, ↓reduceIte, k33, if_true, h10, h34, nI_leI, show ¬ nt ≤ t by omega, show ¬ L ≤ l by omega, if_false, h2, hst, Bool.false_eq_true, pl_br3 _ _ hq]
          simp (disch := omega) only [fX11_readingsBy_101, fX11_readingsBy_102, fX11_readingsBy_136, ↓pl_let, pl_b1, pl_b2, ↓reduceIte, if_true, e1, Int32.add_zero, nI_add]
        · rw [if_neg hq] at hp
          rw [← hp] at hlf
          have hstep : fX11_readingsBy_46 K13 K21 (fu + 1) 33 q1 q2 (nI N) (nI l) (nI s) (nI a) (nI t) (pl_wI M 52 (pl_rdt nt L phi g0 l s)) = fX11_readingsBy_86 K13 K21 (fX11_readingsBy_46 K13 K21 fu) 33 q1 q2 (nI N) (nI l) (nI s) (nI a) (nI t) (pl_wI M 52 (pl_rdt nt L phi g0 l s)) := by
            simp (disch := omega) only [fX11_readingsBy_46, ↓pl_let, pl_b1, pl_b2, ↓reduceIte, k33, if_true, h10, h34, nI_leI, show ¬ nt ≤ t by omega, show ¬ L ≤ l by omega, if_false, h2, hst, Bool.false_eq_true, pl_br2 _ _ hq]
          rw [hstep]
          by_cases hf : phi l t = true
          · rw [if_pos (by simp [hf, hst])]
            have hlt : s ||| 2 ^ t < N := by rw [hN]; exact pl_ins_lt (by omega) ht
            have hv : pl_rdt nt L phi g0 l s (256 * (l + 1) + (s ||| 2 ^ t)) = nI (pl_rd nt L phi (L - (l + 1)) (s ||| 2 ^ t)) := by
              unfold pl_rdt
              rw [if_pos (by omega), show (256 * (l + 1) + (s ||| 2 ^ t)) / 256 = l + 1 by omega, show (256 * (l + 1) + (s ||| 2 ^ t)) % 256 = s ||| 2 ^ t by omega]
            simp (disch := omega) only [fX11_readingsBy_86, fX11_readingsBy_102, fX11_readingsBy_136, ↓pl_let, pl_b1, pl_b2, ↓reduceIte, k33, if_true, hlf, hf, e1, e31, e256, pl_eq0, Nat.reduceEqDiff, if_false, r36, nI_add, pl_and, pl_shl2, pl_or, pk_mul, pl_in, nI_clamp, k52, show 256 * (l + 1) + (s ||| 2 ^ t) < 2304 by omega, and_self, hIg, hv]
          · have hf : phi l t = false := by simpa using hf
            rw [if_neg (by simp [hf]), Nat.add_zero a]
            simp (disch := omega) only [fX11_readingsBy_86, fX11_readingsBy_101, fX11_readingsBy_102, fX11_readingsBy_136, ↓pl_let, pl_b1, pl_b2, ↓reduceIte, k33, if_true, hlf, hf, Bool.false_eq_true, if_false, e1, Int32.add_zero, nI_add]
    · rw [pl_rp_n hl, ← pl_rdt_up (Nat.le_of_lt hl) (by omega) (by omega)]
      simp (disch := omega) only [fX11_readingsBy_46, fX11_readingsBy_145, ↓pl_let, pl_b1, pl_b2, ↓reduceIte, k33, if_true, h10, nI_leI, Nat.le_refl, r36, e256, e1, pk_mul, nI_add, pl_in, nI_clamp, k52, show 256 * l + s < 2304 by omega, and_self, pl_wI_sI]
  have eL : ∀ (K13 : Nat → Int32 → Int32 → Int32 → Int32 → ml_M → Option (Int32 × ml_M)) (K21 : Nat → Int32 → Int32 → Int32 → Int32 → Int32 → ml_M → Option (Int32 × ml_M)) (s : Nat), s < N → fX11_readingsBy_46 K13 K21 ml_fu 33 q1 q2 (nI N) (nI L) (nI s) 1 0 (pl_wI M 52 (pl_rdt nt L phi g0 L s)) = K21 33 q1 q2 (nI N) (nI L) (nI (s + 1)) (pl_wI M 52 (pl_rdt nt L phi g0 L (s + 1))) := fun K13 K21 s hs => by
    have hu := pl_rdt_up (nt := nt) (L := L) (phi := phi) (g0 := g0) (Nat.le_refl L) (show s < 2 ^ nt by omega) (by omega)
    rw [Nat.sub_self] at hu
    rw [← hu]
    show _ = K21 33 q1 q2 (nI N) (nI L) (nI (s + 1)) (pl_wI M 52 (fun x => if x = 256 * L + s then 1 else pl_rdt nt L phi g0 L s x))
    rw [pl_fu1]
    by_cases hz : nt ≤ 0
    · simp (disch := omega) only [fX11_readingsBy_46, fX11_readingsBy_145, ↓pl_let, pl_b1, pl_b2, ↓reduceIte, k33, if_true, h10, pl_le0, pl_leZ, eq_true (show nt = 0 by omega), nI_leI, r36, e256, pk_mul, nI_add, pl_in, nI_clamp, k52, show 256 * L + s < 2304 by omega, and_self, pl_wI_sI, Nat.le_refl]
      rw [e1, nI_add]
    · simp (disch := omega) only [fX11_readingsBy_46, fX11_readingsBy_145, ↓pl_let, pl_b1, pl_b2, ↓reduceIte, k33, if_true, h10, h34, pl_leZ, show ¬ nt = 0 by omega, if_false, nI_leI, r36, e256, pk_mul, nI_add, pl_in, nI_clamp, k52, show 256 * L + s < 2304 by omega, and_self, pl_wI_sI, Nat.le_refl]
      rw [e1, nI_add]
  -- all sets of a line
  have es : ∀ (K13 : Nat → Int32 → Int32 → Int32 → Int32 → ml_M → Option (Int32 × ml_M)) (l : Nat), l ≤ L → fX11_readingsBy_21 K13 ml_fu 33 q1 q2 (nI N) (nI l) 0 (pl_wI M 52 (pl_rdt nt L phi g0 l 0)) = K13 33 q1 q2 (nI N) (pl_sz l) (pl_wI M 52 (pl_rdt nt L phi g0 l N)) := fun K13 l hl => by
    refine pl_for (F := fun fu s (_ : Unit) => fX11_readingsBy_21 K13 fu 33 q1 q2 (nI N) (nI l) (nI s) (pl_wI M 52 (pl_rdt nt L phi g0 l s))) (R := K13 33 q1 q2 (nI N) (pl_sz l) (pl_wI M 52 (pl_rdt nt L phi g0 l N))) N (fun _ => ()) (fun fu s hs => ?_) (fun fu => ?_) ml_fu (by rw [pl_fu]; omega)
    · show fX11_readingsBy_21 K13 (fu + 1) 33 q1 q2 (nI N) (nI l) (nI s) (pl_wI M 52 (pl_rdt nt L phi g0 l s)) = fX11_readingsBy_21 K13 fu 33 q1 q2 (nI N) (nI l) (nI (s + 1)) (pl_wI M 52 (pl_rdt nt L phi g0 l (s + 1)))
      by_cases hlL : l = L
      · rw [hlL, ← eL K13 (fX11_readingsBy_21 K13 fu) s hs]
        simp (disch := omega) only [fX11_readingsBy_21, fX11_readingsBy_41, ↓pl_let, pl_b1, pl_b2, ↓reduceIte, nI_leI, show ¬ N ≤ s by omega, if_false, k33, if_true, h34]
      · rw [← ei K13 (fX11_readingsBy_21 K13 fu) l s (by omega) hs]
        simp (disch := omega) only [fX11_readingsBy_21, fX11_readingsBy_41, ↓pl_let, pl_b1, pl_b2, ↓reduceIte, nI_leI, show ¬ N ≤ s by omega, if_false, k33, if_true, h34, nI_eq, hlL]
    · have hm1 : nI l + (-1) = pl_sz l := by
        unfold pl_sz
        cases l with
        | zero => rfl
        | succ s => rw [pk_m1, if_neg (by omega), Nat.add_sub_cancel]
      simp (disch := omega) only [fX11_readingsBy_21, fX11_readingsBy_167, ↓pl_let, pl_b1, pl_b2, ↓reduceIte, nI_leI, Nat.le_refl, if_true, hm1]
  have ho := pl_for (F := fun fu j (_ : Unit) => fX11_readingsBy_13 fu 33 q1 q2 (nI N) (pl_sz (L + 1 - j)) (pl_wI M 52 (if j = L + 1 then pl_rdt nt L phi g0 0 N else pl_rdt nt L phi g0 (L - j) 0))) (R := some (nI (pl_rd nt L phi L 0), pl_wI M 52 (pl_rdt nt L phi g0 0 N))) (L + 1) (fun _ => ()) (fun fu j hj => ?_) (fun fu => ?_) ml_fu (by rw [pl_fu]; omega)
  · have e : pl_rg nt L phi 0 = pl_rd nt L phi L 0 := by
      unfold pl_rg; rw [pl_bc0, if_pos (Nat.zero_le _), Nat.sub_zero]
    rw [e, ← ho, if_neg (show ¬ 0 = L + 1 by omega), Nat.sub_zero, Nat.sub_zero, pl_sz1, pl_rdt_0, hg0, pl_wI_0]
    have b10 : ml_I M 33 10 = nI nt := by rw [hnt]; exact hM.1.2.1
    have b34 : ml_I M 33 34 = nI L := by rw [hL]; exact hM.1.2.2.2.2.1
    simp (disch := omega) only [fX11_readingsBy, ↓pl_let, pl_b1, pl_b2, ↓reduceIte, pl_k33 hS, if_true, b10, b34, pl_shl1, ← hN]
  · obtain ⟨l, hl⟩ : ∃ l, L - j = l := ⟨_, rfl⟩
    show fX11_readingsBy_13 (fu + 1) 33 q1 q2 (nI N) (pl_sz (L + 1 - j)) (pl_wI M 52 (if j = L + 1 then pl_rdt nt L phi g0 0 N else pl_rdt nt L phi g0 (L - j) 0)) = fX11_readingsBy_13 fu 33 q1 q2 (nI N) (pl_sz (L + 1 - (j + 1))) (pl_wI M 52 (if j + 1 = L + 1 then pl_rdt nt L phi g0 0 N else pl_rdt nt L phi g0 (L - (j + 1)) 0))
    rw [if_neg (show ¬ j = L + 1 by omega), hl, show L + 1 - j = l + 1 by omega, show L + 1 - (j + 1) = l by omega, pl_sz1]
    have hes := es (fX11_readingsBy_13 fu) l (by omega)
    have etab : (if j + 1 = L + 1 then pl_rdt nt L phi g0 0 N else pl_rdt nt L phi g0 (L - (j + 1)) 0) = pl_rdt nt L phi g0 l N := by
      by_cases h : j + 1 = L + 1
      · rw [if_pos h, show l = 0 by omega]
      · obtain ⟨k, hk⟩ : ∃ k, l = k + 1 := ⟨l - 1, by omega⟩
        rw [if_neg h, hk, hN, pl_rdt_dn, show L - (j + 1) = k by omega]
    rw [etab, ← hes]
    simp (disch := omega) only [fX11_readingsBy_13, pl_lt0, if_false]
  · rw [if_pos rfl, Nat.sub_self]
    have hneg : pl_sz 0 < 0 := by decide
    have hin0 : ml_in (pl_wI M 52 (pl_rdt nt L phi g0 0 N)) 52 20 0 := by
      rw [← nI_0, pl_in (by decide), k52]; exact ⟨rfl, by decide⟩
    have hc0 : (0 : Int32).toNatClampNeg = 0 := rfl
    have hv : pl_rdt nt L phi g0 0 N 0 = nI (pl_rd nt L phi L 0) := by
      unfold pl_rdt
      rw [if_pos (by omega)]
      rfl
    simp only [fX11_readingsBy_13, fX11_readingsBy_173, hneg, if_true, k33, r36, ↓pl_let]
    rw [if_pos hin0, hIg, hc0, hv]

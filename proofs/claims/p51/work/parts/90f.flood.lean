/-! THE LAW: what the water reached. -/
theorem pm_lo {A : pl_A} {i : Nat} (h1 : pl_N A 4 i 3 ≠ 100) (h2 : pl_N A 4 i 4 = 1) : ∀ N, i < N → pl_N A 2 (pl_N A 4 i 3) 1 < pl_lo A N := by
  intro N
  induction N with
  | zero => intro h; exact absurd h (Nat.not_lt_zero i)
  | succ N ih =>
    intro h
    rw [pl_lo1]
    by_cases e : i = N
    · rw [← e]
      by_cases c : pl_lo A i < pl_N A 2 (pl_N A 4 i 3) 1 + 1
      · rw [if_pos ⟨h1, h2, c⟩]; omega
      · rw [if_neg (fun z => c z.2.2)]; omega
    · have := ih (by omega)
      split <;> omega
theorem pm_hi {A : pl_A} {i : Nat} (h1 : pl_N A 4 i 3 ≠ 100) (h2 : pl_N A 4 i 4 ≠ 1) : ∀ N, i < N → pl_hi A N ≤ pl_N A 2 (pl_N A 4 i 3) 1 := by
  intro N
  induction N with
  | zero => intro h; exact absurd h (Nat.not_lt_zero i)
  | succ N ih =>
    intro h
    rw [pl_hi1]
    by_cases e : i = N
    · rw [← e]
      by_cases c : pl_N A 2 (pl_N A 4 i 3) 1 < pl_hi A i
      · rw [if_pos ⟨h1, h2, c⟩]; omega
      · rw [if_neg (fun z => c z.2.2)]; omega
    · have := ih (by omega)
      split <;> omega
theorem pm_v3 (A : pl_A) (v : Int32) : pl_V (pl_tA A v) 3 0 0 = v := by unfold pl_tA; rw [pl_V_sV, if_pos ⟨rfl, rfl, rfl⟩]
/-- one thing -/
theorem pm_1039 {L : Nat} {xs : Nat → Int32} {A Z B : pl_A} {r : ml_M} (h : ph_2 1 33 Z B r) (hE : pm_e A Z) {n i : Nat} (hn : pl_N A 0 3 0 = n) (h7 : n ≤ 7) (hi : i < n) (fu : Nat) :
    ∃ Z1 r1, fL_law_1039 L xs (fu + 1) 1 33 (nI n) (nI (pl_lo A n)) (nI (pl_hi A n)) (nI i) r = fL_law_1039 L xs fu 1 33 (nI n) (nI (pl_lo A n)) (nI (pl_hi A n)) (nI (i + 1)) r1 ∧ ph_2 1 33 Z1 B r1 ∧ pm_e A Z1 ∧ ph_c 3 r r1 := by
  have hZ3 : pl_N Z 0 3 0 = n := by rw [hE.2 3 (by decide)]; exact hn
  have e4 := hE.1 4 (by decide) (by decide)
  obtain ⟨w1, w2, w3, w4, w5, w6, w7⟩ := h.w.2.2.2.2.1 i (by rw [hZ3]; exact hi)
  have hwc := h.w.1
  unfold pl_Wc at hwc
  have hwl := pl_lohi h.w n (by rw [hZ3]; exact Nat.le_refl _)
  have hlo : pl_lo Z n = pl_lo A n ∧ pl_hi Z n = pl_hi A n := by
    have : ∀ N, pl_lo Z N = pl_lo A N ∧ pl_hi Z N = pl_hi A N := fun N => by
      induction N with
      | zero => exact ⟨rfl, rfl⟩
      | succ N ih => rw [pl_lo1, pl_lo1, pl_hi1, pl_hi1, ih.1, ih.2, e4, hE.1 2 (by decide) (by decide)]; exact ⟨rfl, rfl⟩
    exact this n
  rw [hlo.1, hlo.2] at hwl
  obtain ⟨r1, x1, h1, c1⟩ := xo_told (pd_told Z (i := i) (k := 3) (by rw [hZ3]; exact hi) (by decide)) h (by decide)
  have g3 : pl_gf Z i 3 = pl_tc (pl_N A 4 i 3) := by unfold pl_gf; rw [if_pos rfl, e4]
  rw [g3] at h1
  have E1 := hE.trans (pm_e_t Z (pl_tc (pl_N A 4 i 3)))
  have v1 := pm_v3 Z (pl_tc (pl_N A 4 i 3))
  obtain ⟨Z1, hZ1⟩ : ∃ z, z = pl_tA Z (pl_tc (pl_N A 4 i 3)) := ⟨_, rfl⟩
  rw [← hZ1] at h1 E1 v1
  have a1 := xp_asked (pd_asked Z1) h1 (by decide)
  rw [v1] at a1
  obtain ⟨r2, x2, h2, c2⟩ := xo_told (pd_told Z1 (i := i) (k := 4) (by rw [E1.2 3 (by decide), hn]; exact hi) (by decide)) h1 (by decide)
  have g4 : pl_gf Z1 i 4 = nI (pl_N A 4 i 4) := by unfold pl_gf; rw [if_neg (by decide), E1.1 4 (by decide) (by decide)]
  rw [g4] at h2
  have E2 := E1.trans (pm_e_t Z1 (nI (pl_N A 4 i 4)))
  have v2 := pm_v3 Z1 (nI (pl_N A 4 i 4))
  obtain ⟨Z2, hZ2⟩ : ∃ z, z = pl_tA Z1 (nI (pl_N A 4 i 4)) := ⟨_, rfl⟩
  rw [← hZ2] at h2 E2 v2
  have a2 := xp_asked (pd_asked Z2) h2 (by decide)
  rw [v2] at a2
  rw [e4] at w4 w5
  rw [hE.2 1 (by decide)] at w4
  by_cases c : pl_N A 4 i 3 = 100
  · refine ⟨Z2, r2, ?_, h2, E2, (c1.trans c2).le (by decide)⟩
    have hc : pl_tc (pl_N A 4 i 3) = -9 := by unfold pl_tc; rw [if_pos c]
    rw [hc] at a1
    rw [fL_law_1039, if_neg (by rw [nI_leI (by omega) (by omega)]; omega), if_pos (h.k (by decide)), pl_l3, x1, pl_b2, if_pos rfl, if_pos (h1.k (by decide)), a1, pl_b1]
    unfold fL_law_1066
    rw [if_pos (h1.k (by decide)), pl_l4, x2, pl_b2, if_pos rfl, if_pos (h2.k (by decide)), a2, pl_b1]
    unfold fL_law_1088 fL_law_1106 fL_law_1115 fL_law_1147
    rw [if_pos pm_m9, if_pos pm_m9, nI_1]
  · have hc : pl_tc (pl_N A 4 i 3) = nI (pl_N A 4 i 3) := by unfold pl_tc; rw [if_neg c]
    rw [hc] at a1
    have ht : pl_N A 4 i 3 < pl_N A 0 1 0 := by omega
    have ht8 : pl_N A 0 1 0 ≤ 8 := by rw [← hE.2 1 (by decide)]; exact hwc.2.1
    have hmk := (h.w.2.2.1 (pl_N A 4 i 3) (by rw [hE.2 1 (by decide)]; exact ht)).2
    rw [hE.1 2 (by decide) (by decide)] at hmk
    obtain ⟨r3, x3, h3, c3⟩ := xo_trunk (pd_trunk Z2 (i := pl_N A 4 i 3) (k := 1) (by rw [E2.2 1 (by decide)]; exact ht) (by decide)) h2 (by decide)
    have g5 : pl_tf Z2 (pl_N A 4 i 3) 1 = pl_N A 2 (pl_N A 4 i 3) 1 := by unfold pl_tf; rw [if_neg (by decide), if_pos rfl, E2.1 2 (by decide) (by decide)]
    rw [g5] at h3
    have E3 := E2.trans (pm_e_t Z2 (nI (pl_N A 2 (pl_N A 4 i 3) 1)))
    have v3 := pm_v3 Z2 (nI (pl_N A 2 (pl_N A 4 i 3) 1))
    obtain ⟨Z3, hZ3'⟩ : ∃ z, z = pl_tA Z2 (nI (pl_N A 2 (pl_N A 4 i 3) 1)) := ⟨_, rfl⟩
    rw [← hZ3'] at h3 E3 v3
    have a3 := xp_asked (pd_asked Z3) h3 (by decide)
    rw [v3] at a3
    refine ⟨Z3, r3, ?_, h3, E3, ((c1.trans c2).trans c3).le (by decide)⟩
    rw [fL_law_1039, if_neg (by rw [nI_leI (by omega) (by omega)]; omega), if_pos (h.k (by decide)), pl_l3, x1, pl_b2, if_pos rfl, if_pos (h1.k (by decide)), a1, pl_b1]
    unfold fL_law_1066
    rw [if_pos (h1.k (by decide)), pl_l4, x2, pl_b2, if_pos rfl, if_pos (h2.k (by decide)), a2, pl_b1]
    unfold fL_law_1088
    rw [if_neg (nI_pos (by omega)), if_pos (h2.k (by decide)), pl_l1, x3, pl_b2, if_pos (show (1 : Int32) = nI 1 from rfl), if_pos (h3.k (by decide)), a3, pl_b1]
    unfold fL_law_1115 fL_law_1147
    rw [if_neg (nI_pos (by omega))]
    by_cases d : pl_N A 4 i 4 = 1
    · rw [d, if_pos (show nI 1 = (1 : Int32) from rfl), if_pos (nI_lt (pm_lo c d n hi) (by omega)), nI_1]
    · rw [pl_l1, if_neg (fun z => d ((nI_eq (by omega) (by omega)).mp z)), if_pos (nI_le (pm_hi c d n hi) (by omega)), ← pl_l1, nI_1]
theorem pm_1019 {L : Nat} {xs : Nat → Int32} {A B : pl_A} {r : ml_M} (h : ph_2 1 33 A B r) {n : Nat} (hn : pl_N A 0 3 0 = n) (h7 : n ≤ 7) :
    ∃ Z1 r1, fL_law_1019 L xs 1 33 (nI n) r = fL_law_1153 L xs 1 33 (nI n) r1 ∧ ph_2 1 33 Z1 B r1 ∧ pm_e A Z1 ∧ ph_c (1 + 3 * n) r r1 := by
  obtain ⟨Z, r1, e1, h1, E1, ht, c1⟩ := ps_water h (by decide)
  rw [hn] at ht
  unfold pm_wv at e1
  rw [hn] at e1
  by_cases c : pl_lo A n ≤ pl_hi A n
  · rw [if_pos c] at e1
    have hlh := pl_lohi h.w n (by rw [hn]; exact Nat.le_refl _)
    have v1 : pl_V Z 3 0 0 = nI (pl_hi A n) := by rw [ht c]; exact pm_v3 _ _
    have a1 := xp_asked (pd_asked Z) h1 (by decide)
    rw [v1] at a1
    have hlp := pw_for (F := fun fu i (s : ml_M) => fL_law_1039 L xs fu 1 33 (nI n) (nI (pl_lo A n)) (nI (pl_hi A n)) (nI i) s) (Inv := fun i s => ∃ Z, ph_2 1 33 Z B s ∧ pm_e A Z ∧ ph_c (3 * i) r1 s) (Post := fun R => ∃ Z r2, R = fL_law_1153 L xs 1 33 (nI n) r2 ∧ ph_2 1 33 Z B r2 ∧ pm_e A Z ∧ ph_c (3 * n) r1 r2) n (fun fu i s hi hv => ?_) (fun fu s hv => ?_) ml_fu (by rw [pl_fu]; omega) r1 ⟨Z, h1, E1, ph_c.refl _⟩
    · obtain ⟨Z2, r2, f1, f2, f3, f4⟩ := hlp
      refine ⟨Z2, r2, ?_, f2, f3, c1.trans f4⟩
      unfold fL_law_1019
      have f1' : fL_law_1039 L xs ml_fu 1 33 (nI n) (nI (pl_lo A n)) (nI (pl_hi A n)) 0 r1 = fL_law_1153 L xs 1 33 (nI n) r2 := f1
      rw [if_pos (h.k (by decide)), e1, pl_b2, if_neg (nI_pos (by omega)), if_pos (h1.k (by decide)), a1, pl_b1, f1']
    · obtain ⟨Z', v1, v2, v3⟩ := hv
      obtain ⟨Z2, r2, f1, f2, f3, f4⟩ := pm_1039 (L := L) (xs := xs) v1 v2 hn h7 hi fu
      exact ⟨r2, f1, Z2, f2, f3, (v3.trans f4).le (by omega)⟩
    · obtain ⟨Z', v1, v2, v3⟩ := hv
      refine ⟨Z', s, ?_, v1, v2, v3⟩
      show fL_law_1039 L xs (fu + 1) 1 33 (nI n) (nI (pl_lo A n)) (nI (pl_hi A n)) (nI n) s = _
      rw [fL_law_1039, if_pos (nI_le (Nat.le_refl _) (by omega))]
  · rw [if_neg c] at e1
    refine ⟨Z, r1, ?_, h1, E1, c1.le (by omega)⟩
    unfold fL_law_1019
    rw [if_pos (h.k (by decide)), e1, pl_b2, if_pos pm_m9]

/-! THE LAW: the fewest who could have owned all. -/
theorem pm_pc0 {S : Nat} (hS : S < 256) : pl_pc S = 0 ↔ S = 0 := by
  have h0 : ∀ n : Fin 256, pl_pc n.val = 0 ↔ n.val = 0 := by decide +kernel
  exact h0 ⟨S, hS⟩
theorem pm_pr0 {A : pl_A} (hW : pl_W A) : ∀ i, pl_pr A i = 0 ↔ ∃ j, j < i ∧ pl_own A j = 0 := by
  intro i
  induction i with
  | zero => exact ⟨fun h => absurd (show 1 = 0 from h) (by decide), fun ⟨j, h, _⟩ => absurd h (Nat.not_lt_zero j)⟩
  | succ i ih =>
    have e : pl_pr A (i + 1) = pl_pr A i * pl_pc (pl_own A i) := rfl
    rw [e, Nat.mul_eq_zero, ih, pm_pc0 (pl_own_lt hW i)]
    constructor
    · rintro (⟨j, h1, h2⟩ | h)
      · exact ⟨j, by omega, h2⟩
      · exact ⟨i, by omega, h⟩
    · rintro ⟨j, h1, h2⟩
      by_cases c : j = i
      · rw [c] at h2; exact Or.inr h2
      · exact Or.inl ⟨j, by omega, h2⟩
theorem pm_cov_t {A : pl_A} {S : Nat} : pl_cov A S = true ↔ ∀ i, i < pl_N A 0 3 0 → pl_own A i &&& S ≠ 0 := by
  unfold pl_cov
  rw [pm_all_t]
  exact ⟨fun h i hi => of_decide_eq_true (h i hi), fun h i hi => decide_eq_true (h i hi)⟩
theorem pm_fb0 {A : pl_A} (hW : pl_W A) : pl_fb A (2 ^ pl_N A 0 0 0) = 999 ↔ pl_pr A (pl_N A 0 3 0) = 0 := by
  have hnl := hW.1.1
  have p256 : 2 ^ pl_N A 0 0 0 ≤ 256 := Nat.le_trans (Nat.pow_le_pow_right (by decide) hnl) (by decide)
  have hpos : 0 < 2 ^ pl_N A 0 0 0 := Nat.pow_pos (by decide)
  rw [pm_pr0 hW]
  rcases pl_fb_ok A (2 ^ pl_N A 0 0 0) p256 with ⟨a1, a2⟩ | ⟨a1, a2, a3⟩
  · refine ⟨fun _ => ?_, fun _ => a1⟩
    refine Classical.byContradiction fun hno => ?_
    have := a2 (2 ^ pl_N A 0 0 0 - 1) (by omega)
    have hc : pl_cov A (2 ^ pl_N A 0 0 0 - 1) = true := by
      rw [pm_cov_t]
      intro i hi hz
      have hlt : pl_own A i < 2 ^ pl_N A 0 0 0 := by unfold pl_own; exact pl_set_lt _ _
      rw [Nat.and_two_pow_sub_one_eq_mod, Nat.mod_eq_of_lt hlt] at hz
      exact hno ⟨i, hi, hz⟩
    rw [hc] at this; cases this
  · refine ⟨fun z => by omega, ?_⟩
    rintro ⟨j, h1, h2⟩
    have := (pm_cov_t.mp a2) j h1
    rw [h2, Nat.zero_and] at this
    exact absurd rfl this
theorem pm_own_e {A A' : pl_A} (h : pm_e A A') : pl_own A' = pl_own A := pl_own_eq (h.1 1 (by decide) (by decide)) (h.1 4 (by decide) (by decide)) (h.2 0 (by decide))
/-- the loop over all things: whether each may be of the set -/
theorem pm_24 {A B : pl_A} {r : ml_M} (h : ph_2 1 33 A B r) {n : Nat} (hn : pl_N A 0 3 0 = n) (h7 : n ≤ 7) (l2 : Int32) {S : Nat} (hS : S = 0 ∨ pl_cov A S = true) (hS2 : S < 256) :
    ∃ v, (S ≠ 0 ∨ n = 0 → v = 1) ∧ fL_fewest_17 1 (nI n) l2 (nI S) r = fL_fewest_57 1 l2 (nI S) v r := by
  have hlp := pw_for (F := fun fu i (v : Int32) => fL_fewest_24 fu 1 (nI n) l2 (nI S) v (nI i) r) (Inv := fun i v => S ≠ 0 ∨ i = 0 → v = 1) (Post := fun R => ∃ v, (S ≠ 0 ∨ n = 0 → v = 1) ∧ R = fL_fewest_57 1 l2 (nI S) v r) n (fun fu i v hi hv => ?_) (fun fu v hv => ?_) ml_fu (by rw [pl_fu]; omega) 1 (fun _ => rfl)
  · exact hlp
  · have e := xp_may (pd_may A (i := i) (by omega)) h (by decide)
    have hlt := pl_own_lt h.w i
    have hlt2 : pl_own A i &&& S < 256 := Nat.lt_of_le_of_lt Nat.and_le_left hlt
    by_cases c : pl_own A i &&& S = 0
    · refine ⟨v &&& 0, ?_, ?_⟩
      · show fL_fewest_24 (fu + 1) 1 (nI n) l2 (nI S) v (nI i) r = fL_fewest_24 fu 1 (nI n) l2 (nI S) (v &&& 0) (nI (i + 1)) r
        rw [fL_fewest_24, if_neg (by rw [nI_leI (by omega) (by omega)]; omega), if_pos (h.k (by decide)), e, pl_b1, pl_and, c, if_pos nI_0]
        unfold fL_fewest_48
        rw [pl_let, nI_1]
      · intro z
        rcases hS with z0 | z0
        · rcases z with z | z
          · exact absurd z0 z
          · omega
        · exact absurd c (pm_cov_t.mp z0 i (by omega))
    · refine ⟨v &&& 1, ?_, ?_⟩
      · show fL_fewest_24 (fu + 1) 1 (nI n) l2 (nI S) v (nI i) r = fL_fewest_24 fu 1 (nI n) l2 (nI S) (v &&& 1) (nI (i + 1)) r
        rw [fL_fewest_24, if_neg (by rw [nI_leI (by omega) (by omega)]; omega), if_pos (h.k (by decide)), e, pl_b1, pl_and, if_neg (nI_ne0 (by omega) (by omega))]
        unfold fL_fewest_48
        rw [pl_let, nI_1]
      · intro _
        have hs : S ≠ 0 := fun z => c (by rw [z, Nat.and_zero])
        rw [hv (Or.inl hs)]; decide
  · refine ⟨v, hv, ?_⟩
    show fL_fewest_24 (fu + 1) 1 (nI n) l2 (nI S) v (nI n) r = _
    rw [fL_fewest_24, if_pos (nI_le (Nat.le_refl _) (by omega))]
theorem pm_fewest {A B : pl_A} {r : ml_M} (h : ph_2 1 33 A B r) {n : Nat} (hn : pl_N A 0 3 0 = n) (h7 : n ≤ 7) :
    ∃ Z r1, fL_fewest 1 (nI n) r = some (1, r1) ∧ ph_2 1 33 Z B r1 ∧ ph_c 2 r r1 := by
  obtain ⟨Z, r1, e1, h1, E1, ht, c1⟩ := ps_fewest h (by decide)
  have hWA := h.w
  have hnl := hWA.1.1
  have p256 : 2 ^ pl_N A 0 0 0 ≤ 256 := Nat.le_trans (Nat.pow_le_pow_right (by decide) hnl) (by decide)
  obtain ⟨r2, e2, h2, c2⟩ := ps_fits h1 (by decide)
  have hprE : pl_pr Z (pl_N Z 0 3 0) = pl_pr A (pl_N A 0 3 0) := by
    rw [E1.2 3 (by decide)]
    have : ∀ N, pl_pr Z N = pl_pr A N := fun N => by
      induction N with
      | zero => rfl
      | succ N ih =>
        show pl_pr Z N * pl_pc (pl_own Z N) = pl_pr A N * pl_pc (pl_own A N)
        rw [ih, pm_own_e E1]
    exact this _
  rw [hprE] at e2
  have hfb := pm_fb0 hWA
  have hn1 : pl_N Z 0 3 0 = n := by rw [E1.2 3 (by decide)]; exact hn
  unfold pm_fv at e1
  by_cases c : pl_fb A (2 ^ pl_N A 0 0 0) = 999
  · rw [if_pos c] at e1
    rw [if_pos (hfb.mp c)] at e2
    refine ⟨_, r2, ?_, h2, c1.trans c2⟩
    obtain ⟨v, -, e3⟩ := pm_24 h1 hn1 h7 (-3) (S := 0) (Or.inl rfl) (by decide)
    rw [nI_0] at e3
    unfold fL_fewest
    rw [if_pos (h.k (by decide)), e1, pl_b2, if_pos (by decide), e3]
    unfold fL_fewest_57
    rw [if_neg (by decide), if_pos (h1.k (by decide)), e2, pl_b2, if_pos rfl]
  · rw [if_neg c] at e1
    rw [if_neg (fun z => c (hfb.mpr z))] at e2
    refine ⟨_, r2, ?_, h2, c1.trans c2⟩
    rcases pl_fb_ok A (2 ^ pl_N A 0 0 0) p256 with ⟨a1, a2⟩ | ⟨a1, a2, a3⟩
    · exact absurd a1 c
    · have v1 : pl_V Z 3 0 0 = nI (pl_fb A (2 ^ pl_N A 0 0 0)) := by rw [ht c]; exact pm_v3 _ _
      have a4 := xp_asked (pd_asked Z) h1 (by decide)
      rw [v1] at a4
      have hcov : pl_cov Z (pl_fb A (2 ^ pl_N A 0 0 0)) = true := by
        rw [pm_cov_t, pm_own_e E1, E1.2 3 (by decide)]
        exact pm_cov_t.mp a2
      obtain ⟨v, v2, e3⟩ := pm_24 h1 hn1 h7 (nI (pl_pc (pl_fb A (2 ^ pl_N A 0 0 0)))) (S := pl_fb A (2 ^ pl_N A 0 0 0)) (Or.inr hcov) (by omega)
      have hv : v = 1 := by
        refine v2 ?_
        by_cases z : pl_fb A (2 ^ pl_N A 0 0 0) = 0
        · right
          refine Classical.byContradiction fun hz => ?_
          have := pm_cov_t.mp a2 0 (by omega)
          rw [z, Nat.and_zero] at this
          exact this rfl
        · exact Or.inl z
      have hpc := pl_pc_le (pl_fb A (2 ^ pl_N A 0 0 0))
      unfold fL_fewest
      rw [if_pos (h.k (by decide)), e1, pl_b2, if_neg (nI_pos (by omega)), if_pos (h1.k (by decide)), a4, pl_b1, e3, hv]
      unfold fL_fewest_57
      rw [if_pos (nI_pos' (by omega)), pw_bits (by omega), pl_b1, if_pos rfl, if_neg (by decide), if_pos (h1.k (by decide)), e2, pl_b2, if_pos rfl]

/-! THE LAW: sharings by how many things move. -/
theorem pw_bits {S : Nat} (hS : S < 256) (m : ml_M) : fL_bits (nI S) m = some (nI (pl_pc S)) := by
  have hh := pl_for (F := fun fu j (c : Nat) => fL_bits_4 fu (nI S) (nI c) (nI j) m) (R := some (nI (pl_pc S))) 20 (fun j => pl_cnt (fun i => S.testBit i) j) (fun fu j hj => ?_) (fun fu => ?_) ml_fu (by rw [pl_fu]; omega)
  · exact hh
  · show fL_bits_4 (fu + 1) (nI S) (nI (pl_cnt (fun i => S.testBit i) j)) (nI j) m = fL_bits_4 fu (nI S) (nI (pl_cnt (fun i => S.testBit i) (j + 1))) (nI (j + 1)) m
    rw [fL_bits_4, pl_l20, if_neg (by rw [nI_leI (by omega) (by omega)]; omega), pl_let, pw_bit1 (by omega) (by omega), nI_add, nI_1, pl_cnt1]
    congr 2
    split <;> rfl
  · show fL_bits_4 (fu + 1) (nI S) (nI (pl_cnt (fun i => S.testBit i) 20)) (nI 20) m = _
    rw [fL_bits_4, pl_l20, if_pos (nI_le (Nat.le_refl _) (by omega))]
    have := pl_cnt_add (fun i => S.testBit i) 8 12 (fun i hi => Nat.testBit_lt_two_pow (Nat.lt_of_lt_of_le hS (Nat.pow_le_pow_right (n := 2) (by decide) hi)))
    rw [show 20 = 8 + 12 from rfl, this]; rfl
theorem pm_m9 : (-9 : Int32) < 0 := by decide
/-- whose each trunk may be -/
theorem pm_795 {L : Nat} {xs : Nat → Int32} {A B : pl_A} {r : ml_M} (h : ph_2 1 33 A B r) {nt w : Nat} (hnt : pl_N A 0 1 0 = nt) (h8 : nt ≤ 8) (hw : w ≤ 20) (K : Nat → Nat → Int32 → Int32 → Int32 → Int32 → Int32 → ml_M → Option (Int32 × ml_M)) (l11 l12 l15 l17 : Int32) :
    ∃ r1, fL_law_795 L xs K 1 33 (nI nt) l11 l12 (nI w) l15 l17 r = fL_law_827 L xs K 1 33 (nI nt) l11 l12 (nI w) l15 l17 (nI (pm_eo A w)) r1 ∧ ph_2 1 33 A B r1 ∧ ph_c nt r r1 := by
  have := pw_for (F := fun fu t (s : Nat × ml_M) => fL_law_801 L xs K fu 1 33 (nI nt) l11 l12 (nI w) l15 l17 (nI s.1) (nI t) s.2) (Inv := fun t s => s.1 = pl_ors (fun t => pl_set (fun l => decide (0 < pl_cw A w t l)) (pl_N A 0 0 0)) t ∧ ph_2 1 33 A B s.2 ∧ ph_c t r s.2) (Post := fun R => ∃ r1, R = fL_law_827 L xs K 1 33 (nI nt) l11 l12 (nI w) l15 l17 (nI (pm_eo A w)) r1 ∧ ph_2 1 33 A B r1 ∧ ph_c nt r r1) nt (fun fu t s ht hv => ?_) (fun fu s hv => ?_) ml_fu (by rw [pl_fu]; omega) (0, r) ⟨rfl, h, ph_c.refl _⟩
  · exact this
  · obtain ⟨v1, v2, v3⟩ := hv
    obtain ⟨r1, e1, e2, e3⟩ := xo_whose (pd_whose A (t := t) (n := w) (by omega) hw) v2 (by decide)
    refine ⟨(pl_ors (fun t => pl_set (fun l => decide (0 < pl_cw A w t l)) (pl_N A 0 0 0)) (t + 1), r1), ?_, rfl, e2, v3.trans e3⟩
    show fL_law_801 L xs K (fu + 1) 1 33 (nI nt) l11 l12 (nI w) l15 l17 (nI s.1) (nI t) s.2 = fL_law_801 L xs K fu 1 33 (nI nt) l11 l12 (nI w) l15 l17 (nI (pl_ors (fun t => pl_set (fun l => decide (0 < pl_cw A w t l)) (pl_N A 0 0 0)) (t + 1))) (nI (t + 1)) r1
    rw [fL_law_801, if_neg (by rw [nI_leI (by omega) (by omega)]; omega), if_pos (v2.k (by decide)), e1, pl_b2, pl_let, pl_or, nI_1, pl_ors1, v1]
  · obtain ⟨v1, v2, v3⟩ := hv
    refine ⟨s.2, ?_, v2, v3⟩
    show fL_law_801 L xs K (fu + 1) 1 33 (nI nt) l11 l12 (nI w) l15 l17 (nI s.1) (nI nt) s.2 = _
    rw [fL_law_801, if_pos (nI_le (Nat.le_refl _) (by omega)), v1, ← hnt, pm_whose]
/-- one turn: at most so many things move -/
theorem pm_turn {L : Nat} {xs : Nat → Int32} {A B : pl_A} {r : ml_M} (h : ph_2 1 33 A B r) {nl nt np n : Nat} (hR : pm_R A B nl nt np n) (hnt : 2 ≤ nt ∧ nt ≤ 4) (hn : n ≤ 7) {w : Nat} (hw : w ≤ n) {pv : Nat} (hpv : pv ≤ (pl_of A w).length) (fu : Nat) :
    ∃ A1 r1, fL_law_636 L xs (fu + 1) 1 33 (nI nt) (nI n) (pl_bv (pl_best A)) (nI pv) (nI w) r = fL_law_636 L xs fu 1 33 (nI nt) (nI n) (pl_bv (pl_best A)) (nI (pl_of A w).length) (nI (w + 1)) r1 ∧ ph_2 1 33 A1 B r1 ∧ pm_e A A1 ∧ ph_c 8 r r1 := by
  have hW := h.w
  have hlen := pl_of_len hW w
  have hnl : nl ≤ 8 := by have := hW.1; unfold pl_Wc at this; rw [hR.1.1.1] at this; exact this.1
  have p256 : 2 ^ nl ≤ 256 := Nat.le_trans (Nat.pow_le_pow_right (by decide) hnl) (by decide)
  have hntA : pl_N A 0 1 0 = nt := hR.1.2.1.1
  obtain ⟨r1, e1, h1, c1⟩ := xo_ways (pd_ways A (n := w) (by omega)) h (by decide)
  have hwB := pd_ways B (n := w) (by omega)
  rw [pm_ways hR hW] at hwB
  by_cases h0 : (pl_of A w).length = 0
  · obtain ⟨r2, e2, h2, c2⟩ := xo_sure (pd_sure0 A (n := w) (by omega) h0) h1 (by decide)
    have a1 := xp_asked (pd_asked A) h2 (by decide)
    obtain ⟨r3, e3, h3, c3⟩ := xo_next (pd_next0 A (n := w) (by omega) (Or.inl h0)) h2 (by decide)
    have a2 := xp_asked (pd_asked A) h3 (by decide)
    obtain ⟨r4, e4, h4, c4⟩ := xo_ways hwB h3.swap (by decide)
    have h4 := h4.swap
    obtain ⟨r5, e5, h5, c5⟩ := pm_795 (L := L) (xs := xs) h4 hntA (by omega) (show w ≤ 20 by omega) (fL_law_636 L xs fu) (nI n) (pl_bv (pl_best A)) (nI 0) (pl_V A 3 0 0)
    have heo : pm_eo A w = 0 := by
      rw [← pm_whose]
      have : ∀ m, pl_ors (fun t => pl_set (fun l => decide (0 < pl_cw A w t l)) (pl_N A 0 0 0)) m = 0 := fun m => by
        induction m with
        | zero => rfl
        | succ m ih => rw [pl_ors1, ih, pm_whose0 h0]; rfl
      exact this _
    refine ⟨A, r5, ?_, h5, pm_e.refl _, (((((c1.trans c2).trans c3).trans c4).trans c5).le (by omega))⟩
    have hbest : pl_bv (pl_best A) < 0 ∨ (¬ pl_bv (pl_best A) < 0 ∧ nI w < pl_bv (pl_best A)) := by
      rcases pm_best A with ⟨z1, z2⟩ | ⟨q, z1, z2, z3, z4⟩
      · rw [z1]; exact Or.inl pm_m9
      · have hq := pl_moved_le hW q.2
        have hqw : w < q.1 := by
          rcases Nat.lt_or_ge w q.1 with z | z
          · exact z
          · have := (pm_wpos A w).mpr ⟨q, z1, z⟩
            omega
        rw [z1]
        exact Or.inr ⟨nI_pos (by omega), nI_lt hqw (by omega)⟩
    rw [fL_law_636, if_neg (nI_nlt hw (by omega)), if_pos (h.k (by decide)), e1, pl_b2, if_pos (h1.k (by decide)), e2, pl_b2, if_pos (h2.k (by decide)), a1, pl_b1, e3, pl_b2, if_pos (h3.k (by decide)), a2, pl_b1, if_pos (h3.swap.k (by decide)), e4, pl_b2, if_pos rfl, if_neg (nI_nlt hpv (by omega)), h0, if_pos (by decide)]
    have e707 : ∀ l18 l19, fL_law_707 L xs (fL_law_636 L xs fu) 1 33 (nI nt) (nI n) (pl_bv (pl_best A)) (nI w) (nI 0) (-9) (pl_V A 3 0 0) l18 l19 0 r4 = fL_law_795 L xs (fL_law_636 L xs fu) 1 33 (nI nt) (nI n) (pl_bv (pl_best A)) (nI w) (nI 0) (pl_V A 3 0 0) r4 := fun l18 l19 => by
      have t : fL_law_723 L xs (fL_law_636 L xs fu) 1 33 (nI nt) (nI n) (pl_bv (pl_best A)) (nI w) (nI 0) (-9) (pl_V A 3 0 0) l18 l19 0 r4 = fL_law_795 L xs (fL_law_636 L xs fu) 1 33 (nI nt) (nI n) (pl_bv (pl_best A)) (nI w) (nI 0) (pl_V A 3 0 0) r4 := by
        unfold fL_law_723 fL_law_724 fL_law_737 fL_law_747
        rw [if_pos rfl, if_pos pm_m9, if_pos (by decide), if_pos rfl, if_pos pm_m9]
      unfold fL_law_707
      rcases hbest with z | ⟨z1, z2⟩
      · rw [if_pos z]; exact t
      · rw [if_neg z1, if_pos z2]; exact t
    rw [e707, e5, heo]
    unfold fL_law_827 fL_law_839 fL_law_851
    rw [if_pos (by decide), if_pos nI_0, if_pos nI_0, nI_1]
  · have hp : 0 < (pl_of A w).length := by omega
    obtain ⟨r2, e2, h2, c2⟩ := xo_sure (pd_sure A (n := w) (by omega) h0) h1 (by decide)
    obtain ⟨A2, hA2⟩ : ∃ A2, A2 = pl_tA A (nI (pm_eo A w)) := ⟨_, rfl⟩
    have z1 : pl_set (fun l => decide (pl_sw A w l = (pl_of A w).length)) (pl_N A 0 0 0) = pm_ea A w := rfl
    have z2 : pl_set (fun l => decide (0 < pl_sw A w l)) (pl_N A 0 0 0) = pm_eo A w := rfl
    rw [z2, ← hA2] at h2
    rw [z1] at e2
    have E2 : pm_e A A2 := by rw [hA2]; exact pm_e_t _ _
    obtain ⟨-, -, s3, s4⟩ := E2.S
    have a1 := xp_asked (pd_asked A2) h2 (by decide)
    have va : pl_V A2 3 0 0 = nI (pm_eo A w) := by
      rw [hA2]; unfold pl_tA; rw [pl_V_sV, if_pos ⟨rfl, rfl, rfl⟩]
    rw [va] at a1
    have ht0 : ¬ pl_N A2 0 1 0 = 0 := by rw [E2.2 1 (by decide)]; omega
    obtain ⟨bj, hbj, hDn⟩ := pd_next A2 (n := w) h2.w (by omega) (by rw [s4]; exact h0) ht0
    obtain ⟨r3, e3, h3, c3⟩ := xo_next hDn h2 (by decide)
    have hnb := pm_nb (A := A2) (k := w) (by rw [s4]; exact hp) (nt - 1) (by rw [E2.2 1 (by decide)]; omega)
    rw [show nt - 1 + 1 = nt by omega, s4] at hnb
    have hnt2 : pl_N A2 0 1 0 = nt := by rw [E2.2 1 (by decide)]; exact hntA
    rw [hnt2] at h3
    obtain ⟨by', hby⟩ : ∃ q, q = (pl_nb A2 w nt).2 := ⟨_, rfl⟩
    rw [← hby] at hnb h3
    obtain ⟨A3, hA3⟩ : ∃ A3, A3 = pl_tA A2 (nI by') := ⟨_, rfl⟩
    rw [← hA3] at h3
    have E3 : pm_e A A3 := by rw [hA3]; exact E2.trans (pm_e_t _ _)
    have a2 := xp_asked (pd_asked A3) h3 (by decide)
    have va3 : pl_V A3 3 0 0 = nI by' := by
      rw [hA3]; unfold pl_tA; rw [pl_V_sV, if_pos ⟨rfl, rfl, rfl⟩]
    rw [va3] at a2
    obtain ⟨r4, e4, h4, c4⟩ := xo_ways hwB h3.swap (by decide)
    have h4 := h4.swap
    have hnt3 : pl_N A3 0 1 0 = nt := by rw [E3.2 1 (by decide)]; exact hntA
    obtain ⟨r5, e5, h5, c5⟩ := pm_795 (L := L) (xs := xs) h4 hnt3 (by omega) (show w ≤ 20 by omega) (fL_law_636 L xs fu) (nI n) (pl_bv (pl_best A)) (nI (pl_of A w).length) (nI (pm_eo A w))
    have heo : pm_eo A3 w = pm_eo A w := by
      have s4' := E3.S.2.2.2
      unfold pm_eo
      have e0 : pl_N A3 0 0 0 = pl_N A 0 0 0 := E3.2 0 (by decide)
      rw [e0]
      refine pm_setc fun l _ => ?_
      have : pl_sw A3 w l = pl_sw A w l := by
        rw [pl_sw_eq, pl_sw_eq, s4']
      rw [this]
    refine ⟨A3, r5, ?_, h5, E3, (((((c1.trans c2).trans c3).trans c4).trans c5).le (by omega))⟩
    obtain ⟨q, hb1, hb2⟩ := (pm_wpos A w).mp hp
    have hbv : pl_bv (pl_best A) = nI q.1 := by rw [hb1]; rfl
    have hea : pm_ea A w < 2 ^ nl := by
      have := pl_set_lt (fun l => decide (pl_sw A w l = (pl_of A w).length)) (pl_N A 0 0 0)
      rw [hR.1.1.1, ← hR.1.1.1, z1, hR.1.1.1] at this
      exact this
    have hbc : pl_pc (pm_ea A w) ≤ nt := by
      rw [pm_pc hea hnl]
      have := pm_ea_bc (A := A) (k := w) hp
      rw [hR.1.1.1, hntA] at this
      exact this
    have hpc8 := pl_pc_le (pm_ea A w)
    rw [fL_law_636, if_neg (nI_nlt hw (by omega)), if_pos (h.k (by decide)), e1, pl_b2, if_pos (h1.k (by decide)), e2, pl_b2, if_pos (h2.k (by decide)), a1, pl_b1, e3, pl_b2, if_pos (h3.k (by decide)), a2, pl_b1, if_pos (h3.swap.k (by decide)), e4, pl_b2, if_pos rfl, if_neg (nI_nlt hpv (by omega)), if_neg (nI_nle hp (by omega))]
    have e707 : fL_law_707 L xs (fL_law_636 L xs fu) 1 33 (nI nt) (nI n) (pl_bv (pl_best A)) (nI w) (nI (pl_of A w).length) (nI (pm_ea A w)) (nI (pm_eo A w)) (nI bj) (nI by') 1 r4 = fL_law_795 L xs (fL_law_636 L xs fu) 1 33 (nI nt) (nI n) (pl_bv (pl_best A)) (nI w) (nI (pl_of A w).length) (nI (pm_eo A w)) r4 := by
      unfold fL_law_707
      rw [if_neg (by rw [hbv]; exact nI_pos (by omega)), if_neg (by rw [hbv]; exact nI_nlt hb2 (by omega))]
      unfold fL_law_724
      rw [if_pos rfl, if_neg (nI_pos (by omega))]
      unfold fL_law_737
      rw [if_neg (nI_nle hp (by omega))]
      unfold fL_law_747
      rw [if_pos rfl, if_neg (nI_pos (by omega)), if_pos (pw_sub0 (pm_sub hp)), pw_bits (by omega), pl_b1, if_neg (nI_nlt hbc (by omega)), if_neg (nI_nlt hnb.2 (by omega)), pl_l1, if_neg (nI_nlt hnb.1 (by omega)), if_pos (nI_pos' (by omega))]
    rw [e707, e5, heo]
    unfold fL_law_827 fL_law_839 fL_law_851
    rw [if_neg (nI_nle hp (by omega)), if_pos rfl, if_neg (nI_ne0 hp (by omega)), nI_1]
/-- all turns -/
theorem pm_636 {L : Nat} {xs : Nat → Int32} {A B : pl_A} {r : ml_M} (h : ph_2 1 33 A B r) {nl nt np n : Nat} (hR : pm_R A B nl nt np n) (hnt : 2 ≤ nt ∧ nt ≤ 4) (hn : n ≤ 7) :
    ∃ A1 r1, fL_law_636 L xs ml_fu 1 33 (nI nt) (nI n) (pl_bv (pl_best A)) 0 0 r = fL_law_861 L xs 1 33 (nI n) (pl_bv (pl_best A)) r1 ∧ ph_2 1 33 A1 B r1 ∧ pm_e A A1 ∧ ph_c (8 * (n + 1)) r r1 := by
  have := pw_for (F := fun fu w (s : Nat × ml_M) => fL_law_636 L xs fu 1 33 (nI nt) (nI n) (pl_bv (pl_best A)) (nI s.1) (nI w) s.2) (Inv := fun w s => (∃ A1, ph_2 1 33 A1 B s.2 ∧ pm_e A A1) ∧ s.1 ≤ (pl_of A w).length ∧ ph_c (8 * w) r s.2) (Post := fun R => ∃ A1 r1, R = fL_law_861 L xs 1 33 (nI n) (pl_bv (pl_best A)) r1 ∧ ph_2 1 33 A1 B r1 ∧ pm_e A A1 ∧ ph_c (8 * (n + 1)) r r1) (n + 1) (fun fu w s hw hv => ?_) (fun fu s hv => ?_) ml_fu (by rw [pl_fu]; omega) (0, r) ⟨⟨A, h, pm_e.refl _⟩, Nat.zero_le _, ph_c.refl _⟩
  · exact this
  · obtain ⟨⟨A1, v1, v2⟩, v3, v4⟩ := hv
    obtain ⟨-, -, s3, s4⟩ := v2.S
    obtain ⟨A2, r2, e1, e2, e3, e4⟩ := pm_turn (L := L) (xs := xs) v1 (hR.e v2 (pm_e.refl _)) hnt hn (w := w) (by omega) (pv := s.1) (by rw [s4]; exact v3) fu
    rw [s3, s4] at e1
    refine ⟨((pl_of A w).length, r2), e1, ⟨A2, e2, v2.trans e3⟩, pm_wmono A w, (v4.trans e4).le (by omega)⟩
  · obtain ⟨⟨A1, v1, v2⟩, v3, v4⟩ := hv
    refine ⟨A1, s.2, ?_, v1, v2, v4⟩
    show fL_law_636 L xs (fu + 1) 1 33 (nI nt) (nI n) (pl_bv (pl_best A)) (nI s.1) (nI (n + 1)) s.2 = _
    rw [fL_law_636, if_pos (nI_lt (by omega) (by omega))]

/-! THE LAW's answers of both. -/
/-- all but rows, texts and what was told last -/
def pm_e (A A' : pl_A) : Prop := (∀ g, 1 ≤ g → g ≤ 7 → pl_N A' g = pl_N A g) ∧ ∀ k, k ≤ 7 → pl_N A' 0 k 0 = pl_N A 0 k 0
theorem pm_e.refl (A : pl_A) : pm_e A A := ⟨fun _ _ _ => rfl, fun _ _ => rfl⟩
theorem pm_e.trans {A A' A'' : pl_A} (h : pm_e A A') (h2 : pm_e A' A'') : pm_e A A'' := ⟨fun g a b => (h2.1 g a b).trans (h.1 g a b), fun k a => (h2.2 k a).trans (h.2 k a)⟩
theorem pm_e_t (A : pl_A) (v : Int32) : pm_e A (pl_tA A v) := by
  unfold pl_tA
  refine ⟨fun g _ _ => ?_, fun k _ => pl_N_sV _ _ _ _ _ _ _ _⟩
  funext i k; rw [pl_N_sV]
theorem pm_e_r (A : pl_A) (r n : Nat) (f : Nat → Int32) : pm_e A (pl_rA A r n f) := by
  unfold pl_rA
  refine ⟨fun g _ _ => ?_, fun k _ => ?_⟩
  · funext i k; rw [pl_N_sVr, pl_N_sN, if_neg (by omega)]
  · rw [pl_N_sVr, pl_N_sN, if_neg (by omega)]
theorem pm_e_f (A : pl_A) (f : Nat) : pm_e A (pl_fA A f) := by
  unfold pl_fA
  refine ⟨fun g _ _ => ?_, fun k _ => ?_⟩
  · funext i k; rw [pl_N_sV, pl_N_sN, if_neg (by omega)]
  · rw [pl_N_sV, pl_N_sN, if_neg (by omega)]
theorem pm_e_L (A : pl_A) (v : Int64) : pm_e A (pl_sL A v) := by
  refine ⟨fun g _ _ => ?_, fun k _ => pl_N_sL _ _ _ _ _⟩
  funext i k; rw [pl_N_sL]
theorem pm_R.e {A B A' B' : pl_A} {nl nt np n : Nat} (h : pm_R A B nl nt np n) (ha : pm_e A A') (hb : pm_e B B') : pm_R A' B' nl nt np n := by
  unfold pm_R at *
  rw [ha.2 0 (by decide), ha.2 1 (by decide), ha.2 2 (by decide), ha.2 3 (by decide), ha.2 5 (by decide), ha.2 7 (by decide), hb.2 0 (by decide), hb.2 1 (by decide), hb.2 2 (by decide), hb.2 3 (by decide), hb.2 5 (by decide), hb.2 7 (by decide)]
  rw [ha.1 1 (by decide) (by decide), ha.1 2 (by decide) (by decide), ha.1 3 (by decide) (by decide), ha.1 4 (by decide) (by decide), hb.1 1 (by decide) (by decide), hb.1 2 (by decide) (by decide), hb.1 3 (by decide) (by decide), hb.1 4 (by decide) (by decide)]
  exact h
theorem pm_e.S {A B : pl_A} (h : pm_e A B) : pl_S B = pl_S A ∧ pl_moved B = pl_moved A ∧ pl_best B = pl_best A ∧ pl_of B = pl_of A := by
  obtain ⟨q1, q2, q3⟩ := pl_S_eq (A := A) (B := B) (h.1 1 (by decide) (by decide)) (h.1 3 (by decide) (by decide)) (h.1 4 (by decide) (by decide)) (h.2 0 (by decide)) (h.2 1 (by decide)) (h.2 2 (by decide)) (h.2 3 (by decide))
  exact ⟨q1, q2, by unfold pl_best; rw [q1, q2], by funext n; unfold pl_of; rw [q1, q2]⟩
section steps
variable {a b : Nat} {A B : pl_A} {r : ml_M}
theorem ps_share (h : ph_2 a b A B r) (ha : a ≠ 0) {q : Nat} (hq : q ≤ 5) : ∃ A1 r1, fX10_share a (nI q) r = some (pl_bv (pl_best A), r1) ∧ ph_2 a b A1 B r1 ∧ pm_e A A1 ∧ ph_c 1 r r1 := by
  cases hb : pl_best A with
  | none =>
    obtain ⟨r1, e1, e2, e3⟩ := xo_share (pd_share0 A hq hb) h ha
    exact ⟨_, r1, e1, e2, pm_e.refl _, e3⟩
  | some w =>
    obtain ⟨r1, e1, e2, e3⟩ := xo_share (pd_share A hq hb) h ha
    exact ⟨_, r1, e1, e2, pm_e_r _ _ _ _, e3⟩
theorem ps_fits (h : ph_2 a b A B r) (ha : a ≠ 0) : ∃ r1, fX10_fits a r = some (if pl_pr A (pl_N A 0 3 0) = 0 then 0 else 1, r1) ∧ ph_2 a b (pl_sL A (lN (pl_pr A (pl_N A 0 3 0)))) B r1 ∧ ph_c 1 r r1 := xo_fits (pd_fits A) h ha
def pm_fv (A : pl_A) : Int32 := if pl_fb A (2 ^ pl_N A 0 0 0) = 999 then -3 else nI (pl_pc (pl_fb A (2 ^ pl_N A 0 0 0)))
theorem ps_fewest (h : ph_2 a b A B r) (ha : a ≠ 0) : ∃ A1 r1, fX10_fewest a r = some (pm_fv A, r1) ∧ ph_2 a b A1 B r1 ∧ pm_e A A1 ∧ (pl_fb A (2 ^ pl_N A 0 0 0) ≠ 999 → A1 = pl_tA A (nI (pl_fb A (2 ^ pl_N A 0 0 0)))) ∧ ph_c 1 r r1 := by
  have hD := pd_fewest A
  unfold pm_fv
  by_cases c : pl_fb A (2 ^ pl_N A 0 0 0) = 999
  · rw [if_pos c] at hD ⊢
    obtain ⟨r1, e1, e2, e3⟩ := xo_fewest hD h ha
    exact ⟨_, r1, e1, e2, pm_e_f _ _, fun z => absurd c z, e3⟩
  · rw [if_neg c] at hD ⊢
    obtain ⟨r1, e1, e2, e3⟩ := xo_fewest hD h ha
    exact ⟨_, r1, e1, e2, pm_e_t _ _, fun _ => rfl, e3⟩
theorem ps_piling (h : ph_2 a b A B r) (ha : a ≠ 0) {q : Nat} (hq : q < 6) : ∃ A1 r1, fX10_piling a (nI q) r = some (if pl_po A 0 = 0 then -9 else nI (pl_po A 0), r1) ∧ ph_2 a b A1 B r1 ∧ pm_e A A1 ∧ ph_c 1 r r1 := by
  have hD := pd_piling A hq
  by_cases c : pl_po A 0 = 0
  · rw [if_pos c] at hD ⊢
    obtain ⟨r1, e1, e2, e3⟩ := xo_piling hD h ha
    exact ⟨_, r1, e1, e2, pm_e.refl _, e3⟩
  · rw [if_neg c] at hD ⊢
    obtain ⟨r1, e1, e2, e3⟩ := xo_piling hD h ha
    exact ⟨_, r1, e1, e2, pm_e_r _ _ _ _, e3⟩
theorem ps_strange (h : ph_2 a b A B r) (ha : a ≠ 0) : ∃ A1 r1, fX10_strange a r = some (nI (pl_cnt (pl_sp A) (pl_N A 0 3 0)), r1) ∧ ph_2 a b A1 B r1 ∧ pm_e A A1 ∧ ph_c 1 r r1 := by
  obtain ⟨r1, e1, e2, e3⟩ := xo_strange (pd_strange A) h ha
  exact ⟨_, r1, e1, e2, pm_e_t _ _, e3⟩
def pm_tv (A : pl_A) (S : Nat) : Int32 := nI (pl_pp (pl_tl (pl_tn A S) (pl_ta A S) (pl_tb2 A S) (pl_on (pl_tx A S)) (2 ^ pl_tn A S)) (2 ^ pl_tn A S) (2 ^ pl_tn A S - 1))
theorem ps_trav (h : ph_2 a b A B r) (ha : a ≠ 0) {n : Nat} (hn : pl_N A 0 3 0 = n) (h7 : n ≤ 7) : ∃ r1, fX10_travellers a r = some (pm_tv A (2 ^ n - 1), r1) ∧ ph_2 a b A B r1 ∧ ph_c 1 r r1 := by
  refine xo_travellers (pd_travellers A (S := 2 ^ n - 1) (by rw [hn]) ?_) h ha
  unfold pl_tn
  have := pl_cnt_le (pl_tq A (2 ^ n - 1)) (pl_N A 0 3 0)
  omega
def pm_wv (A : pl_A) : Int32 := if pl_lo A (pl_N A 0 3 0) ≤ pl_hi A (pl_N A 0 3 0) then nI (pl_lo A (pl_N A 0 3 0)) else -9
theorem ps_water (h : ph_2 a b A B r) (ha : a ≠ 0) : ∃ A1 r1, fX10_water a r = some (pm_wv A, r1) ∧ ph_2 a b A1 B r1 ∧ pm_e A A1 ∧ (pl_lo A (pl_N A 0 3 0) ≤ pl_hi A (pl_N A 0 3 0) → A1 = pl_tA A (nI (pl_hi A (pl_N A 0 3 0)))) ∧ ph_c 1 r r1 := by
  have hD := pd_water A
  unfold pm_wv
  by_cases c : pl_lo A (pl_N A 0 3 0) ≤ pl_hi A (pl_N A 0 3 0)
  · rw [if_pos c] at hD ⊢
    obtain ⟨r1, e1, e2, e3⟩ := xo_water hD h ha
    exact ⟨_, r1, e1, e2, pm_e_t _ _, fun _ => rfl, e3⟩
  · rw [if_neg c] at hD ⊢
    obtain ⟨r1, e1, e2, e3⟩ := xo_water hD h ha
    exact ⟨_, r1, e1, e2, pm_e.refl _, fun z => absurd z c, e3⟩
end steps
theorem pm_lg (x : Int64) : lg_cmp x x = 0 := by
  unfold lg_cmp
  rw [if_neg (Int64.lt_irrefl), if_pos rfl]
theorem pm_531 {L : Nat} {xs : Nat → Int32} {A B : pl_A} {r : ml_M} (h : ph_2 1 33 A B r) {nl nt np n : Nat} (hR : pm_R A B nl nt np n) (hn : n ≤ 7) : ∃ A1 B1 r1, fL_law_531 L xs 1 33 (nI nt) (nI n) r = fL_law_636 L xs ml_fu 1 33 (nI nt) (nI n) (pl_bv (pl_best A)) 0 0 r1 ∧ ph_2 1 33 A1 B1 r1 ∧ pm_e A A1 ∧ pm_e B B1 ∧ ph_c 14 r r1 := by
  have hW := h.w
  have hnl : nl ≤ 8 := by have := hW.1; unfold pl_Wc at this; rw [hR.1.1.1] at this; exact this.1
  obtain ⟨A1, r1, e1, h1, a1, c1⟩ := ps_share h (by decide) (q := 0) (by decide)
  obtain ⟨B1, r2, e2, h2, b1, c2⟩ := ps_share h1.swap (by decide) (q := 0) (by decide)
  have h2 := h2.swap
  have R1 := hR.e a1 b1
  have hsh : pl_bv (pl_best B) = pl_bv (pl_best A) := by
    rcases pm_share hR hW with ⟨z1, z2⟩ | ⟨q, q', z1, z2, z3⟩
    · rw [z1, z2]
    · rw [z1, z2]
      show nI q'.1 = nI q.1
      rw [z3]
  obtain ⟨r3, e3, h3, c3⟩ := ps_fits h2 (by decide)
  obtain ⟨r4, e4, h4, c4⟩ := ps_fits h3.swap (by decide)
  have h4 := h4.swap
  have hpr : pl_pr B1 (pl_N B1 0 3 0) = pl_pr A1 (pl_N A1 0 3 0) := by
    rw [R1.1.2.2.2.1.1, R1.1.2.2.2.1.2, pm_pr R1 h2.w hnl n (Nat.le_refl _)]
  rw [hpr] at e4 h4
  obtain ⟨A2, hA2⟩ : ∃ A2, A2 = pl_sL A1 (lN (pl_pr A1 (pl_N A1 0 3 0))) := ⟨_, rfl⟩
  obtain ⟨B2, hB2⟩ : ∃ B2, B2 = pl_sL B1 (lN (pl_pr A1 (pl_N A1 0 3 0))) := ⟨_, rfl⟩
  have a2 : pm_e A1 A2 := by rw [hA2]; exact pm_e_L _ _
  have b2 : pm_e B1 B2 := by rw [hB2]; exact pm_e_L _ _
  have hL : pl_L B2 = pl_L A2 := by rw [hA2, hB2, pl_L_sL, pl_L_sL]
  rw [← hA2, ← hB2] at h4
  have R2 := R1.e a2 b2
  have m1 := xp_many (pd_many A2) h4 (by decide)
  have m2 := xp_many (pd_many B2) h4.swap (by decide)
  rw [hL] at m2
  obtain ⟨A3, r5, e5, h5, a3, -, c5⟩ := ps_fewest h4 (by decide)
  obtain ⟨B3, r6, e6, h6, b3, -, c6⟩ := ps_fewest h5.swap (by decide)
  have h6 := h6.swap
  have hfv : pm_fv B2 = pm_fv A2 := by
    obtain ⟨f1, f2⟩ := pm_few R2 h4.w hnl
    unfold pm_fv
    rw [R2.1.1.1, R2.1.1.2]
    by_cases c : pl_fb A2 (2 ^ nl) = 999
    · rw [if_pos c, if_pos (f1.mp c)]
    · rw [if_neg c, if_neg (fun z => c (f1.mpr z)), f2 c]
  have R3 := R2.e a3 b3
  obtain ⟨A4, r7, e7, h7, a4, c7⟩ := ps_piling h6 (by decide) (q := 1) (by decide)
  obtain ⟨B4, r8, e8, h8, b4, c8⟩ := ps_piling h7.swap (by decide) (q := 1) (by decide)
  have h8 := h8.swap
  rw [pm_po R3] at e8
  have R4 := R3.e a4 b4
  obtain ⟨A5, r9, e9, h9, a5, c9⟩ := ps_strange h8 (by decide)
  obtain ⟨B5, r10, e10, h10, b5, c10⟩ := ps_strange h9.swap (by decide)
  have h10 := h10.swap
  rw [R4.1.2.2.2.1.2, pm_sp R4] at e10
  rw [R4.1.2.2.2.1.1] at e9
  have R5 := R4.e a5 b5
  obtain ⟨r11, e11, h11, c11⟩ := ps_trav h10 (by decide) R5.1.2.2.2.1.1 hn
  obtain ⟨r12, e12, h12, c12⟩ := ps_trav h11.swap (by decide) R5.1.2.2.2.1.2 hn
  have h12 := h12.swap
  have htv : pm_tv B5 (2 ^ n - 1) = pm_tv A5 (2 ^ n - 1) := by
    obtain ⟨t1, t2, t3, t4⟩ := pm_trav R5 (2 ^ n - 1)
    unfold pm_tv
    rw [t1, t2, t3, t4]
  obtain ⟨A6, r13, e13, h13, a6, -, c13⟩ := ps_water h12 (by decide)
  obtain ⟨B6, r14, e14, h14, b6, -, c14⟩ := ps_water h13.swap (by decide)
  have h14 := h14.swap
  have hwv : pm_wv B5 = pm_wv A5 := by
    obtain ⟨l1, l2⟩ := pm_lohi R5 h12.w n (Nat.le_refl _)
    unfold pm_wv
    rw [R5.1.2.2.2.1.2, R5.1.2.2.2.1.1, l1, l2]
  have z0 : (0 : Int32) = nI 0 := rfl
  refine ⟨A6, B6, r14, ?_, h14, a1.trans (a2.trans (a3.trans (a4.trans (a5.trans a6)))), b1.trans (b2.trans (b3.trans (b4.trans (b5.trans b6)))), (((((((((((((c1.trans c2).trans c3).trans c4).trans c5).trans c6).trans c7).trans c8).trans c9).trans c10).trans c11).trans c12).trans c13).trans c14).le (by decide)⟩
  unfold fL_law_531
  rw [if_pos (h.k (by decide)), z0, e1, pl_b2, if_pos (h1.swap.k (by decide)), e2, pl_b2, if_pos hsh, if_pos (h2.k (by decide)), e3, pl_b2, if_pos (h3.swap.k (by decide)), e4, pl_b2, if_pos rfl, if_pos (h4.k (by decide)), m1, pl_b1, if_pos (h4.swap.k (by decide)), m2, pl_b1, if_pos (show lg_cmp (pl_L A2) (pl_L A2) = nI 0 from pm_lg _), e5, pl_b2, if_pos (h5.swap.k (by decide)), e6, pl_b2, if_pos hfv.symm, if_pos (h6.k (by decide)), show (1 : Int32) = nI 1 from rfl, e7, pl_b2, if_pos (h7.swap.k (by decide)), e8, pl_b2, if_pos rfl, if_pos (h8.k (by decide)), e9, pl_b2, if_pos (h9.swap.k (by decide)), e10, pl_b2, if_pos rfl, if_pos (h10.k (by decide)), e11, pl_b2, if_pos (h11.swap.k (by decide)), e12, pl_b2, if_pos htv.symm, if_pos (h12.k (by decide)), e13, pl_b2, if_pos (h13.swap.k (by decide)), e14, pl_b2, if_pos hwv.symm]

/-! THE LAW: things moved by a sharing lie well. -/
theorem pm_mvp (A : pl_A) (w : List Nat) : ∀ N c, c < pl_cnt (pl_mw A w) N → ∃ i, i < N ∧ pl_mw A w i = true ∧ pl_cnt (pl_mw A w) i = c ∧ pl_mvf A w 0 (fun _ => 0) N (2 * c) = nI i ∧ pl_mvf A w 0 (fun _ => 0) N (2 * c + 1) = nI (pl_mvt A w i) := by
  intro N
  induction N with
  | zero => intro c hc; exact absurd hc (Nat.not_lt_zero c)
  | succ N ih =>
    intro c hc
    rw [pl_cnt1] at hc
    rw [pl_mvf1]
    by_cases hm : pl_mw A w N = true
    · rw [if_pos hm] at hc ⊢
      by_cases e : c = pl_cnt (pl_mw A w) N
      · refine ⟨N, by omega, hm, e.symm, ?_, ?_⟩
        · rw [e, pl_up_n _ _ (by omega), Nat.zero_add, pl_up_k]
        · rw [e, Nat.zero_add, pl_up_k]
      · obtain ⟨i, h1, h2, h3, h4, h5⟩ := ih c (by omega)
        refine ⟨i, by omega, h2, h3, ?_, ?_⟩
        · rw [pl_up_n _ _ (by omega), pl_up_n _ _ (by omega)]; exact h4
        · rw [pl_up_n _ _ (by omega), pl_up_n _ _ (by omega)]; exact h5
    · rw [if_neg hm] at hc ⊢
      obtain ⟨i, h1, h2, h3, h4, h5⟩ := ih c hc
      exact ⟨i, by omega, h2, h3, h4, h5⟩
theorem pm_cnt_lt {p : Nat → Bool} {i j : Nat} (hp : p i = true) (hij : i < j) : pl_cnt p i < pl_cnt p j := by
  have : ∀ d, pl_cnt p i < pl_cnt p (i + 1 + d) := fun d => by
    induction d with
    | zero => rw [Nat.add_zero, pl_cnt1, if_pos hp]; omega
    | succ d ih =>
      rw [← Nat.add_assoc, pl_cnt1]
      split <;> omega
  have := this (j - i - 1)
  rw [show i + 1 + (j - i - 1) = j by omega] at this
  exact this
theorem pm_cnt_inj {p : Nat → Bool} {i j : Nat} (hi : p i = true) (hj : p j = true) (h : pl_cnt p i = pl_cnt p j) : i = j := by
  rcases Nat.lt_trichotomy i j with c | c | c
  · have := pm_cnt_lt hi c; omega
  · exact c
  · have := pm_cnt_lt hj c; omega
/-- so many of the things are laid where the sharing has them -/
def pm_l (A Z : pl_A) (w : List Nat) (k : Nat) : Prop :=
  ((∀ g, 1 ≤ g → g ≤ 3 → pl_N Z g = pl_N A g) ∧ (∀ k, k ≤ 7 → pl_N Z 0 k 0 = pl_N A 0 k 0) ∧ (∀ i f, f ≠ 3 → pl_N Z 4 i f = pl_N A 4 i f) ∧ ∀ i, pl_N Z 4 i 3 = if pl_mw A w i = true ∧ pl_cnt (pl_mw A w) i < k then pl_mvt A w i else pl_N A 4 i 3) ∧
  (pl_N Z 8 0 0 = pl_N A 0 1 0 + 1 ∧ ∀ t, t < pl_N A 0 1 0 → pl_V Z 0 0 t = nI (w.getD t 0)) ∧ pl_N Z 8 2 0 = 2 * pl_moved A w + 1 ∧ pl_V Z 0 2 = pl_mvf A w 0 (fun _ => 0) (pl_N A 0 3 0)
theorem pm_l.t {A Z : pl_A} {w : List Nat} {k : Nat} (h : pm_l A Z w k) (v : Int32) : pm_l A (pl_tA Z v) w k := by
  have hN : ∀ g i k, pl_N (pl_tA Z v) g i k = pl_N Z g i k := fun g i k => by unfold pl_tA; rw [pl_N_sV]
  have hV : ∀ i k, pl_V (pl_tA Z v) 0 i k = pl_V Z 0 i k := fun i k => by unfold pl_tA; rw [pl_V_sV, if_neg (by omega)]
  obtain ⟨⟨h1, h2, h3, h4⟩, ⟨h5, h6⟩, h7, h8⟩ := h
  refine ⟨⟨fun g a b => ?_, fun k a => ?_, fun i f a => ?_, fun i => ?_⟩, ⟨?_, fun t a => ?_⟩, ?_, ?_⟩
  · rw [← h1 g a b]; funext i k; exact hN g i k
  · rw [hN]; exact h2 k a
  · rw [hN]; exact h3 i f a
  · rw [hN]; exact h4 i
  · rw [hN]; exact h5
  · rw [hV]; exact h6 t a
  · rw [hN]; exact h7
  · rw [← h8]; funext k; exact hV 2 k
theorem pm_l.i {A Z : pl_A} {w : List Nat} {i : Nat} (h : pm_l A Z w (pl_cnt (pl_mw A w) i)) (hm : pl_mw A w i = true) : pm_l A (pl_iA Z i (pl_mvt A w i) (pl_N A 4 i 4)) w (pl_cnt (pl_mw A w) i + 1) := by
  have hN : ∀ g a k, pl_N (pl_iA Z i (pl_mvt A w i) (pl_N A 4 i 4)) g a k = if g = 4 ∧ a = i ∧ k = 4 then pl_N A 4 i 4 else if g = 4 ∧ a = i ∧ k = 3 then pl_mvt A w i else pl_N Z g a k := fun g a k => by unfold pl_iA; rw [pl_N_sN, pl_N_sN]
  have hV : ∀ g a k, pl_V (pl_iA Z i (pl_mvt A w i) (pl_N A 4 i 4)) g a k = pl_V Z g a k := fun g a k => by unfold pl_iA; rw [pl_V_sN, pl_V_sN]
  obtain ⟨⟨h1, h2, h3, h4⟩, ⟨h5, h6⟩, h7, h8⟩ := h
  refine ⟨⟨fun g a b => ?_, fun k a => ?_, fun j f a => ?_, fun j => ?_⟩, ⟨?_, fun t a => ?_⟩, ?_, ?_⟩
  · rw [← h1 g a b]; funext j k; rw [hN, if_neg (by omega), if_neg (by omega)]
  · rw [hN, if_neg (by omega), if_neg (by omega)]; exact h2 k a
  · rw [hN]
    by_cases c : j = i ∧ f = 4
    · rw [if_pos ⟨rfl, c⟩, c.1, c.2]
    · rw [if_neg (fun z => c z.2), if_neg (fun z => a z.2.2)]; exact h3 j f a
  · rw [hN, if_neg (by omega)]
    by_cases c : j = i
    · rw [if_pos ⟨rfl, c, rfl⟩, c, if_pos ⟨hm, by omega⟩]
    · rw [if_neg (fun z => c z.2.1), h4]
      by_cases d : pl_mw A w j = true ∧ pl_cnt (pl_mw A w) j < pl_cnt (pl_mw A w) i
      · rw [if_pos d, if_pos ⟨d.1, by omega⟩]
      · rw [if_neg d, if_neg]
        rintro ⟨z1, z2⟩
        apply d
        refine ⟨z1, ?_⟩
        rcases Nat.lt_or_ge (pl_cnt (pl_mw A w) j) (pl_cnt (pl_mw A w) i) with z | z
        · exact z
        · exact absurd (pm_cnt_inj z1 hm (by omega)) c
  · rw [hN, if_neg (by omega), if_neg (by omega)]; exact h5
  · rw [hV]; exact h6 t a
  · rw [hN, if_neg (by omega), if_neg (by omega)]; exact h7
  · rw [← h8]; funext k; exact hV 0 2 k
theorem pm_l.may {A Z : pl_A} {w : List Nat} {k : Nat} (h : pm_l A Z w k) : pl_may Z = pl_may A ∧ pl_S Z = pl_S A ∧ pl_good Z = pl_good A := by
  obtain ⟨⟨h1, h2, h3, h4⟩, -⟩ := h
  have e1 := h1 1 (by decide) (by decide)
  have e3 := h1 3 (by decide) (by decide)
  have hm : pl_may Z = pl_may A := by
    funext l i
    unfold pl_may
    rw [e1, h3 i 0 (by decide), h3 i 1 (by decide), h3 i 2 (by decide), h3 i 5 (by decide), h3 i 6 (by decide)]
  have ho : pl_own Z = pl_own A := by
    funext i; unfold pl_own; rw [hm, h2 0 (by decide)]
  have hc : pl_cov Z = pl_cov A := by
    funext s; unfold pl_cov; rw [ho, h2 3 (by decide)]
  have hg : pl_good Z = pl_good A := by
    funext w; unfold pl_good; rw [e1, e3, h2 2 (by decide), hc]
  exact ⟨hm, by unfold pl_S; rw [h2 0 (by decide), h2 1 (by decide), hg], hg⟩
/-- one thing laid -/
theorem pm_892 {L : Nat} {xs : Nat → Int32} {A Z B : pl_A} {r : ml_M} (h : ph_2 1 33 Z B r) {w : List Nat} {k n : Nat} (hl : pm_l A Z w k) (hk : k < pl_moved A w) (hn : pl_N A 0 3 0 = n) (h7 : n ≤ 7) (hlen : w.length = pl_N A 0 1 0) (hg : pl_good A w = true) (fu : Nat) :
    ∃ Z1 r1, fL_law_892 L xs (fu + 1) 1 33 (nI n) (nI (pl_moved A w)) (nI k) r = fL_law_892 L xs fu 1 33 (nI n) (nI (pl_moved A w)) (nI (k + 1)) r1 ∧ ph_2 1 33 Z1 B r1 ∧ pm_l A Z1 w (k + 1) ∧ ph_c 4 r r1 := by
  have hmv : pl_moved A w ≤ n := by rw [← pl_mw_cnt, hn]; exact pl_cnt_le _ _
  obtain ⟨i, i1, i2, i3, i4, i5⟩ := pm_mvp A w (pl_N A 0 3 0) k (by rw [pl_mw_cnt]; exact hk)
  have hWZ := h.w.1
  unfold pl_Wc at hWZ
  have hZ1 : pl_N Z 0 1 0 = pl_N A 0 1 0 := hl.1.2.1 1 (by decide)
  have hZ3 : pl_N Z 0 3 0 = pl_N A 0 3 0 := hl.1.2.1 3 (by decide)
  have ht := pl_mvt_lt hlen hg i1
  have hwet : pl_N A 4 i 4 ≤ 1 := by
    have := (h.w.2.2.2.2.1 i (by rw [hZ3]; exact i1)).2.2.2.2.1
    rw [hl.1.2.2.1 i 4 (by decide)] at this
    exact this
  obtain ⟨r1, e1, h1, c1⟩ := xo_at (pd_at Z (r := 2) (n := 2 * pl_moved A w) (i := 2 * k) (by decide) hl.2.2.1 (by omega)) h (by decide)
  rw [hl.2.2.2, i4] at h1
  have l1 := hl.t (nI i)
  obtain ⟨Z1, hZ1'⟩ : ∃ z, z = pl_tA Z (nI i) := ⟨_, rfl⟩
  rw [← hZ1'] at h1 l1
  have v1 : pl_V Z1 3 0 0 = nI i := by rw [hZ1']; unfold pl_tA; rw [pl_V_sV, if_pos ⟨rfl, rfl, rfl⟩]
  have a1 := xp_asked (pd_asked Z1) h1 (by decide)
  rw [v1] at a1
  obtain ⟨r2, e2, h2, c2⟩ := xo_at (pd_at Z1 (r := 2) (n := 2 * pl_moved A w) (i := 2 * k + 1) (by decide) l1.2.2.1 (by omega)) h1 (by decide)
  rw [l1.2.2.2, i5] at h2
  have l2 := l1.t (nI (pl_mvt A w i))
  obtain ⟨Z2, hZ2'⟩ : ∃ z, z = pl_tA Z1 (nI (pl_mvt A w i)) := ⟨_, rfl⟩
  rw [← hZ2'] at h2 l2
  have v2 : pl_V Z2 3 0 0 = nI (pl_mvt A w i) := by rw [hZ2']; unfold pl_tA; rw [pl_V_sV, if_pos ⟨rfl, rfl, rfl⟩]
  have a2 := xp_asked (pd_asked Z2) h2 (by decide)
  rw [v2] at a2
  have hZ32 : pl_N Z2 0 3 0 = pl_N A 0 3 0 := l2.1.2.1 3 (by decide)
  obtain ⟨r3, e3, h3, c3⟩ := xo_told (pd_told Z2 (i := i) (k := 4) (by rw [hZ32]; exact i1) (by decide)) h2 (by decide)
  have hgf : pl_gf Z2 i 4 = nI (pl_N A 4 i 4) := by
    unfold pl_gf
    rw [if_neg (by decide), l2.1.2.2.1 i 4 (by decide)]
  rw [hgf] at h3
  have l3 := l2.t (nI (pl_N A 4 i 4))
  obtain ⟨Z3, hZ3'⟩ : ∃ z, z = pl_tA Z2 (nI (pl_N A 4 i 4)) := ⟨_, rfl⟩
  rw [← hZ3'] at h3 l3
  have v3 : pl_V Z3 3 0 0 = nI (pl_N A 4 i 4) := by rw [hZ3']; unfold pl_tA; rw [pl_V_sV, if_pos ⟨rfl, rfl, rfl⟩]
  have a3 := xp_asked (pd_asked Z3) h3 (by decide)
  rw [v3] at a3
  have hZ33 : pl_N Z3 0 3 0 = pl_N A 0 3 0 := l3.1.2.1 3 (by decide)
  have hZ13 : pl_N Z3 0 1 0 = pl_N A 0 1 0 := l3.1.2.1 1 (by decide)
  obtain ⟨r4, e4, h4, c4⟩ := xo_lies (pd_lies Z3 (i := i) (c := pl_mvt A w i) (w := pl_N A 4 i 4) (by rw [hZ33]; exact i1) (Or.inr (by rw [hZ13]; exact ht)) hwet) h3 (by decide)
  have htc : pl_tc (pl_mvt A w i) = nI (pl_mvt A w i) := by unfold pl_tc; rw [if_neg (by omega)]
  rw [htc] at e4
  rw [← i3] at l3
  have l4 := l3.i i2
  rw [i3] at l4
  refine ⟨_, r4, ?_, h4, l4, (((c1.trans c2).trans c3).trans c4).le (by decide)⟩
  have x1 : (2 : Int32) * nI k = nI (2 * k) := by rw [pl_l2, pk_mul]
  have x2 : nI (2 * k) + (1 : Int32) = nI (2 * k + 1) := nI_1 _
  rw [fL_law_892, if_neg (by rw [nI_leI (by omega) (by omega)]; omega), if_pos (h.k (by decide)), x1, pl_l2, e1, pl_b2, if_pos rfl, if_pos (h1.k (by decide)), a1, pl_b1]
  unfold fL_law_920
  have x3 : ((2 : Int32) * nI k) + (1 : Int32) = nI (2 * k + 1) := by rw [x1, x2]
  rw [if_pos (h1.k (by decide)), x3, pl_l2, e2, pl_b2, if_pos rfl, if_pos (h2.k (by decide)), a2, pl_b1]
  unfold fL_law_945
  rw [if_pos (h2.k (by decide)), pl_l4, e3, pl_b2, if_pos rfl, if_pos (h3.k (by decide)), a3, pl_b1]
  have hlast : fL_law_976 L xs (fL_law_892 L xs fu) 1 33 (nI n) (nI (pl_moved A w)) (nI k) (nI (pl_N A 4 i 4)) (nI (pl_mvt A w i)) (nI i) 1 r3 = fL_law_892 L xs fu 1 33 (nI n) (nI (pl_moved A w)) (nI (k + 1)) r4 := by
    unfold fL_law_976
    rw [if_pos (h3.k (by decide)), e4, pl_b2, if_pos rfl, nI_1]
  rcases Nat.lt_or_ge (pl_N A 4 i 4) 1 with z | z
  · have z : pl_N A 4 i 4 = 0 := by omega
    rw [z] at hlast
    rw [z, if_neg (by decide)]
    exact hlast
  · have z : pl_N A 4 i 4 = 1 := by omega
    rw [z] at hlast
    rw [z, if_pos (show nI 1 = (1 : Int32) from rfl)]
    exact hlast
theorem pm_ofw {A : pl_A} {w : List Nat} (hw : w ∈ pl_S A) : w.Nodup ∧ w.length = pl_N A 0 1 0 ∧ (∀ x, x ∈ w → x < pl_N A 0 0 0) ∧ pl_good A w = true := by
  have h1 : w ∈ pl_of A (pl_moved A w) := List.mem_filter.mpr ⟨hw, decide_eq_true (Nat.le_refl _)⟩
  obtain ⟨a, b, c⟩ := pl_of_w w h1
  exact ⟨pm_nd a, b, c, (List.mem_filter.mp hw).2⟩
theorem pm_l.mv0 {A Z : pl_A} {w : List Nat} (h : pm_l A Z w (pl_moved A w)) (hlen : w.length = pl_N A 0 1 0) (hg : pl_good A w = true) : pl_moved Z w = 0 := by
  obtain ⟨e1, -, -⟩ := h.may
  have hn : pl_N Z 0 3 0 = pl_N A 0 3 0 := h.1.2.1 3 (by decide)
  have h4 := h.1.2.2.2
  have : ∀ N, N ≤ pl_N A 0 3 0 → pl_cnt (fun i => decide (pl_N Z 4 i 3 ≠ 100) && !pl_may Z (w.getD (pl_N Z 4 i 3) 0) i) N = 0 := fun N => by
    induction N with
    | zero => exact fun _ => rfl
    | succ N ih =>
      intro hN
      rw [pl_cnt1, ih (by omega), if_neg]
      rw [Bool.and_eq_true]
      rintro ⟨z1, z2⟩
      rw [e1, h4 N] at z2
      rw [h4 N] at z1
      by_cases hm : pl_mw A w N = true
      · have hc : pl_cnt (pl_mw A w) N < pl_moved A w := by
          rw [← pl_mw_cnt]; exact pm_cnt_lt hm (by omega)
        rw [if_pos ⟨hm, hc⟩] at z2
        have ht := pl_mvt_lt hlen hg (show N < pl_N A 0 3 0 by omega)
        have hp := (pl_lst_p (fun t => pl_may A (w.getD t 0) N) (pl_N A 0 1 0)).1 ht
        have hp' : pl_may A (w.getD (pl_mvt A w N) 0) N = true := hp
        rw [hp'] at z2
        exact absurd z2 (by decide)
      · rw [if_neg (fun z => hm z.1)] at z1 z2
        apply hm
        unfold pl_mw
        rw [z1, z2]; rfl
  unfold pl_moved
  rw [hn]
  exact this _ (Nat.le_refl _)
/-- after all are laid -/
theorem pm_991 {L : Nat} {xs : Nat → Int32} {A Z B : pl_A} {r : ml_M} (h : ph_2 1 33 Z B r) {w : List Nat} (hl : pm_l A Z w (pl_moved A w)) (hw : w ∈ pl_S A) (l11 : Int32) :
    ∃ Z1 r1, fL_law_991 L xs 1 33 l11 r = fL_law_1019 L xs 1 33 l11 r1 ∧ ph_2 1 33 Z1 B r1 ∧ (∀ k, k ≤ 7 → pl_N Z1 0 k 0 = pl_N A 0 k 0) ∧ ph_c 3 r r1 := by
  obtain ⟨w1, w2, w3, w4⟩ := pm_ofw hw
  obtain ⟨e1, e2, e3⟩ := hl.may
  have hm0 := hl.mv0 w2 w4
  have hZ0 : pl_N Z 0 0 0 = pl_N A 0 0 0 := hl.1.2.1 0 (by decide)
  have hZ1 : pl_N Z 0 1 0 = pl_N A 0 1 0 := hl.1.2.1 1 (by decide)
  obtain ⟨r1, c1, h1, d1⟩ := xo_moves (pd_moves Z (r := 0) (s := 2) (by decide) (by decide) (w := w) (by rw [hZ1]; exact hl.2.1.1) ⟨by rw [hZ1]; exact w2, ⟨w1, fun x hx => by rw [hZ0]; exact w3 x hx, fun i hi => hl.2.1.2 i (by omega)⟩, by rw [e3]; exact w4⟩) h (by decide)
  rw [hm0] at c1
  obtain ⟨Z1, hZ1'⟩ : ∃ z, z = pl_rA Z 2 (2 * pl_moved Z w + 1) (pl_mvf Z w 0 (fun _ => 0) (pl_N Z 0 3 0)) := ⟨_, rfl⟩
  rw [← hZ1'] at h1
  have E1 : pm_e Z Z1 := by rw [hZ1']; exact pm_e_r _ _ _ _
  obtain ⟨s1, s2, s3, s4⟩ := E1.S
  have hb : ∃ q, pl_best Z = some q ∧ q.1 = 0 := by
    rcases pm_best Z with ⟨z1, z2⟩ | ⟨q, z1, z2, z3, z4⟩
    · rw [← e2, z2] at hw; cases hw
    · have := z4 w (by rw [e2]; exact hw)
      exact ⟨q, z1, by omega⟩
  obtain ⟨q, hb1, hb2⟩ := hb
  obtain ⟨Z2, r2, c2, h2, E2, d2⟩ := ps_share h1 (by decide) (q := 3) (by decide)
  rw [s3, hb1] at c2
  have c2 : fX10_share 1 (nI 3) r1 = some (0, r2) := by
    have : pl_bv (some q) = 0 := by
      show nI q.1 = 0
      rw [hb2]; exact nI_0
    rw [← this]; exact c2
  have s4' := (E1.trans E2).S.2.2.2
  obtain ⟨r3, c3, h3, d3⟩ := xo_ways (pd_ways Z2 (n := 0) (by decide)) h2 (by decide)
  have hpos : 0 < (pl_of Z2 0).length := by
    rw [s4']; exact (pm_wpos Z 0).mpr ⟨q, hb1, by omega⟩
  have hle := pl_of_len h2.w 0
  refine ⟨Z2, r3, ?_, h3, fun k hk => ?_, ((d1.trans d2).trans d3).le (by decide)⟩
  · unfold fL_law_991
    have x0 : fX10_moves 1 0 2 r = some (0, r1) := c1
    have x3 : fX10_ways 1 0 r2 = some (nI (pl_of Z2 0).length, r3) := c3
    rw [if_pos (h.k (by decide)), x0, pl_b2, if_pos rfl, if_pos (h1.k (by decide)), pl_l3, c2, pl_b2, if_pos rfl, if_pos (h2.k (by decide)), x3, pl_b2, pl_l1, if_pos (nI_le hpos (by omega))]
  · rw [(E1.trans E2).2 k hk]; exact hl.1.2.1 k hk
theorem pm_861 {L : Nat} {xs : Nat → Int32} {A B : pl_A} {r : ml_M} (h : ph_2 1 33 A B r) {n : Nat} (hn : pl_N A 0 3 0 = n) (h7 : n ≤ 7) :
    ∃ Z1 r1, fL_law_861 L xs 1 33 (nI n) (pl_bv (pl_best A)) r = fL_law_1019 L xs 1 33 (nI n) r1 ∧ ph_2 1 33 Z1 B r1 ∧ (∀ k, k ≤ 7 → pl_N Z1 0 k 0 = pl_N A 0 k 0) ∧ ph_c (5 + 4 * n) r r1 := by
  rcases pm_best A with ⟨z1, z2⟩ | ⟨q, z1, z2, z3, z4⟩
  · refine ⟨A, r, ?_, h, fun _ _ => rfl, (ph_c.refl r).le (by omega)⟩
    unfold fL_law_861
    rw [z1, if_pos (show pl_bv none < 0 from pm_m9)]
  · obtain ⟨w1, w2, w3, w4⟩ := pm_ofw z2
    have hmn : pl_moved A q.2 ≤ n := by rw [← pl_mw_cnt, hn]; exact pl_cnt_le _ _
    obtain ⟨r1, e1, h1, c1⟩ := xo_share (pd_share A (r := 0) (by decide) z1) h (by decide)
    obtain ⟨A1, hA1⟩ : ∃ z, z = pl_rA A 0 (pl_N A 0 1 0 + 1) (fun t => nI (q.2.getD t 0)) := ⟨_, rfl⟩
    rw [← hA1] at h1
    have E1 : pm_e A A1 := by rw [hA1]; exact pm_e_r _ _ _ _
    have n80 : pl_N A1 8 0 0 = pl_N A 0 1 0 + 1 := by rw [hA1]; unfold pl_rA; rw [pl_N_sVr, pl_N_sN, if_pos ⟨rfl, rfl, rfl⟩]
    have v00 : ∀ t, pl_V A1 0 0 t = nI (q.2.getD t 0) := fun t => by rw [hA1]; unfold pl_rA; rw [pl_V_sVr, if_pos ⟨rfl, rfl⟩]
    have hg1 : pl_good A1 q.2 = true ∧ pl_moved A1 = pl_moved A := by
      obtain ⟨s1, s2, -, -⟩ := E1.S
      rw [← s1] at z2
      exact ⟨(List.mem_filter.mp z2).2, s2⟩
    have m1 : pl_N A1 0 1 0 = pl_N A 0 1 0 := E1.2 1 (by decide)
    have m0 : pl_N A1 0 0 0 = pl_N A 0 0 0 := E1.2 0 (by decide)
    have m3 : pl_N A1 0 3 0 = pl_N A 0 3 0 := E1.2 3 (by decide)
    obtain ⟨r2, e2, h2, c2⟩ := xo_moves (pd_moves A1 (r := 0) (s := 2) (by decide) (by decide) (w := q.2) (by rw [m1]; exact n80) ⟨by rw [m1]; exact w2, ⟨w1, fun x hx => by rw [m0]; exact w3 x hx, fun i _ => v00 i⟩, hg1.1⟩) h1 (by decide)
    rw [hg1.2] at e2 h2
    obtain ⟨A2, hA2⟩ : ∃ z, z = pl_rA A1 2 (2 * pl_moved A q.2 + 1) (pl_mvf A1 q.2 0 (fun _ => 0) (pl_N A1 0 3 0)) := ⟨_, rfl⟩
    rw [← hA2] at h2
    have E2 : pm_e A A2 := by rw [hA2]; exact E1.trans (pm_e_r _ _ _ _)
    have hmay : pl_may A1 = pl_may A := pl_may_eq (E1.1 1 (by decide) (by decide)) (E1.1 4 (by decide) (by decide))
    have hmvf : pl_mvf A1 q.2 0 (fun _ => 0) (pl_N A1 0 3 0) = pl_mvf A q.2 0 (fun _ => 0) (pl_N A 0 3 0) := by
      have hmw : pl_mw A1 q.2 = pl_mw A q.2 := by
        funext i; unfold pl_mw; rw [hmay, E1.1 4 (by decide) (by decide)]
      have hmt : pl_mvt A1 q.2 = pl_mvt A q.2 := by
        funext i; unfold pl_mvt; rw [hmay, m1]
      rw [m3]
      have : ∀ N, pl_mvf A1 q.2 0 (fun _ => 0) N = pl_mvf A q.2 0 (fun _ => 0) N := fun N => by
        induction N with
        | zero => rfl
        | succ N ih => rw [pl_mvf1, pl_mvf1, ih, hmw, hmt]
      exact this _
    have hl0 : pm_l A A2 q.2 0 := by
      refine ⟨⟨fun g a b => E2.1 g a (by omega), E2.2, fun i f _ => by rw [E2.1 4 (by decide) (by decide)], fun i => ?_⟩, ⟨?_, fun t _ => ?_⟩, ?_, ?_⟩
      · rw [if_neg (fun z => absurd z.2 (Nat.not_lt_zero _)), E2.1 4 (by decide) (by decide)]
      · rw [hA2]; unfold pl_rA; rw [pl_N_sVr, pl_N_sN, if_neg (by omega)]; exact n80
      · rw [hA2]; unfold pl_rA; rw [pl_V_sVr, if_neg (by omega), pl_V_sN]; exact v00 t
      · rw [hA2]; unfold pl_rA; rw [pl_N_sVr, pl_N_sN, if_pos ⟨rfl, rfl, rfl⟩]
      · rw [hA2, hmvf]; unfold pl_rA; funext j; rw [pl_V_sVr, if_pos ⟨rfl, rfl⟩]
    have hlp := pw_for (F := fun fu k (s : ml_M) => fL_law_892 L xs fu 1 33 (nI n) (nI (pl_moved A q.2)) (nI k) s) (Inv := fun k s => ∃ Z, ph_2 1 33 Z B s ∧ pm_l A Z q.2 k ∧ ph_c (4 * k) r2 s) (Post := fun R => ∃ Z r3, R = fL_law_991 L xs 1 33 (nI n) r3 ∧ ph_2 1 33 Z B r3 ∧ pm_l A Z q.2 (pl_moved A q.2) ∧ ph_c (4 * n) r2 r3) (pl_moved A q.2) (fun fu k s hk hv => ?_) (fun fu s hv => ?_) ml_fu (by rw [pl_fu]; omega) r2 ⟨A2, h2, hl0, ph_c.refl _⟩
    · obtain ⟨Z, r3, f1, f2, f3, f4⟩ := hlp
      obtain ⟨Z1, r4, g1, g2, g3, g4⟩ := pm_991 (L := L) (xs := xs) f2 f3 z2 (nI n)
      refine ⟨Z1, r4, ?_, g2, g3, (((c1.trans c2).trans f4).trans g4).le (by omega)⟩
      unfold fL_law_861
      have hbv : pl_bv (some q) = nI (pl_moved A q.2) := by show nI q.1 = _; rw [z3]
      have x1 : fX10_share 1 0 r = some (nI q.1, r1) := e1
      have x2 : fX10_moves 1 0 2 r1 = some (nI (pl_moved A q.2), r2) := e2
      have f1' : fL_law_892 L xs ml_fu 1 33 (nI n) (nI (pl_moved A q.2)) 0 r2 = fL_law_991 L xs 1 33 (nI n) r3 := f1
      rw [z1, hbv, if_neg (nI_pos (by omega)), if_pos (h.k (by decide)), x1, pl_b2, z3, if_pos rfl, if_pos (h1.k (by decide)), x2, pl_b2, if_pos rfl, f1', g1]
    · obtain ⟨Z, v1, v2, v3⟩ := hv
      obtain ⟨Z1, r3, f1, f2, f3, f4⟩ := pm_892 (L := L) (xs := xs) v1 v2 hk hn h7 w2 w4 fu
      exact ⟨r3, f1, Z1, f2, f3, (v3.trans f4).le (by omega)⟩
    · obtain ⟨Z, v1, v2, v3⟩ := hv
      refine ⟨Z, s, ?_, v1, v2, v3.le (by omega)⟩
      show fL_law_892 L xs (fu + 1) 1 33 (nI n) (nI (pl_moved A q.2)) (nI (pl_moved A q.2)) s = _
      rw [fL_law_892, if_pos (nI_le (Nat.le_refl _) (by omega))]

/-! A BOOK READ: the class's item, all its items. -/
def pl_item (f : Nat → Int32) (L : Nat) (B : pl_A) (p : Nat) : pl_A × (Nat × Nat) :=
  if f p = 32 then (B, (p + 1, 0))
  else if f p = 108 ∧ pl_N B 0 0 0 < 8 then (if (pl_ldq f L p).2.2 = 0 then pl_aL B (pl_ldq f L p).1 else B, (pl_ldq f L p).2)
  else if f p = 107 ∧ pl_N B 0 1 0 < 8 then (if (pl_trkq f L p).2.2 = 0 then pl_aT B (pl_trkq f L p).1.1 (pl_trkq f L p).1.2 else B, (pl_trkq f L p).2)
  else if f p = 117 ∧ pl_N B 0 2 0 < 12 then (if (pl_plq f L (pl_N B 0 1 0) p).2.2 = 0 then pl_aP B (pl_plq f L (pl_N B 0 1 0) p).1.1 (pl_plq f L (pl_N B 0 1 0) p).1.2 else B, (pl_plq f L (pl_N B 0 1 0) p).2)
  else (B, (p, p + 1))
def pl_BW (B : pl_A) : Prop := (pl_N B 0 0 0 ≤ 8 ∧ pl_N B 0 1 0 ≤ 8 ∧ pl_N B 0 2 0 ≤ 12) ∧ pl_Wl B ∧ pl_Wt B ∧ pl_Wp B
theorem pl_fg_ge (f : Nat → Int32) (L a b : Nat) (s : Nat × Nat) : s.1 ≤ (pl_fg f L a b s).2.1 := by
  unfold pl_fg
  split
  · split
    · exact Nat.le_succ _
    · exact Nat.le_refl _
  · exact Nat.le_refl _
theorem pl_sgn_ge (f : Nat → Int32) (L : Nat) (c : Int32) (s : Nat × Nat) : s.1 ≤ (pl_sgn f L c s).1 := by
  unfold pl_sgn
  split
  · split
    · exact Nat.le_succ _
    · exact Nat.le_refl _
  · exact Nat.le_refl _
theorem pl_yrp_ge (f : Nat → Int32) (L : Nat) (s : Nat × Nat) : s.1 ≤ (pl_yrp f L s).2.1 := by
  have h1 := pl_fg_ge f L 0 10 s
  have h2 := pl_fg_ge f L 0 10 (pl_fg f L 0 10 s).2
  unfold pl_yrp
  split
  · exact Nat.le_trans h1 h2
  · exact h1
theorem pl_trq_ge (f : Nat → Int32) (L : Nat) (s : Nat × Nat) : ∀ i, s.1 ≤ (pl_trq f L s i).2.1 := by
  intro i
  induction i with
  | zero => exact Nat.le_refl _
  | succ i ih => exact Nat.le_trans ih (pl_fg_ge f L 1 6 _)
theorem pl_ldq_ok {f : Nat → Int32} {L p : Nat} (hp : p < L) : pl_so2 L (pl_ldq f L p).2 ∧ p < (pl_ldq f L p).2.1 ∧ (pl_ldq f L p).1 0 ≤ 99 ∧ (pl_ldq f L p).1 1 ≤ 99 ∧ (pl_ldq f L p).1 2 ≤ 9 ∧ (pl_ldq f L p).1 3 ≤ 9 ∧ (pl_ldq f L p).1 4 ≤ 9 := by
  obtain ⟨y1, hy1⟩ : ∃ y, y = pl_yrp f L (p + 1, 0) := ⟨_, rfl⟩
  obtain ⟨s2, hs2⟩ : ∃ s, s = pl_sgn f L 45 y1.2 := ⟨_, rfl⟩
  obtain ⟨y2, hy2⟩ : ∃ y, y = pl_yrp f L s2 := ⟨_, rfl⟩
  obtain ⟨s3, hs3⟩ : ∃ s, s = pl_s3q y1.1 y2 := ⟨_, rfl⟩
  obtain ⟨s4, hs4⟩ : ∃ s, s = pl_sgn f L 115 s3 := ⟨_, rfl⟩
  obtain ⟨x, hx⟩ : ∃ x, x = pl_fg f L 1 10 s4 := ⟨_, rfl⟩
  obtain ⟨s5, hs5⟩ : ∃ s, s = pl_sgn f L 116 x.2 := ⟨_, rfl⟩
  obtain ⟨y, hy⟩ : ∃ x, x = pl_fg f L 1 10 s5 := ⟨_, rfl⟩
  obtain ⟨s6, hs6⟩ : ∃ s, s = pl_sgn f L 104 y.2 := ⟨_, rfl⟩
  obtain ⟨z, hz⟩ : ∃ x, x = pl_fg f L 1 10 s6 := ⟨_, rfl⟩
  have hq : pl_ldq f L p = (pl_v5 y1.1 y2.1 x.1 y.1 z.1, z.2) := by
    rw [hz, hs6, hy, hs5, hx, hs4, hs3, hy2, hs2, hy1]; rfl
  have o1 := pl_yrp_ok (f := f) (L := L) (s := (p + 1, 0)) ⟨hp, Nat.zero_le _⟩
  rw [← hy1] at o1
  have o2 := pl_sgn_ok (f := f) (c := 45) o1.1
  rw [← hs2] at o2
  have o3 := pl_yrp_ok (f := f) o2
  rw [← hy2] at o3
  have o3' := pl_s3q_ok (y1 := y1.1) o3.1
  rw [← hs3] at o3'
  have o4 := pl_sgn_ok (f := f) (c := 115) o3'
  rw [← hs4] at o4
  have o5 := pl_fg_ok (f := f) (a := 1) (b := 10) o4 (by decide) (by decide)
  rw [← hx] at o5
  have o6 := pl_sgn_ok (f := f) (c := 116) o5.1
  rw [← hs5] at o6
  have o7 := pl_fg_ok (f := f) (a := 1) (b := 10) o6 (by decide) (by decide)
  rw [← hy] at o7
  have o8 := pl_sgn_ok (f := f) (c := 104) o7.1
  rw [← hs6] at o8
  have o9 := pl_fg_ok (f := f) (a := 1) (b := 10) o8 (by decide) (by decide)
  rw [← hz] at o9
  have g1 : p + 1 ≤ y1.2.1 := by rw [hy1]; exact pl_yrp_ge f L (p + 1, 0)
  have g2 : y1.2.1 ≤ s2.1 := by rw [hs2]; exact pl_sgn_ge f L 45 _
  have g3 : s2.1 ≤ y2.2.1 := by rw [hy2]; exact pl_yrp_ge f L _
  have g4 : y2.2.1 ≤ s3.1 := by
    rw [hs3]
    unfold pl_s3q
    split <;> exact Nat.le_refl _
  have g5 : s3.1 ≤ s4.1 := by rw [hs4]; exact pl_sgn_ge f L 115 _
  have g6 : s4.1 ≤ x.2.1 := by rw [hx]; exact pl_fg_ge f L 1 10 _
  have g7 : x.2.1 ≤ s5.1 := by rw [hs5]; exact pl_sgn_ge f L 116 _
  have g8 : s5.1 ≤ y.2.1 := by rw [hy]; exact pl_fg_ge f L 1 10 _
  have g9 : y.2.1 ≤ s6.1 := by rw [hs6]; exact pl_sgn_ge f L 104 _
  have g10 : s6.1 ≤ z.2.1 := by rw [hz]; exact pl_fg_ge f L 1 10 _
  rw [hq]
  exact ⟨o9.1, by show p < z.2.1; omega, o1.2, o3.2, o5.2, o7.2, o9.2⟩
theorem pl_trkq_ok {f : Nat → Int32} {L p : Nat} (hp : p < L) : pl_so2 L (pl_trkq f L p).2 ∧ p < (pl_trkq f L p).2.1 ∧ (pl_trkq f L p).1.1 ≤ 9999 ∧ (pl_trkq f L p).1.2 ≤ 9 := by
  obtain ⟨q, hq⟩ : ∃ q, q = pl_trq f L (p + 1, 0) 4 := ⟨_, rfl⟩
  obtain ⟨s2, hs2⟩ : ∃ s, s = pl_sgn f L 94 q.2 := ⟨_, rfl⟩
  obtain ⟨z, hz⟩ : ∃ x, x = pl_fg f L 0 10 s2 := ⟨_, rfl⟩
  have hqq : pl_trkq f L p = ((q.1, z.1), z.2) := by rw [hz, hs2, hq]; rfl
  have o1 := pl_trq_ok (f := f) (L := L) (s := (p + 1, 0)) ⟨hp, Nat.zero_le _⟩ 4
  rw [← hq] at o1
  have o2 := pl_sgn_ok (f := f) (c := 94) o1.1
  rw [← hs2] at o2
  have o3 := pl_fg_ok (f := f) (a := 0) (b := 10) o2 (by decide) (by decide)
  rw [← hz] at o3
  have g1 : p + 1 ≤ q.2.1 := by rw [hq]; exact pl_trq_ge f L (p + 1, 0) 4
  have g2 : q.2.1 ≤ s2.1 := by rw [hs2]; exact pl_sgn_ge f L 94 _
  have g3 : s2.1 ≤ z.2.1 := by rw [hz]; exact pl_fg_ge f L 0 10 _
  have h4 := o1.2
  have e4 : 10 ^ 4 = 10000 := by decide
  rw [hqq]
  exact ⟨o3.1, by show p < z.2.1; omega, by show q.1 ≤ 9999; omega, o3.2⟩
theorem pl_plq_ok {f : Nat → Int32} {L p nt : Nat} (hp : p < L) (hnt : nt ≤ 8) : pl_so2 L (pl_plq f L nt p).2 ∧ p < (pl_plq f L nt p).2.1 ∧ ((pl_plq f L nt p).2.2 = 0 → (pl_plq f L nt p).1.1 < nt ∧ (pl_plq f L nt p).1.2 < nt ∧ (pl_plq f L nt p).1.1 ≠ (pl_plq f L nt p).1.2) := by
  obtain ⟨x, hx⟩ : ∃ x, x = pl_fg f L 0 nt (p + 1, 0) := ⟨_, rfl⟩
  obtain ⟨s, hs⟩ : ∃ s, s = pl_sgn f L 47 x.2 := ⟨_, rfl⟩
  obtain ⟨y, hy⟩ : ∃ y, y = pl_fg f L 0 nt s := ⟨_, rfl⟩
  have o1 := pl_fg_ok (f := f) (a := 0) (b := nt) (s := (p + 1, 0)) ⟨hp, Nat.zero_le _⟩ (by decide) (by omega)
  rw [← hx] at o1
  have o2 := pl_sgn_ok (f := f) (c := 47) o1.1
  rw [← hs] at o2
  have o3 := pl_fg_ok (f := f) (a := 0) (b := nt) o2 (by decide) (by omega)
  rw [← hy] at o3
  have e : pl_plq f L nt p = ((x.1, y.1), pl_pq2 x.1 s y) := by rw [hy, hs, hx]; rfl
  rw [e]
  have g1 := pl_fg_ge f L 0 nt (p + 1, 0)
  have g2 := pl_sgn_ge f L 47 x.2
  have g3 := pl_fg_ge f L 0 nt s
  rw [← hx] at g1
  rw [← hs] at g2
  rw [← hy] at g3
  have g4 : y.2.1 ≤ (pl_pq2 x.1 s y).1 := by
    unfold pl_pq2
    split <;> exact Nat.le_refl _
  have g1 : p + 1 ≤ x.2.1 := g1
  refine ⟨pl_pq2_ok o2 o3.1, by show p < (pl_pq2 x.1 s y).1; omega, fun h0 => ?_⟩
  have h0 : (pl_pq2 x.1 s y).2 = 0 := h0
  unfold pl_pq2 at h0
  by_cases cc : y.2.2 = 0 ∧ y.1 = x.1
  · rw [if_pos cc] at h0
    exact absurd h0 (Nat.succ_ne_zero _)
  · rw [if_neg cc] at h0
    have c0y : (pl_fg f L 0 nt s).2.2 = 0 := by rw [← hy]; exact h0
    have hyl := pl_fg_lt (by decide) (by omega) c0y
    rw [← hy] at hyl
    have hs0 : (pl_sgn f L 47 x.2).2 = 0 := by rw [← hs]; exact hyl.1
    have hx0 := (pl_sgn_0 hs0).1
    rw [hx] at hx0
    have hxl := pl_fg_lt (by decide) (by omega) hx0
    rw [← hx] at hxl
    exact ⟨hxl.2.2.1, hyl.2.2.1, fun q => cc ⟨h0, q.symm⟩⟩
theorem pl_item_ok {f : Nat → Int32} {L p : Nat} {B : pl_A} (hp : p < L) (hB : pl_BW B) : pl_BW (pl_item f L B p).1 ∧ pl_so2 L (pl_item f L B p).2 ∧ ((pl_item f L B p).2.2 ≠ 0 ∨ p < (pl_item f L B p).2.1) := by
  obtain ⟨⟨b1, b2, b3⟩, wl, wt, wp⟩ := id hB
  unfold pl_item
  by_cases c1 : f p = 32
  · rw [if_pos c1]
    exact ⟨hB, ⟨hp, Nat.zero_le _⟩, Or.inr (Nat.lt_succ_self p)⟩
  rw [if_neg c1]
  by_cases c2 : f p = 108 ∧ pl_N B 0 0 0 < 8
  · rw [if_pos c2]
    dsimp only
    obtain ⟨o1, o2, v0, v1, v2, v3, v4⟩ := pl_ldq_ok (f := f) hp
    refine ⟨?_, o1, Or.inr o2⟩
    by_cases c0 : (pl_ldq f L p).2.2 = 0
    · rw [if_pos c0]
      refine ⟨⟨c2.2, b2, b3⟩, fun l hl => ?_, wt, wp⟩
      have hl : l < pl_N B 0 0 0 + 1 := hl
      have nk := pl_aL_1 B (pl_ldq f L p).1 l
      rw [nk, nk, nk, nk, nk]
      by_cases hlc : l = pl_N B 0 0 0
      · rw [if_pos hlc, if_pos hlc, if_pos hlc, if_pos hlc, if_pos hlc]
        exact ⟨v0, v1, v2, v3, v4⟩
      · rw [if_neg hlc, if_neg hlc, if_neg hlc, if_neg hlc, if_neg hlc]
        exact wl l (by omega)
    · rw [if_neg c0]; exact hB
  rw [if_neg c2]
  by_cases c3 : f p = 107 ∧ pl_N B 0 1 0 < 8
  · rw [if_pos c3]
    dsimp only
    obtain ⟨o1, o2, v0, v1⟩ := pl_trkq_ok (f := f) hp
    refine ⟨?_, o1, Or.inr o2⟩
    by_cases c0 : (pl_trkq f L p).2.2 = 0
    · rw [if_pos c0]
      refine ⟨⟨b1, c3.2, b3⟩, wl, fun l hl => ?_, fun k hk => ?_⟩
      · have hl : l < pl_N B 0 1 0 + 1 := hl
        have nk := pl_aT_2 B (pl_trkq f L p).1.1 (pl_trkq f L p).1.2 l
        rw [nk, nk]
        by_cases hlc : l = pl_N B 0 1 0
        · rw [if_pos hlc, if_pos hlc]
          exact ⟨v0, v1⟩
        · rw [if_neg hlc, if_neg hlc]
          exact wt l (by omega)
      · obtain ⟨p1, p2, p3⟩ := wp k hk
        exact ⟨Nat.lt_succ_of_lt p1, Nat.lt_succ_of_lt p2, p3⟩
    · rw [if_neg c0]; exact hB
  rw [if_neg c3]
  by_cases c4 : f p = 117 ∧ pl_N B 0 2 0 < 12
  · rw [if_pos c4]
    dsimp only
    obtain ⟨o1, o2, v0⟩ := pl_plq_ok (f := f) hp b2
    refine ⟨?_, o1, Or.inr o2⟩
    by_cases c0 : (pl_plq f L (pl_N B 0 1 0) p).2.2 = 0
    · rw [if_pos c0]
      refine ⟨⟨b1, b2, c4.2⟩, wl, wt, fun l hl => ?_⟩
      have hl : l < pl_N B 0 2 0 + 1 := hl
      have nk := pl_aP_3 B (pl_plq f L (pl_N B 0 1 0) p).1.1 (pl_plq f L (pl_N B 0 1 0) p).1.2 l
      rw [nk, nk]
      by_cases hlc : l = pl_N B 0 2 0
      · rw [if_pos hlc, if_pos hlc]
        exact v0 c0
      · rw [if_neg hlc, if_neg hlc]
        exact wp l (by omega)
    · rw [if_neg c0]; exact hB
  rw [if_neg c4]
  exact ⟨hB, ⟨Nat.le_of_lt hp, Nat.succ_le_succ (Nat.le_of_lt hp)⟩, Or.inl (Nat.succ_ne_zero _)⟩
theorem pl_itemC {m : ml_M} {b : Nat} {B : pl_A} {f : Nat → Int32} {L : Nat} {Z : ml_M} {p : Nat} (h : pl_BK m b B f L Z (p, 0)) (hp : p < L) (hB : pl_BW B) : ∃ Z', fX1_readItem b (f p) Z = some Z' ∧ pl_BK m b (pl_item f L B p).1 f L Z' (pl_item f L B p).2 := by
  obtain ⟨⟨b1, b2, b3⟩, wl, wt, wp⟩ := id hB
  have k1 : ml_K Z b = (1, 0) := h.2.1.1
  have k10 : (ml_K Z b).1 = 1 := by rw [k1]
  have hZ := h.eq
  obtain ⟨g, hg⟩ : ∃ g, g = ml_I Z b := ⟨_, rfl⟩
  rw [← hg] at hZ
  have hL := h.2.1.2.2.2.2.1
  have i7 : ml_I Z b 7 = nI p := by rw [← h.2.2.2.2.1.2.2.2.2, pl_bs_7]
  obtain ⟨e1, e2, e3, -, -⟩ := h.2.2.2.2.1
  have e7 : ml_sI Z b 7 (nI (p + 1)) = pl_wI Z b (pl_bs g (p + 1, 0)) := by
    have h1 : pl_wI Z b (pl_bs g (p + 1, 0)) = ml_sI (pl_wI Z b (pl_bs g (p, 0))) b 7 (nI (p + 1)) := by
      rw [pl_wI_sI, pl_up_0, pl_bs_w7]
    rw [h1, hZ]
  have e4 : ml_sI Z b 4 (nI p) = pl_wI Z b (pl_bs g (p, p + 1)) := by
    have h1 : pl_wI Z b (pl_bs g (p, p + 1)) = ml_sI (pl_wI Z b (pl_bs g (p, 0))) b 4 (nI p) := by
      rw [pl_wI_sI, pl_up_0, pl_bs_w4]
    rw [h1, hZ]
  have hend : fX1_readItem_85 b Z = some (pl_wI Z b (pl_bs g (p, p + 1))) := by
    unfold fX1_readItem_85
    rw [if_pos k10, i7, pl_let, e4]
  have e8 : (8 : Int32) = nI 8 := rfl
  have e12 : (12 : Int32) = nI 12 := rfl
  have h63 : ∀ c, (c = 117 → pl_N B 0 2 0 < 12 → False) → fX1_readItem_63 b c Z = some (pl_wI Z b (pl_bs g (p, p + 1))) := fun c hc => by
    unfold fX1_readItem_63
    by_cases h1 : c = 117
    · rw [if_pos h1, if_pos k10, e3, e12, if_pos (by rw [nI_leI (by omega) (by omega)]; exact Nat.le_of_not_lt fun q => hc h1 q), hend]
    · rw [if_neg h1, hend]
  have h41 : ∀ c, (c = 107 → pl_N B 0 1 0 < 8 → False) → fX1_readItem_41 b c Z = fX1_readItem_63 b c Z := fun c hc => by
    unfold fX1_readItem_41
    by_cases h1 : c = 107
    · rw [if_pos h1, if_pos k10, e2, e8, if_pos (by rw [nI_leI (by omega) (by omega)]; exact Nat.le_of_not_lt fun q => hc h1 q)]
    · rw [if_neg h1]
  have h0 : ∀ c, c ≠ 32 → (c = 108 → pl_N B 0 0 0 < 8 → False) → fX1_readItem b c Z = fX1_readItem_41 b c Z := fun c hc hc2 => by
    unfold fX1_readItem
    rw [if_neg hc]
    by_cases h1 : c = 108
    · rw [if_pos h1, if_pos k10, e1, e8, if_pos (by rw [nI_leI (by omega) (by omega)]; exact Nat.le_of_not_lt fun q => hc2 h1 q)]
    · rw [if_neg h1]
  unfold pl_item
  by_cases c1 : f p = 32
  · rw [if_pos c1, c1]
    refine ⟨pl_wI Z b (pl_bs g (p + 1, 0)), ?_, ?_⟩
    · unfold fX1_readItem
      rw [if_pos rfl, if_pos k10, i7, nI_1, e7, pl_let]
    · rw [hg]; exact h.go ⟨hp, Nat.zero_le _⟩
  rw [if_neg c1]
  by_cases c2 : f p = 108 ∧ pl_N B 0 0 0 < 8
  · rw [if_pos c2]
    dsimp only
    obtain ⟨Z', z1, z2⟩ := pl_ldC h hp c2.2
    refine ⟨Z', ?_, z2⟩
    unfold fX1_readItem
    rw [if_neg c1, if_pos c2.1, if_pos k10, e1, e8, if_neg (by rw [nI_leI (by omega) (by omega)]; omega), z1, pl_b1]
  rw [if_neg c2]
  by_cases c3 : f p = 107 ∧ pl_N B 0 1 0 < 8
  · rw [if_pos c3]
    dsimp only
    obtain ⟨Z', z1, z2⟩ := pl_trkC h hp c3.2 wp
    refine ⟨Z', ?_, z2⟩
    rw [h0 _ c1 fun q1 q2 => c2 ⟨q1, q2⟩]
    unfold fX1_readItem_41
    rw [if_pos c3.1, if_pos k10, e2, e8, if_neg (by rw [nI_leI (by omega) (by omega)]; omega), z1, pl_b1]
  rw [if_neg c3]
  by_cases c4 : f p = 117 ∧ pl_N B 0 2 0 < 12
  · rw [if_pos c4]
    dsimp only
    obtain ⟨Z', z1, z2⟩ := pl_plC h hp b2 c4.2
    refine ⟨Z', ?_, z2⟩
    rw [h0 _ c1 fun q1 q2 => c2 ⟨q1, q2⟩, h41 _ fun q1 q2 => c3 ⟨q1, q2⟩]
    unfold fX1_readItem_63
    rw [if_pos c4.1, if_pos k10, e3, e12, if_neg (by rw [nI_leI (by omega) (by omega)]; omega), z1, pl_b1]
  rw [if_neg c4]
  refine ⟨pl_wI Z b (pl_bs g (p, p + 1)), ?_, ?_⟩
  · rw [h0 _ c1 fun q1 q2 => c2 ⟨q1, q2⟩, h41 _ fun q1 q2 => c3 ⟨q1, q2⟩, h63 _ fun q1 q2 => c4 ⟨q1, q2⟩]
  · rw [hg]; exact h.go ⟨Nat.le_of_lt hp, Nat.succ_le_succ (Nat.le_of_lt hp)⟩
def pl_rdb (f : Nat → Int32) (L : Nat) (B : pl_A) : Nat → pl_A × (Nat × Nat)
  | 0 => (B, (0, 0))
  | i + 1 => if (pl_rdb f L B i).2.2 = 0 ∧ (pl_rdb f L B i).2.1 < L then pl_item f L (pl_rdb f L B i).1 (pl_rdb f L B i).2.1 else pl_rdb f L B i
theorem pl_rdb1 (f : Nat → Int32) (L : Nat) (B : pl_A) (i : Nat) : pl_rdb f L B (i + 1) = if (pl_rdb f L B i).2.2 = 0 ∧ (pl_rdb f L B i).2.1 < L then pl_item f L (pl_rdb f L B i).1 (pl_rdb f L B i).2.1 else pl_rdb f L B i := rfl
theorem pl_rdb_ok {f : Nat → Int32} {L : Nat} {B : pl_A} (hB : pl_BW B) : ∀ i, pl_BW (pl_rdb f L B i).1 ∧ pl_so2 L (pl_rdb f L B i).2 ∧ ((pl_rdb f L B i).2.2 ≠ 0 ∨ i ≤ (pl_rdb f L B i).2.1 ∨ L ≤ (pl_rdb f L B i).2.1) := by
  intro i
  induction i with
  | zero => exact ⟨hB, ⟨Nat.zero_le _, Nat.zero_le _⟩, Or.inr (Or.inl (Nat.le_refl _))⟩
  | succ i ih =>
    rw [pl_rdb1]
    by_cases c : (pl_rdb f L B i).2.2 = 0 ∧ (pl_rdb f L B i).2.1 < L
    · rw [if_pos c]
      obtain ⟨o1, o2, o3⟩ := pl_item_ok (f := f) c.2 ih.1
      refine ⟨o1, o2, ?_⟩
      rcases o3 with h | h
      · exact Or.inl h
      · rcases ih.2.2 with h2 | h2 | h2
        · exact absurd c.1 h2
        · exact Or.inr (Or.inl (by omega))
        · exact absurd c.2 (by omega)
    · rw [if_neg c]
      refine ⟨ih.1, ih.2.1, ?_⟩
      rcases ih.2.2 with h2 | h2 | h2
      · exact Or.inl h2
      · by_cases h0 : (pl_rdb f L B i).2.2 = 0
        · exact Or.inr (Or.inr (Nat.le_of_not_lt fun q => c ⟨h0, q⟩))
        · exact Or.inl h0
      · exact Or.inr (Or.inr h2)
theorem pl_readC {m : ml_M} {b : Nat} {B : pl_A} {f : Nat → Int32} {L : Nat} {Z : ml_M} (h : pl_BK m b B f L Z (0, 0)) (hB : pl_BW B) : ∃ Z', fX1_read b Z = some Z' ∧ pl_BK m b (pl_rdb f L B L).1 f L Z' (pl_rdb f L B L).2 := by
  have hL := h.2.1.2.2.2.2.1
  have hmain : ∀ k i Z fu, i + k = L → k < fu → pl_BK m b (pl_rdb f L B i).1 f L Z (pl_rdb f L B i).2 → ∃ Z', fX1_read_2 fu b (nI i) Z = some Z' ∧ pl_BK m b (pl_rdb f L B L).1 f L Z' (pl_rdb f L B L).2 := by
    intro k
    induction k with
    | zero =>
      intro i Z fu hi hfu hZ
      obtain ⟨fu, rfl⟩ : ∃ q, fu = q + 1 := ⟨fu - 1, by omega⟩
      rw [Nat.add_zero] at hi
      subst hi
      refine ⟨Z, ?_, hZ⟩
      obtain ⟨q1, q2, q3, -⟩ := hZ.2.1
      rw [fX1_read_2, if_pos (by rw [q1]), pl_let, if_pos (by rw [q3]), q3, pl_ofN, if_pos (by rw [nI_leI (by omega) (by omega)]; exact Nat.le_refl _)]
    | succ k ih =>
      intro i Z fu hi hfu hZ
      obtain ⟨fu, rfl⟩ : ∃ q, fu = q + 1 := ⟨fu - 1, by omega⟩
      obtain ⟨q1, q2, q3, q4, q5, q6⟩ := hZ.2.1
      obtain ⟨o1, o2, o3⟩ := pl_rdb_ok (f := f) (L := L) hB i
      obtain ⟨s, hs⟩ : ∃ s, s = (pl_rdb f L B i).2 := ⟨_, rfl⟩
      have i4 : ml_I Z b 4 = pl_e4 s.2 := by rw [← hZ.2.2.2.2.1.2.2.2.2, pl_bs_4, hs]
      have i7 : ml_I Z b 7 = nI s.1 := by rw [← hZ.2.2.2.2.1.2.2.2.2, pl_bs_7, hs]
      rw [← hs] at o2 o3
      have o21 := o2.1
      have o22 := o2.2
      have he4 := pl_e4_n (e := s.2) (by omega)
      have hgo : ∀ Z', pl_BK m b (pl_rdb f L B (i + 1)).1 f L Z' (pl_rdb f L B (i + 1)).2 → fX1_read_2 (fu + 1) b (nI i) Z = fX1_read_2 fu b (nI (i + 1)) Z' → ∃ Z', fX1_read_2 (fu + 1) b (nI i) Z = some Z' ∧ pl_BK m b (pl_rdb f L B L).1 f L Z' (pl_rdb f L B L).2 := fun Z' h1 h2 => by
        rw [h2]
        exact ih (i + 1) Z' fu (by omega) (by omega) h1
      have hb : fX1_read_2 (fu + 1) b (nI i) Z = if ml_I Z b 4 = -9 then (if nI L ≤ ml_I Z b 7 then fX1_read_2 fu b (nI (i + 1)) Z else if ml_in Z (ml_R Z b 6) 21 (ml_I Z b 7) then ml_b1 (fX1_readItem b (ml_I Z (ml_R Z b 6) (ml_I Z b 7).toNatClampNeg) Z) fun m1040 => fX1_read_2 fu b (nI (i + 1)) m1040 else none) else fX1_read_2 fu b (nI (i + 1)) Z := by
        have q30 : (ml_K Z (ml_R Z b 6)).1 = 21 := by rw [q3]
        have q31 : Int32.ofNat (ml_K Z (ml_R Z b 6)).2 = nI L := by rw [q3, pl_ofN]
        rw [fX1_read_2, if_pos (by rw [q1]), pl_let, if_pos q30, q31, if_neg (by rw [nI_leI (by omega) (by omega)]; omega), pl_let, if_pos q30, q31, pl_let]
        unfold fX1_read_45
        rw [nI_1]
      rw [i4, i7] at hb
      by_cases c : s.2 = 0 ∧ s.1 < L
      · have hbk : pl_BK m b (pl_rdb f L B i).1 f L Z (s.1, 0) := by
          have : (s.1, 0) = s := by rw [← c.1]
          rw [this, hs]; exact hZ
        obtain ⟨Z', z1, z2⟩ := pl_itemC hbk c.2 o1
        refine hgo Z' ?_ ?_
        · rw [pl_rdb1, ← hs, if_pos c]; exact z2
        · rw [hb, if_pos (by rw [c.1]; rfl), if_neg (by rw [nI_leI (by omega) (by omega)]; omega), if_pos (by rw [pl_in (by omega), q3]; exact ⟨rfl, c.2⟩), nI_clamp (by omega), q4 _ c.2, z1, pl_b1]
      · refine hgo Z ?_ ?_
        · rw [pl_rdb1, ← hs, if_neg c]; exact hZ
        · rw [hb]
          by_cases c0 : s.2 = 0
          · rw [if_pos (by rw [c0]; rfl), if_pos (by rw [nI_leI (by omega) (by omega)]; exact Nat.le_of_not_lt fun q => c ⟨c0, q⟩)]
          · rw [if_neg (by rw [he4]; exact c0)]
  exact hmain L 0 Z ml_fu (by omega) (by rw [pl_fu]; omega) h

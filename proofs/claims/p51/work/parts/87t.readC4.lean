/-! A BOOK READ: the class's pile, its item, all its items. -/
def pl_pq2 (x1 : Nat) (s1 : Nat × Nat) (y : Nat × (Nat × Nat)) : Nat × Nat := if y.2.2 = 0 ∧ y.1 = x1 then (y.2.1, s1.1 + 1) else y.2
def pl_plq (f : Nat → Int32) (L nt p : Nat) : (Nat × Nat) × (Nat × Nat) :=
  let x := pl_fg f L 0 nt (p + 1, 0)
  let s := pl_sgn f L 47 x.2
  let y := pl_fg f L 0 nt s
  ((x.1, y.1), pl_pq2 x.1 s y)
theorem pl_fg_lt {f : Nat → Int32} {L a b : Nat} {s : Nat × Nat} (ha : a ≤ 10) (hb : b ≤ 10) (h : (pl_fg f L a b s).2.2 = 0) : s.2 = 0 ∧ a ≤ (pl_fg f L a b s).1 ∧ (pl_fg f L a b s).1 < b ∧ s.1 < L ∧ (pl_fg f L a b s).2.1 = s.1 + 1 ∧ pl_fgv f L a b s.1 = true ∧ (pl_fg f L a b s).1 = pl_fn f s.1 := by
  unfold pl_fg at h ⊢
  by_cases h0 : s.2 = 0
  · rw [if_pos h0] at h ⊢
    by_cases hv : pl_fgv f L a b s.1 = true
    · obtain ⟨v1, v2, v3, v4, v5⟩ := pl_fgv_n hv ha hb
      rw [if_pos hv]
      exact ⟨h0, v3, v4, v1, rfl, hv, rfl⟩
    · rw [if_neg hv] at h
      exact absurd h (Nat.succ_ne_zero _)
  · rw [if_neg h0] at h
    exact absurd h h0
theorem pl_sgn_0 {f : Nat → Int32} {L : Nat} {c : Int32} {s : Nat × Nat} (h : (pl_sgn f L c s).2 = 0) : s.2 = 0 ∧ s.1 < L ∧ f s.1 = c ∧ (pl_sgn f L c s).1 = s.1 + 1 := by
  unfold pl_sgn at h ⊢
  by_cases h0 : s.2 = 0
  · rw [if_pos h0] at h ⊢
    by_cases hv : s.1 < L ∧ f s.1 = c
    · rw [if_pos hv]; exact ⟨h0, hv.1, hv.2, rfl⟩
    · rw [if_neg hv] at h
      exact absurd h (Nat.succ_ne_zero _)
  · rw [if_neg h0] at h
    exact absurd h h0
theorem pl_pq2_ok {L x1 : Nat} {s1 : Nat × Nat} {y : Nat × (Nat × Nat)} (h1 : pl_so2 L s1) (h : pl_so2 L y.2) : pl_so2 L (pl_pq2 x1 s1 y) := by
  unfold pl_pq2
  by_cases c : y.2.2 = 0 ∧ y.1 = x1
  · rw [if_pos c]; exact ⟨h.1, Nat.succ_le_succ h1.1⟩
  · rw [if_neg c]; exact h
theorem pl_ors_eq {f g : Nat → Nat} {n : Nat} (h : ∀ k, k < n → f k = g k) : pl_ors f n = pl_ors g n := by
  induction n with
  | zero => rfl
  | succ n ih => rw [pl_ors1, pl_ors1, ih fun k hk => h k (by omega), h n (Nat.lt_succ_self n)]
theorem pl_aP_3 (B : pl_A) (a h : Nat) (t k : Nat) : pl_N (pl_aP B a h) 3 t k = if t = pl_N B 0 2 0 then (if k = 0 then a else h) else pl_N B 3 t k := by
  have e : pl_N (pl_aP B a h) 3 t k = if 3 = 0 ∧ t = 2 ∧ k = 0 then B.1 0 2 0 + 1 else if 3 = 3 ∧ t = B.1 0 2 0 then (if k = 0 then a else h) else B.1 3 t k := rfl
  rw [e, if_neg (show ¬ (3 = 0 ∧ t = 2 ∧ k = 0) by omega)]
  by_cases hlc : t = pl_N B 0 2 0
  · rw [if_pos hlc]; exact if_pos ⟨rfl, hlc⟩
  · rw [if_neg hlc]; exact if_neg (fun z => hlc z.2)
theorem pl_aP_bits (B : pl_A) (i j t : Nat) : pl_abv (pl_aP B i j) t = pl_abv B t ||| (if i = t then 2 ^ j else 0) ∧ pl_blw (pl_aP B i j) t = pl_blw B t ||| (if j = t then 2 ^ i else 0) := by
  have n2 : pl_N (pl_aP B i j) 0 2 0 = pl_N B 0 2 0 + 1 := rfl
  have hk0 : ∀ k, k < pl_N B 0 2 0 → ∀ c, pl_N (pl_aP B i j) 3 k c = pl_N B 3 k c := fun k hk c => by rw [pl_aP_3, if_neg (by omega)]
  have hn0 : pl_N (pl_aP B i j) 3 (pl_N B 0 2 0) 0 = i := by rw [pl_aP_3, if_pos rfl, if_pos rfl]
  have hn1 : pl_N (pl_aP B i j) 3 (pl_N B 0 2 0) 1 = j := by rw [pl_aP_3, if_pos rfl, if_neg (by decide)]
  constructor
  · unfold pl_abv
    rw [n2, pl_ors1]
    have e1 : pl_ors (fun k => if pl_N (pl_aP B i j) 3 k 0 = t then 2 ^ pl_N (pl_aP B i j) 3 k 1 else 0) (pl_N B 0 2 0) = pl_ors (fun k => if pl_N B 3 k 0 = t then 2 ^ pl_N B 3 k 1 else 0) (pl_N B 0 2 0) := pl_ors_eq fun k hk => by
      rw [hk0 k hk, hk0 k hk]
    rw [e1, hn0, hn1]
  · unfold pl_blw
    rw [n2, pl_ors1]
    have e1 : pl_ors (fun k => if pl_N (pl_aP B i j) 3 k 1 = t then 2 ^ pl_N (pl_aP B i j) 3 k 0 else 0) (pl_N B 0 2 0) = pl_ors (fun k => if pl_N B 3 k 1 = t then 2 ^ pl_N B 3 k 0 else 0) (pl_N B 0 2 0) := pl_ors_eq fun k hk => by
      rw [hk0 k hk, hk0 k hk]
    rw [e1, hn0, hn1]
theorem pl_plC {m : ml_M} {b : Nat} {B : pl_A} {f : Nat → Int32} {L : Nat} {Z : ml_M} {p : Nat} (h : pl_BK m b B f L Z (p, 0)) (hp : p < L) (hnt : pl_N B 0 1 0 ≤ 8) (hnp : pl_N B 0 2 0 < 12) : ∃ Z', fX1_readStanding b Z = some Z' ∧ pl_BK m b (if (pl_plq f L (pl_N B 0 1 0) p).2.2 = 0 then pl_aP B (pl_plq f L (pl_N B 0 1 0) p).1.1 (pl_plq f L (pl_N B 0 1 0) p).1.2 else B) f L Z' (pl_plq f L (pl_N B 0 1 0) p).2 := by
  have hbz := h.2.1
  have hZ := h.eq
  obtain ⟨g, hg⟩ : ∃ g, g = ml_I Z b := ⟨_, rfl⟩
  have hg3 : g 3 = nI (pl_N B 0 1 0) := by rw [hg]; exact h.2.2.2.2.1.2.1
  rw [← hg] at hZ
  have k1 : ml_K Z b = (1, 0) := hbz.1
  have hp0 : pl_so2 L (p + 1, 0) := ⟨hp, Nat.zero_le _⟩
  obtain ⟨nt, hntt⟩ : ∃ nt, nt = pl_N B 0 1 0 := ⟨_, rfl⟩
  rw [← hntt] at hg3 hnt ⊢
  obtain ⟨x, hx⟩ : ∃ x, x = pl_fg f L 0 nt (p + 1, 0) := ⟨_, rfl⟩
  have o1 := pl_fg_ok (f := f) (a := 0) (b := nt) hp0 (by decide) (by omega)
  have r1 := pl_figC hbz (a := 0) (c := nt) (by decide) (by omega) g hp0
  rw [← hx] at o1 r1
  obtain ⟨s2, hs2⟩ : ∃ s, s = pl_sgn f L 47 x.2 := ⟨_, rfl⟩
  have o2 := pl_sgn_ok (f := f) (c := 47) o1.1
  have r2 := pl_sgnC hbz 47 g o1.1
  rw [← hs2] at o2 r2
  obtain ⟨y, hy⟩ : ∃ x, x = pl_fg f L 0 nt s2 := ⟨_, rfl⟩
  have o3 := pl_fg_ok (f := f) (a := 0) (b := nt) o2 (by decide) (by omega)
  have r3 := pl_figC hbz (a := 0) (c := nt) (by decide) (by omega) g o2
  rw [← hy] at o3 r3
  obtain ⟨z, hz⟩ : ∃ z, z = pl_pq2 x.1 s2 y := ⟨_, rfl⟩
  have o9 : pl_so2 L z := by rw [hz]; exact pl_pq2_ok o2 o3.1
  have hqq : pl_plq f L nt p = ((x.1, y.1), z) := by
    rw [hz, hy, hs2, hx]; rfl
  rw [hqq]
  have e0 : nI 0 = (0 : Int32) := rfl
  rw [e0] at r1 r3
  have e7 : ml_sI Z b 7 (nI (p + 1)) = pl_wI Z b (pl_bs g (p + 1, 0)) := by
    have h1 : pl_wI Z b (pl_bs g (p + 1, 0)) = ml_sI (pl_wI Z b (pl_bs g (p, 0))) b 7 (nI (p + 1)) := by
      rw [pl_wI_sI, pl_up_0, pl_bs_w7]
    rw [h1, hZ]
  have i7 : ml_I Z b 7 = nI p := by
    rw [← h.2.2.2.2.1.2.2.2.2, pl_bs_7]
  have iB : ∀ g, ml_I (pl_wI Z b g) b = g := fun g => by rw [pl_I_wI, if_pos rfl]
  have kW : ∀ g', (ml_K (pl_wI Z b g') b).1 = 1 := fun g' => by rw [pl_K_wI, k1]
  have b3 : ∀ s, pl_bs g s 3 = nI nt := fun s => by rw [pl_bs_o _ _ (by decide), hg3]
  have hL := hbz.2.2.2.2.1
  obtain ⟨D, hD⟩ : ∃ D : Option ml_M, D = fX1_readStanding_64 b (nI x.1) (nI y.1) (pl_wI Z b (pl_bs g z)) := ⟨_, rfl⟩
  have hhead : fX1_readStanding b Z = D := by
    have he4 := pl_e4_n (e := y.2.2) (by have := o3.1.2; omega)
    have b4 : pl_bs g y.2 4 = pl_e4 y.2.2 := pl_bs_4 _ _
    rw [hD]
    unfold fX1_readStanding
    rw [if_pos (by rw [k1]), i7, nI_1, e7, pl_let, iB, b3, r1, pl_b2, if_pos (kW _), r2, pl_b1, if_pos (kW _), iB, b3, pl_bs_7, pl_let, r3, pl_b2, if_pos (kW _), iB, b4]
    by_cases c0 : y.2.2 = 0
    · rw [if_pos (by rw [c0]; rfl)]
      by_cases cl : y.1 = x.1
      · have hz' : z = (y.2.1, s2.1 + 1) := by rw [hz]; unfold pl_pq2; rw [if_pos ⟨c0, cl⟩]
        have hw4 : pl_up (pl_bs g y.2) 4 (nI s2.1) = pl_bs g (y.2.1, s2.1 + 1) := by
          have : y.2 = (y.2.1, 0) := by rw [← c0]
          rw [this]; exact pl_bs_w4 g _ _
        rw [if_pos (by rw [cl]), pl_let, pl_wI_sI, pl_up_0, hw4, hz']
      · have hz' : z = y.2 := by rw [hz]; unfold pl_pq2; rw [if_neg (fun q => cl q.2)]
        rw [if_neg (by rw [nI_eq (by omega) (by omega)]; exact cl), hz']
    · have hz' : z = y.2 := by rw [hz]; unfold pl_pq2; rw [if_neg (fun q => c0 q.1)]
      rw [if_neg (by rw [he4]; exact c0), hz']
  have hgo := h.go o9
  rw [← hg] at hgo
  obtain ⟨Y, hY⟩ : ∃ Y, Y = pl_wI Z b (pl_bs g z) := ⟨_, rfl⟩
  rw [← hY] at hgo hD
  obtain ⟨⟨a1, a2, a3, a4, a5, a6⟩, ⟨z1, z2, z3, z4, z5, z6⟩, ⟨c1, c2, c3, c4⟩, ⟨d1, d2, d3⟩, ⟨e1', e2', e3', e4', e5'⟩, hl, ht, hu⟩ := hgo
  have he4 := pl_e4_n (e := z.2) (by have := o9.2; omega)
  have b4 : ml_I Y b 4 = pl_e4 z.2 := by rw [← e5', pl_bs_4]
  have kY1 : (ml_K Y b).1 = 1 := by rw [z1]
  by_cases c0 : z.2 = 0
  · have b4' : ml_I Y b 4 = -9 := by rw [b4, c0]; rfl
    rw [if_pos c0]
    -- both are trunks told ahead, unlike
    have hz' : z = y.2 ∧ y.1 ≠ x.1 := by
      rw [hz] at c0 ⊢
      unfold pl_pq2 at c0 ⊢
      by_cases cc : y.2.2 = 0 ∧ y.1 = x.1
      · rw [if_pos cc] at c0
        exact absurd c0 (Nat.succ_ne_zero _)
      · rw [if_neg cc] at c0 ⊢
        exact ⟨rfl, fun q => cc ⟨c0, q⟩⟩
    have c0y : (pl_fg f L 0 nt s2).2.2 = 0 := by rw [← hy, ← hz'.1]; exact c0
    have hyl := pl_fg_lt (by decide) (by omega) c0y
    rw [← hy] at hyl
    have hs20 : (pl_sgn f L 47 x.2).2 = 0 := by rw [← hs2]; exact hyl.1
    have hx0 := (pl_sgn_0 hs20).1
    rw [hx] at hx0
    have hxl := pl_fg_lt (by decide) (by omega) hx0
    rw [← hx] at hxl
    obtain ⟨i, hi⟩ : ∃ i, i = x.1 := ⟨_, rfl⟩
    obtain ⟨j, hj⟩ : ∃ j, j = y.1 := ⟨_, rfl⟩
    have hin : i < nt := by rw [hi]; exact hxl.2.2.1
    have hjn : j < nt := by rw [hj]; exact hyl.2.2.1
    have hij : j ≠ i := by rw [hi, hj]; exact hz'.2
    rw [← hi, ← hj] at hD
    show ∃ Z', fX1_readStanding b Z = some Z' ∧ pl_BK m b (pl_aP B x.1 y.1) f L Z' z
    rw [← hi, ← hj]
    obtain ⟨u, hu'⟩ : ∃ u, u = ml_R Y (b + 2) i := ⟨_, rfl⟩
    obtain ⟨v, hv'⟩ : ∃ v, v = ml_R Y (b + 2) j := ⟨_, rfl⟩
    obtain ⟨i1, i2, i3, i4, i5, i6⟩ := ht i (by omega)
    obtain ⟨j1, j2, j3, j4, j5, j6⟩ := ht j (by omega)
    rw [← hu'] at i1 i2 i3 i4 i5 i6
    rw [← hv'] at j1 j2 j3 j4 j5 j6
    have huv : u ≠ v := fun q => hij (hu j i (by omega) (by omega) (by rw [← hu', ← hv', q]))
    obtain ⟨W, hW⟩ : ∃ W, W = ml_sI (ml_sI (ml_sI Y b 5 (nI (pl_N B 0 2 0 + 1))) u 2 (nI (pl_abv B i ||| 2 ^ j))) v 3 (nI (pl_blw B j ||| 2 ^ i)) := ⟨_, rfl⟩
    have hDW : D = some W := by
      have s1 : (1 : Int32) <<< (nI j &&& 31) = nI (2 ^ j) := pl_shl1 (by omega)
      have s2' : (1 : Int32) <<< (nI i &&& 31) = nI (2 ^ i) := pl_shl1 (by omega)
      have q1 : ml_I (ml_sI Y b 5 (nI (pl_N B 0 2 0 + 1))) u 2 = nI (pl_abv B i) := by rw [pl_I_sI, if_neg (by omega), i5]
      have q2 : ml_I (ml_sI (ml_sI Y b 5 (nI (pl_N B 0 2 0 + 1))) u 2 (nI (pl_abv B i ||| 2 ^ j))) v 3 = nI (pl_blw B j) := by rw [pl_I_sI, if_neg (by omega), pl_I_sI, if_neg (by omega), j6]
      rw [hD, hW]
      unfold fX1_readStanding_64
      rw [if_pos kY1, if_pos b4', e3', nI_1]
      simp (disch := omega) only [↓pl_let, pl_b1, pl_b2, ↓reduceIte, pl_R_sI, c2, pl_in, nI_clamp, pl_K_sI, c4, show i < 8 by omega, show j < 8 by omega, and_self, if_true, ← hu', ← hv', i2, j2, q1, s1, pl_or, q2, s2']
    refine ⟨W, by rw [hhead, hDW], ?_⟩
    have nW : ml_n W = ml_n Y := by rw [hW]; rfl
    have sW : ml_s W = ml_s Y := by rw [hW]; rfl
    have JW : ml_J W = ml_J Y := by rw [hW]; rfl
    have KW : ml_K W = ml_K Y := by rw [hW]; rfl
    have RW : ml_R W = ml_R Y := by rw [hW]; rfl
    have IW : ∀ t k, ml_I W t k = if t = v ∧ k = 3 then nI (pl_blw B j ||| 2 ^ i) else if t = u ∧ k = 2 then nI (pl_abv B i ||| 2 ^ j) else if t = b ∧ k = 5 then nI (pl_N B 0 2 0 + 1) else ml_I Y t k := fun t k => by
      rw [hW, pl_I_sI, pl_I_sI, pl_I_sI]
    have n0 : pl_N (pl_aP B i j) 0 0 0 = pl_N B 0 0 0 := rfl
    have n1 : pl_N (pl_aP B i j) 0 1 0 = pl_N B 0 1 0 := rfl
    have n2 : pl_N (pl_aP B i j) 0 2 0 = pl_N B 0 2 0 + 1 := rfl
    have nl1 : ∀ l k, pl_N (pl_aP B i j) 1 l k = pl_N B 1 l k := fun l k => rfl
    have nt1 : ∀ l k, pl_N (pl_aP B i j) 2 l k = pl_N B 2 l k := fun l k => rfl
    have hex : ∀ t, t ≤ ml_n m → ml_I W t = ml_I Y t := fun t htm => by
      funext k; rw [IW, if_neg (by omega), if_neg (by omega), if_neg (by omega)]
    refine ⟨⟨⟨by rw [nW]; exact a1.1, fun t htm => by rw [KW]; exact a1.2.1 t htm, fun t htm hn => ⟨by rw [hex t htm]; exact (a1.2.2 t htm hn).1, by rw [RW]; exact (a1.2.2 t htm hn).2⟩⟩, fun t h1 h2 => ⟨by rw [hex t (by omega)]; exact (a2 t h1 h2).1, by rw [JW]; exact (a2 t h1 h2).2⟩, by rw [JW]; exact a3, a4, a5, by rw [RW]; exact a6⟩, ⟨by rw [KW]; exact z1, by rw [RW]; exact z2, by rw [RW, KW]; exact z3, fun k hk => by rw [RW, hex _ a6]; exact z4 k hk, z5, z6⟩, ⟨by rw [RW]; exact c1, by rw [RW]; exact c2, by rw [KW]; exact c3, by rw [KW]; exact c4⟩, ⟨by omega, by rw [n0, n1]; omega, by rw [n0, n1]; omega⟩, ⟨?_, ?_, ?_, o9, ?_⟩, fun l hl' => ?_, fun t ht' => ?_, fun t w ht' hw' he => hu t w ht' hw' (by rw [RW] at he; exact he)⟩
    · rw [IW, if_neg (by omega), if_neg (by omega), if_neg (by omega), n0]; exact e1'
    · rw [IW, if_neg (by omega), if_neg (by omega), if_neg (by omega), n1]; exact e2'
    · rw [IW, if_neg (by omega), if_neg (by omega), if_pos ⟨rfl, rfl⟩, n2]
    · funext k
      unfold pl_bs pl_up
      by_cases h7 : k = 7
      · rw [if_pos h7, IW, if_neg (by omega), if_neg (by omega), if_neg (by omega), ← e5', h7, pl_bs_7]
      · rw [if_neg h7]
        by_cases h4 : k = 4
        · rw [if_pos h4, IW, if_neg (by omega), if_neg (by omega), if_neg (by omega), h4, b4]
        · rw [if_neg h4]
    · obtain ⟨q1, q2, q3⟩ := hl l hl'
      rw [RW, KW, nW]
      refine ⟨q1, q2, fun k hk => ?_⟩
      have hlu : ml_R Y (b + 1) l ≠ u := fun q => by rw [q, i2] at q2; exact absurd q2 (by decide)
      have hlv : ml_R Y (b + 1) l ≠ v := fun q => by rw [q, j2] at q2; exact absurd q2 (by decide)
      rw [IW, if_neg (fun q => hlv q.1), if_neg (fun q => hlu q.1), if_neg (by omega), nl1]
      exact q3 k hk
    · obtain ⟨q1, q2, q3, q4, q5, q6⟩ := ht t ht'
      obtain ⟨w1, w2⟩ := pl_aP_bits B i j t
      rw [RW, KW, nW, nt1, nt1, w1, w2]
      have hb : ml_R Y (b + 2) t ≠ b := by omega
      refine ⟨q1, q2, ?_, ?_, ?_, ?_⟩
      · rw [IW, if_neg (by omega), if_neg (by omega), if_neg (fun q => hb q.1)]; exact q3
      · rw [IW, if_neg (by omega), if_neg (by omega), if_neg (fun q => hb q.1)]; exact q4
      · rw [IW, if_neg (by omega)]
        by_cases hti : i = t
        · rw [if_pos ⟨by rw [hu', hti], rfl⟩, if_pos hti, hti]
        · rw [if_neg (fun q => hti (hu i t (by omega) ht' (by rw [← hu', ← q.1]))), if_neg (fun q => hb q.1), if_neg hti, Nat.or_zero]; exact q5
      · rw [IW]
        by_cases htj : j = t
        · rw [if_pos ⟨by rw [hv', htj], rfl⟩, if_pos htj, htj]
        · rw [if_neg (fun q => htj (hu j t (by omega) ht' (by rw [← hv', ← q.1]))), if_neg (by omega), if_neg (fun q => hb q.1), if_neg htj, Nat.or_zero]; exact q6
  · have b4' : ¬ ml_I Y b 4 = -9 := by rw [b4, he4]; exact c0
    rw [if_neg c0]
    refine ⟨Y, ?_, ⟨a1, a2, a3, a4, a5, a6⟩, ⟨z1, z2, z3, z4, z5, z6⟩, ⟨c1, c2, c3, c4⟩, ⟨d1, d2, d3⟩, ⟨e1', e2', e3', e4', e5'⟩, hl, ht, hu⟩
    rw [hhead, hD]
    unfold fX1_readStanding_64
    rw [if_pos kY1, if_neg b4']

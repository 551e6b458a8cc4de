/-! A BOOK READ: the class's trunk. -/
def pl_trq (f : Nat → Int32) (L : Nat) (s : Nat × Nat) : Nat → Nat × (Nat × Nat)
  | 0 => (0, s)
  | i + 1 => (10 * (pl_trq f L s i).1 + (pl_fg f L 1 6 (pl_trq f L s i).2).1, (pl_fg f L 1 6 (pl_trq f L s i).2).2)
def pl_trkq (f : Nat → Int32) (L p : Nat) : (Nat × Nat) × (Nat × Nat) :=
  let h := pl_fg f L 0 10 (pl_sgn f L 94 (pl_trq f L (p + 1, 0) 4).2)
  (((pl_trq f L (p + 1, 0) 4).1, h.1), h.2)
theorem pl_trq_ok {f : Nat → Int32} {L : Nat} {s : Nat × Nat} (h : pl_so2 L s) : ∀ i, pl_so2 L (pl_trq f L s i).2 ∧ (pl_trq f L s i).1 < 10 ^ i := by
  intro i
  induction i with
  | zero => exact ⟨h, by show 0 < 10 ^ 0; decide⟩
  | succ i ih =>
    have h2 := pl_fg_ok (f := f) (a := 1) (b := 6) ih.1 (by decide) (by decide)
    refine ⟨h2.1, ?_⟩
    show 10 * (pl_trq f L s i).1 + (pl_fg f L 1 6 (pl_trq f L s i).2).1 < 10 ^ (i + 1)
    rw [Nat.pow_succ]
    omega
theorem pl_aT_2 (B : pl_A) (a h : Nat) (t k : Nat) : pl_N (pl_aT B a h) 2 t k = if t = pl_N B 0 1 0 then (if k = 0 then a else h) else pl_N B 2 t k := by
  have e : pl_N (pl_aT B a h) 2 t k = if 2 = 0 ∧ t = 1 ∧ k = 0 then B.1 0 1 0 + 1 else if 2 = 2 ∧ t = B.1 0 1 0 then (if k = 0 then a else h) else B.1 2 t k := rfl
  rw [e, if_neg (show ¬ (2 = 0 ∧ t = 1 ∧ k = 0) by omega)]
  by_cases hlc : t = pl_N B 0 1 0
  · rw [if_pos hlc]; exact if_pos ⟨rfl, hlc⟩
  · rw [if_neg hlc]; exact if_neg (fun z => hlc z.2)
theorem pl_abv_0 {B : pl_A} (hp : pl_Wp B) : pl_abv B (pl_N B 0 1 0) = 0 ∧ pl_blw B (pl_N B 0 1 0) = 0 := by
  constructor
  · apply Nat.eq_of_testBit_eq
    intro i
    rw [pl_abv_tb, Nat.zero_testBit]
    cases hc : pl_any (fun k => decide (pl_N B 3 k 0 = pl_N B 0 1 0 ∧ pl_N B 3 k 1 = i)) (pl_N B 0 2 0) with
    | false => rfl
    | true =>
      obtain ⟨k, hk, hd⟩ := (pl_any_iff _ _).mp hc
      have := (of_decide_eq_true hd).1
      have := (hp k hk).1
      omega
  · apply Nat.eq_of_testBit_eq
    intro i
    rw [pl_blw_tb, Nat.zero_testBit]
    cases hc : pl_any (fun k => decide (pl_N B 3 k 1 = pl_N B 0 1 0 ∧ pl_N B 3 k 0 = i)) (pl_N B 0 2 0) with
    | false => rfl
    | true =>
      obtain ⟨k, hk, hd⟩ := (pl_any_iff _ _).mp hc
      have := (of_decide_eq_true hd).1
      have := (hp k hk).2.1
      omega
theorem pl_trkC {m : ml_M} {b : Nat} {B : pl_A} {f : Nat → Int32} {L : Nat} {Z : ml_M} {p : Nat} (h : pl_BK m b B f L Z (p, 0)) (hp : p < L) (hnl : pl_N B 0 1 0 < 8) (hwp : pl_Wp B) : ∃ Z', fX1_readTrunk b Z = some Z' ∧ pl_BK m b (if (pl_trkq f L p).2.2 = 0 then pl_aT B (pl_trkq f L p).1.1 (pl_trkq f L p).1.2 else B) f L Z' (pl_trkq f L p).2 := by
  have hbz := h.2.1
  have hZ := h.eq
  obtain ⟨g, hg⟩ : ∃ g, g = ml_I Z b := ⟨_, rfl⟩
  rw [← hg] at hZ
  have k1 : ml_K Z b = (1, 0) := hbz.1
  have hp0 : pl_so2 L (p + 1, 0) := ⟨hp, Nat.zero_le _⟩
  obtain ⟨q, hq⟩ : ∃ q, q = pl_trq f L (p + 1, 0) := ⟨_, rfl⟩
  have oq := pl_trq_ok (f := f) hp0
  rw [← hq] at oq
  have rq := fun i => pl_figC hbz (a := 1) (c := 6) (by decide) (by decide) g (oq i).1
  obtain ⟨s2, hs2⟩ : ∃ s, s = pl_sgn f L 94 (q 4).2 := ⟨_, rfl⟩
  have o2 := pl_sgn_ok (f := f) (c := 94) (oq 4).1
  have r2 := pl_sgnC hbz 94 g (oq 4).1
  rw [← hs2] at o2 r2
  obtain ⟨z, hz⟩ : ∃ x, x = pl_fg f L 0 10 s2 := ⟨_, rfl⟩
  have o9 := pl_fg_ok (f := f) (a := 0) (b := 10) o2 (by decide) (by decide)
  have r9 := pl_figC hbz (a := 0) (c := 10) (by decide) (by decide) g o2
  rw [← hz] at o9 r9
  have hqq : pl_trkq f L p = (((q 4).1, z.1), z.2) := by
    rw [hz, hs2, hq]; rfl
  rw [hqq]
  have e9 : nI 10 - 1 = (9 : Int32) := by decide
  have e5 : nI 6 - 1 = (5 : Int32) := by decide
  have e1 : nI 1 = (1 : Int32) := rfl
  have e0 : nI 0 = (0 : Int32) := rfl
  have e4 : (4 : Int32) = nI 4 := rfl
  have e10 : (10 : Int32) = nI 10 := rfl
  rw [e9, e0] at r9
  rw [e5, e1] at rq
  have e7 : ml_sI Z b 7 (nI (p + 1)) = pl_wI Z b (pl_bs g (p + 1, 0)) := by
    have h1 : pl_wI Z b (pl_bs g (p + 1, 0)) = ml_sI (pl_wI Z b (pl_bs g (p, 0))) b 7 (nI (p + 1)) := by
      rw [pl_wI_sI, pl_up_0, pl_bs_w7]
    rw [h1, hZ]
  have i7 : ml_I Z b 7 = nI p := by
    rw [← h.2.2.2.2.1.2.2.2.2, pl_bs_7]
  have kW : ∀ g', (ml_K (pl_wI Z b g') b).1 = 1 := fun g' => by rw [pl_K_wI, k1]
  obtain ⟨D, hD⟩ : ∃ D : Option ml_M, D = fX1_readTrunk_37 b (nI (q 4).1) (pl_wI Z b (pl_bs g (q 4).2)) := ⟨_, rfl⟩
  have hhead : fX1_readTrunk b Z = D := by
    have hh := pl_for (F := fun fu i (_ : Unit) => fX1_readTrunk_14 fu b (nI (q i).1) (nI i) (pl_wI Z b (pl_bs g (q i).2))) (R := D) 4 (fun _ => ()) (fun fu i hi => ?_) (fun fu => ?_) ml_fu (by rw [pl_fu]; omega)
    · have hq0 : q 0 = (0, (p + 1, 0)) := by rw [hq]; rfl
      rw [hq0] at hh
      unfold fX1_readTrunk
      rw [if_pos (by rw [k1]), i7, nI_1, e7, pl_let]
      exact hh
    · show fX1_readTrunk_14 (fu + 1) b (nI (q i).1) (nI i) (pl_wI Z b (pl_bs g (q i).2)) = fX1_readTrunk_14 fu b (nI (q (i + 1)).1) (nI (i + 1)) (pl_wI Z b (pl_bs g (q (i + 1)).2))
      have hq1 : q (i + 1) = (10 * (q i).1 + (pl_fg f L 1 6 (q i).2).1, (pl_fg f L 1 6 (q i).2).2) := by rw [hq]; rfl
      have hr := rq i
      rw [hq1]
      have hlt : ¬ nI 4 ≤ nI i := by rw [nI_leI (by omega) (by omega)]; omega
      rw [fX1_readTrunk_14, e4, if_neg hlt, if_pos (kW _), hr, pl_b2, pl_let, e10, pk_mul, nI_add, nI_1]
    · show fX1_readTrunk_14 (fu + 1) b (nI (q 4).1) (nI 4) (pl_wI Z b (pl_bs g (q 4).2)) = D
      have hle : (4 : Int32) ≤ nI 4 := by decide
      rw [fX1_readTrunk_14, if_pos hle, hD]
  have hgo := h.go o9.1
  rw [← hg] at hgo
  obtain ⟨Y, hY⟩ : ∃ Y, Y = pl_wI Z b (pl_bs g z.2) := ⟨_, rfl⟩
  rw [← hY] at hgo r9
  obtain ⟨⟨a1, a2, a3, a4, a5, a6⟩, ⟨z1, z2, z3, z4, z5, z6⟩, ⟨c1, c2, c3, c4⟩, ⟨d1, d2, d3⟩, ⟨e1', e2', e3', e4', e5'⟩, hl, ht, hu⟩ := hgo
  have he4 := pl_e4_n (e := z.2.2) (by have := o9.1.2; omega)
  have b4 : ml_I Y b 4 = pl_e4 z.2.2 := by rw [← e5', pl_bs_4]
  have kY1 : (ml_K Y b).1 = 1 := by rw [z1]
  by_cases c0 : z.2.2 = 0
  · have b4' : ml_I Y b 4 = -9 := by rw [b4, c0]; rfl
    rw [if_pos c0]
    obtain ⟨a, ha⟩ : ∃ a, a = ml_n Y + 1 := ⟨_, rfl⟩
    obtain ⟨V, hV⟩ : ∃ V, V = ml_sI (ml_sI (ml_al Y 9 0 4) a 0 (nI (q 4).1)) a 1 (nI z.1) := ⟨_, rfl⟩
    have kA : ∀ t, ml_K (ml_al Y 9 0 4) t = if t = a then (9, 0) else ml_K Y t := fun t => by rw [pl_K_al, ha]
    have hKV : ml_K V = ml_K (ml_al Y 9 0 4) := by rw [hV]; rfl
    have hRV : ml_R V = ml_R (ml_al Y 9 0 4) := by rw [hV]; rfl
    have hIV : ∀ t j, ml_I V t j = if t = a then (if j = 0 then nI (q 4).1 else if j = 1 then nI z.1 else 0) else ml_I Y t j := fun t j => by
      rw [hV, pl_I_sI, pl_I_sI, pl_I_al]
      by_cases hta : t = a
      · rw [if_pos hta]
        by_cases j1 : j = 1
        · rw [if_pos ⟨hta, j1⟩, if_neg (by omega), if_pos j1]
        · rw [if_neg (fun z => j1 z.2)]
          by_cases j0 : j = 0
          · rw [if_pos ⟨hta, j0⟩, if_pos j0]
          · rw [if_neg (fun z => j0 z.2), if_pos (by omega), if_neg j0, if_neg j1]
      · rw [if_neg hta, if_neg (fun z => hta z.1), if_neg (fun z => hta z.1), if_neg (by rw [← ha]; exact hta)]
    obtain ⟨W, hW⟩ : ∃ W, W = ml_sI (ml_sR V (b + 2) (pl_N B 0 1 0) a) b 3 (nI (pl_N B 0 1 0 + 1)) := ⟨_, rfl⟩
    have hab : a ≠ b ∧ a ≠ b + 1 ∧ a ≠ b + 2 := by omega
    have hDW : D = some W := by
      have kb6 : (ml_K (ml_al Y 9 0 4) a).1 = 9 := by rw [kA, if_pos rfl]
      have kVa : (ml_K V a).1 = 9 := by rw [hKV, kA, if_pos rfl]
      have hinit : fX9_init a (nI (q 4).1) (nI z.1) (ml_al Y 9 0 4) = some V := by
        have ha0 : a ≠ 0 := by omega
        unfold fX9_init
        rw [if_pos ha0, if_pos kb6, hV]; rfl
      have kV1 : ml_K V (b + 2) = (30, 8) := by rw [hKV, kA, if_neg (by omega), c4]
      have kVb : (ml_K V b).1 = 1 := by rw [hKV, kA, if_neg (by omega), z1]
      have hVb2 : ml_I V b 3 = nI (pl_N B 0 1 0) := by rw [hIV, if_neg (by omega), e2']
      rw [hD, hW]
      unfold fX1_readTrunk_37
      rw [if_pos (kW _), r2, pl_b1, if_pos (kW _), r9, pl_b2, if_pos kY1, if_pos b4']
      simp (disch := omega) only [↓pl_let, pl_b1, pl_b2, ↓reduceIte, if_true, c2, ← ha, hinit, kVa, e2', pl_in, nI_clamp, kV1, hnl, and_self, pl_K_sR, kVb, pl_I_sR, hVb2, nI_1]
    refine ⟨W, by rw [hhead, hDW], ?_⟩
    have nW : ml_n W = ml_n Y + 1 := by rw [hW, hV]; rfl
    have sW : ml_s W = ml_s Y + 4 := by rw [hW, hV]; rfl
    have JW : ∀ t, t ≤ ml_n Y → ml_J W t = ml_J Y t := fun t htY => by
      funext j
      rw [hW, hV, pl_J_sI, pl_J_sR, pl_J_sI, pl_J_sI, pl_J_al, if_neg (by omega)]
    have KW : ∀ t, ml_K W t = if t = a then (9, 0) else ml_K Y t := fun t => by rw [hW, pl_K_sI, pl_K_sR, hKV, kA]
    have RW : ∀ t j, t ≠ a → ml_R W t j = if t = b + 2 ∧ j = pl_N B 0 1 0 then a else ml_R Y t j := fun t j hta => by
      rw [hW, pl_R_sI, pl_R_sR, hRV, pl_R_al, if_neg (show ¬ t = ml_n Y + 1 by omega)]
    have IW : ∀ t j, ml_I W t j = if t = b ∧ j = 3 then nI (pl_N B 0 1 0 + 1) else if t = a then (if j = 0 then nI (q 4).1 else if j = 1 then nI z.1 else 0) else ml_I Y t j := fun t j => by
      rw [hW, pl_I_sI, pl_I_sR, hIV]
    have n0 : pl_N (pl_aT B (q 4).1 z.1) 0 0 0 = pl_N B 0 0 0 := rfl
    have n1 : pl_N (pl_aT B (q 4).1 z.1) 0 1 0 = pl_N B 0 1 0 + 1 := rfl
    have n2 : pl_N (pl_aT B (q 4).1 z.1) 0 2 0 = pl_N B 0 2 0 := rfl
    have nl1 : ∀ l k, pl_N (pl_aT B (q 4).1 z.1) 1 l k = pl_N B 1 l k := fun l k => rfl
    have nab : ∀ t, pl_abv (pl_aT B (q 4).1 z.1) t = pl_abv B t := fun t => rfl
    have nbl : ∀ t, pl_blw (pl_aT B (q 4).1 z.1) t = pl_blw B t := fun t => rfl
    have nk := pl_aT_2 B (q 4).1 z.1
    obtain ⟨v0, v1⟩ := pl_abv_0 hwp
    have hex : ∀ t, t ≤ ml_n m → ml_I W t = ml_I Y t ∧ ml_R W t = ml_R Y t := fun t htm => by
      constructor
      · funext j; rw [IW, if_neg (by omega), if_neg (by omega)]
      · funext j; rw [RW t j (by omega), if_neg (by omega)]
    refine ⟨⟨⟨by have := a1.1; omega, fun t htm => by rw [KW, if_neg (by omega)]; exact a1.2.1 t htm, fun t htm hn => ⟨by rw [(hex t htm).1]; exact (a1.2.2 t htm hn).1, by rw [(hex t htm).2]; exact (a1.2.2 t htm hn).2⟩⟩, fun t h1 h2 => ⟨?_, ?_⟩, by rw [JW 1 (by omega)]; exact a3, a4, a5, by rw [RW b 6 (by omega), if_neg (by omega)]; exact a6⟩, ⟨by rw [KW, if_neg (by omega)]; exact z1, by rw [RW b 6 (by omega), if_neg (by omega)]; exact z2, ?_, fun j hj => ?_, z5, z6⟩, ⟨?_, ?_, ?_, ?_⟩, ⟨by omega, by rw [n0, n1]; omega, by rw [n0, n1]; omega⟩, ⟨?_, ?_, ?_, o9.1, ?_⟩, fun l hl' => ?_, fun t ht' => ?_, fun t u ht' hu' he => ?_⟩
    · rw [(hex t (by omega)).1]; exact (a2 t h1 h2).1
    · rw [JW t (by omega)]; exact (a2 t h1 h2).2
    · rw [RW b 6 (by omega), if_neg (by omega), KW, if_neg (by omega)]; exact z3
    · rw [RW b 6 (by omega), if_neg (by omega), IW, if_neg (fun z => z2 z.1), if_neg (by omega)]; exact z4 j hj
    · rw [RW b 0 (by omega), if_neg (by omega)]; exact c1
    · rw [RW b 1 (by omega), if_neg (by omega)]; exact c2
    · rw [KW, if_neg (by omega)]; exact c3
    · rw [KW, if_neg (by omega)]; exact c4
    · rw [IW, if_neg (by omega), if_neg (by omega), n0]; exact e1'
    · rw [IW, if_pos ⟨rfl, rfl⟩, n1]
    · rw [IW, if_neg (by omega), if_neg (by omega), n2]; exact e3'
    · funext j
      unfold pl_bs pl_up
      by_cases h7 : j = 7
      · rw [if_pos h7, IW, if_neg (by omega), if_neg (by omega), ← e5', h7, pl_bs_7]
      · rw [if_neg h7]
        by_cases h4 : j = 4
        · rw [if_pos h4, IW, if_neg (by omega), if_neg (by omega), h4, b4]
        · rw [if_neg h4]
    · have hRl : ml_R W (b + 1) l = ml_R Y (b + 1) l := by rw [RW _ _ (by omega), if_neg (by omega)]
      obtain ⟨q1, q2, q3⟩ := hl l hl'
      rw [hRl, KW, if_neg (by omega)]
      refine ⟨⟨q1.1, by omega⟩, q2, fun k hk => ?_⟩
      rw [IW, if_neg (by omega), if_neg (by omega), nl1]
      exact q3 k hk
    · rw [n1] at ht'
      rw [nab, nbl, nk, nk]
      by_cases hlc : t = pl_N B 0 1 0
      · have hRl : ml_R W (b + 2) t = a := by rw [RW _ _ (by omega), if_pos ⟨rfl, hlc⟩]
        have w0 : ml_I W a 0 = nI (q 4).1 := by rw [IW, if_neg (by omega), if_pos rfl, if_pos rfl]
        have w1 : ml_I W a 1 = nI z.1 := by rw [IW, if_neg (by omega), if_pos rfl, if_neg (by decide), if_pos rfl]
        have w2 : ml_I W a 2 = 0 := by rw [IW, if_neg (by omega), if_pos rfl, if_neg (by decide), if_neg (by decide)]
        have w3 : ml_I W a 3 = 0 := by rw [IW, if_neg (by omega), if_pos rfl, if_neg (by decide), if_neg (by decide)]
        rw [hRl, KW, if_pos rfl, if_pos hlc, if_pos hlc, hlc, v0, v1, w0, w1, w2, w3]
        exact ⟨⟨by omega, by omega⟩, rfl, rfl, rfl, rfl, rfl⟩
      · have hRl : ml_R W (b + 2) t = ml_R Y (b + 2) t := by rw [RW _ _ (by omega), if_neg (fun z => hlc z.2)]
        obtain ⟨q1, q2, q3⟩ := ht t (by omega)
        have hIt : ∀ k, ml_I W (ml_R Y (b + 2) t) k = ml_I Y (ml_R Y (b + 2) t) k := fun k => by rw [IW, if_neg (by omega), if_neg (by omega)]
        rw [hRl, KW, if_neg (by omega), if_neg hlc, if_neg hlc, hIt, hIt, hIt, hIt]
        exact ⟨⟨q1.1, by omega⟩, q2, q3⟩
    · rw [n1] at ht' hu'
      rw [RW _ _ (by omega), RW _ _ (by omega)] at he
      by_cases h1 : t = pl_N B 0 1 0
      · by_cases h2 : u = pl_N B 0 1 0
        · omega
        · rw [if_pos ⟨rfl, h1⟩, if_neg (fun z => h2 z.2)] at he
          have := (ht u (by omega)).1
          omega
      · by_cases h2 : u = pl_N B 0 1 0
        · rw [if_neg (fun z => h1 z.2), if_pos ⟨rfl, h2⟩] at he
          have := (ht t (by omega)).1
          omega
        · rw [if_neg (fun z => h1 z.2), if_neg (fun z => h2 z.2)] at he
          exact hu t u (by omega) (by omega) he
  · have b4' : ¬ ml_I Y b 4 = -9 := by rw [b4, he4]; exact c0
    rw [if_neg c0]
    refine ⟨Y, ?_, ⟨a1, a2, a3, a4, a5, a6⟩, ⟨z1, z2, z3, z4, z5, z6⟩, ⟨c1, c2, c3, c4⟩, ⟨d1, d2, d3⟩, ⟨e1', e2', e3', e4', e5'⟩, hl, ht, hu⟩
    rw [hhead, hD]
    unfold fX1_readTrunk_37
    rw [if_pos (kW _), r2, pl_b1, if_pos (kW _), r9, pl_b2, if_pos kY1, if_neg b4']

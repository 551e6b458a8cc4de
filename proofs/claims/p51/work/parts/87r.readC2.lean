/-! A BOOK READ: what a reading makes; the class's lodger. -/
def pl_aL (B : pl_A) (v : Nat → Nat) : pl_A := (fun g i k => if g = 0 ∧ i = 0 ∧ k = 0 then B.1 0 0 0 + 1 else if g = 1 ∧ i = B.1 0 0 0 then v k else B.1 g i k, B.2)
theorem pl_aL_1 (B : pl_A) (v : Nat → Nat) (l k : Nat) : pl_N (pl_aL B v) 1 l k = if l = pl_N B 0 0 0 then v k else pl_N B 1 l k := by
  have h : pl_N (pl_aL B v) 1 l k = if 1 = 0 ∧ l = 0 ∧ k = 0 then B.1 0 0 0 + 1 else if 1 = 1 ∧ l = B.1 0 0 0 then v k else B.1 1 l k := rfl
  rw [h, if_neg (show ¬ (1 = 0 ∧ l = 0 ∧ k = 0) by omega)]
  by_cases hlc : l = pl_N B 0 0 0
  · rw [if_pos hlc]; exact if_pos ⟨rfl, hlc⟩
  · rw [if_neg hlc]; exact if_neg (fun z => hlc z.2)
def pl_aT (B : pl_A) (a h : Nat) : pl_A := (fun g i k => if g = 0 ∧ i = 1 ∧ k = 0 then B.1 0 1 0 + 1 else if g = 2 ∧ i = B.1 0 1 0 then (if k = 0 then a else h) else B.1 g i k, B.2)
def pl_aP (B : pl_A) (a h : Nat) : pl_A := (fun g i k => if g = 0 ∧ i = 2 ∧ k = 0 then B.1 0 2 0 + 1 else if g = 3 ∧ i = B.1 0 2 0 then (if k = 0 then a else h) else B.1 g i k, B.2)
def pl_s3q (y1 : Nat) (y2 : Nat × (Nat × Nat)) : Nat × Nat := if y2.2.2 = 0 ∧ ¬ y1 ≤ y2.1 then (y2.2.1, y2.2.1 + 1) else y2.2
def pl_v5 (a b x y z : Nat) : Nat → Nat := fun k => if k = 0 then a else if k = 1 then b else if k = 2 then x else if k = 3 then y else z
/-- behind the years -/
def pl_ldr (f : Nat → Int32) (L a b : Nat) (s : Nat × Nat) : (Nat → Nat) × (Nat × Nat) :=
  let x := pl_fg f L 1 10 (pl_sgn f L 115 s)
  let y := pl_fg f L 1 10 (pl_sgn f L 116 x.2)
  let z := pl_fg f L 1 10 (pl_sgn f L 104 y.2)
  (pl_v5 a b x.1 y.1 z.1, z.2)
def pl_ldq (f : Nat → Int32) (L p : Nat) : (Nat → Nat) × (Nat × Nat) :=
  let y1 := pl_yrp f L (p + 1, 0)
  let y2 := pl_yrp f L (pl_sgn f L 45 y1.2)
  pl_ldr f L y1.1 y2.1 (pl_s3q y1.1 y2)
theorem pl_s3q_ok {L y1 : Nat} {y2 : Nat × (Nat × Nat)} (h : pl_so2 L y2.2) : pl_so2 L (pl_s3q y1 y2) := by
  unfold pl_s3q
  by_cases c : y2.2.2 = 0 ∧ ¬ y1 ≤ y2.1
  · rw [if_pos c]; exact ⟨h.1, Nat.succ_le_succ h.1⟩
  · rw [if_neg c]; exact h
/-- the class while it reads a book: b the Book, B what it holds -/
def pl_BK (m : ml_M) (b : Nat) (B : pl_A) (f : Nat → Int32) (L : Nat) (Z : ml_M) (s : Nat × Nat) : Prop :=
  (pl_ex [] m Z ∧ pl_co m Z ∧ ml_J Z 1 = ml_J m 1 ∧ 60 ≤ ml_n m ∧ b = ml_n m + 1 ∧ ml_R Z b 6 ≤ ml_n m) ∧ pl_bz Z b f L ∧ (ml_R Z b 0 = b + 1 ∧ ml_R Z b 1 = b + 2 ∧ ml_K Z (b + 1) = (28, 8) ∧ ml_K Z (b + 2) = (30, 8)) ∧
  (b + 2 ≤ ml_n Z ∧ ml_n Z ≤ b + 2 + pl_N B 0 0 0 + pl_N B 0 1 0 ∧ ml_s Z ≤ ml_s m + 24 + 5 * pl_N B 0 0 0 + 4 * pl_N B 0 1 0) ∧
  (ml_I Z b 2 = nI (pl_N B 0 0 0) ∧ ml_I Z b 3 = nI (pl_N B 0 1 0) ∧ ml_I Z b 5 = nI (pl_N B 0 2 0) ∧ pl_so2 L s ∧ pl_bs (ml_I Z b) s = ml_I Z b) ∧
  (∀ l, l < pl_N B 0 0 0 → (b + 2 < ml_R Z (b + 1) l ∧ ml_R Z (b + 1) l ≤ ml_n Z) ∧ ml_K Z (ml_R Z (b + 1) l) = (6, 0) ∧ ∀ k, k < 5 → ml_I Z (ml_R Z (b + 1) l) k = nI (pl_N B 1 l k)) ∧
  (∀ t, t < pl_N B 0 1 0 → (b + 2 < ml_R Z (b + 2) t ∧ ml_R Z (b + 2) t ≤ ml_n Z) ∧ ml_K Z (ml_R Z (b + 2) t) = (9, 0) ∧ ml_I Z (ml_R Z (b + 2) t) 0 = nI (pl_N B 2 t 0) ∧ ml_I Z (ml_R Z (b + 2) t) 1 = nI (pl_N B 2 t 1) ∧ ml_I Z (ml_R Z (b + 2) t) 2 = nI (pl_abv B t) ∧ ml_I Z (ml_R Z (b + 2) t) 3 = nI (pl_blw B t)) ∧
  ∀ t u, t < pl_N B 0 1 0 → u < pl_N B 0 1 0 → ml_R Z (b + 2) t = ml_R Z (b + 2) u → t = u
/-- only the place and the fault go on -/
theorem pl_BK.go {m : ml_M} {b : Nat} {B : pl_A} {f : Nat → Int32} {L : Nat} {Z : ml_M} {s s' : Nat × Nat} (h : pl_BK m b B f L Z s) (hs : pl_so2 L s') : pl_BK m b B f L (pl_wI Z b (pl_bs (ml_I Z b) s')) s' := by
  obtain ⟨⟨a1, a2, a3, a4, a5, a6⟩, ⟨z1, z2, z3, z4, z5, z6⟩, c, d, ⟨e1, e2, e3, e4, e5⟩, hl, ht, hu⟩ := h
  have iB : ml_I (pl_wI Z b (pl_bs (ml_I Z b) s')) b = pl_bs (ml_I Z b) s' := by rw [pl_I_wI, if_pos rfl]
  have iO : ∀ x, x ≠ b → ml_I (pl_wI Z b (pl_bs (ml_I Z b) s')) x = ml_I Z x := fun x hx => by rw [pl_I_wI, if_neg hx]
  refine ⟨⟨⟨a1.1, a1.2.1, fun x hx hn => ⟨by rw [iO x (by omega)]; exact (a1.2.2 x hx hn).1, (a1.2.2 x hx hn).2⟩⟩, a2.wI (by omega), a3, a4, a5, a6⟩, ⟨z1, z2, z3, fun j hj => ?_, z5, z6⟩, c, d, ⟨?_, ?_, ?_, hs, ?_⟩, fun l hl' => ?_, fun t ht' => ?_, hu⟩
  · rw [pl_R_wI, iO _ z2]; exact z4 j hj
  · rw [iB, pl_bs_o _ _ (by decide), e1]
  · rw [iB, pl_bs_o _ _ (by decide), e2]
  · rw [iB, pl_bs_o _ _ (by decide), e3]
  · rw [iB]
    funext j
    unfold pl_bs pl_up
    by_cases h7 : j = 7
    · rw [if_pos h7, if_pos h7]
    · rw [if_neg h7, if_neg h7]
      by_cases h4 : j = 4
      · rw [if_pos h4, if_pos h4]
      · rw [if_neg h4, if_neg h4]
  · obtain ⟨q1, q2, q3⟩ := hl l hl'
    rw [pl_R_wI, pl_K_wI, pl_n_wI, iO _ (by omega)]
    exact ⟨q1, q2, q3⟩
  · obtain ⟨q1, q2, q3⟩ := ht t ht'
    rw [pl_R_wI, pl_K_wI, pl_n_wI, iO _ (by omega)]
    exact ⟨q1, q2, q3⟩
theorem pl_BK.eq {m : ml_M} {b : Nat} {B : pl_A} {f : Nat → Int32} {L : Nat} {Z : ml_M} {s : Nat × Nat} (h : pl_BK m b B f L Z s) : pl_wI Z b (pl_bs (ml_I Z b) s) = Z := by
  rw [h.2.2.2.2.1.2.2.2.2, pl_wI_0]
/-- the class reads a lodger's years and marks; no cell is made yet -/
theorem pl_ldC {m : ml_M} {b : Nat} {B : pl_A} {f : Nat → Int32} {L : Nat} {Z : ml_M} {p : Nat} (h : pl_BK m b B f L Z (p, 0)) (hp : p < L) (hnl : pl_N B 0 0 0 < 8) : ∃ Z', fX1_readLodger b Z = some Z' ∧ pl_BK m b (if (pl_ldq f L p).2.2 = 0 then pl_aL B (pl_ldq f L p).1 else B) f L Z' (pl_ldq f L p).2 := by
  have hbz := h.2.1
  have hZ := h.eq
  obtain ⟨g, hg⟩ : ∃ g, g = ml_I Z b := ⟨_, rfl⟩
  rw [← hg] at hZ
  have k1 : ml_K Z b = (1, 0) := hbz.1
  have iB : ∀ g, ml_I (pl_wI Z b g) b = g := fun g => by rw [pl_I_wI, if_pos rfl]
  obtain ⟨y1, hy1⟩ : ∃ y, y = pl_yrp f L (p + 1, 0) := ⟨_, rfl⟩
  have o1 := pl_yrp_ok (f := f) (L := L) (s := (p + 1, 0)) ⟨hp, Nat.zero_le _⟩
  have r1 := pl_yrC hbz g (s := (p + 1, 0)) ⟨hp, Nat.zero_le _⟩
  rw [← hy1] at o1 r1
  obtain ⟨s2, hs2⟩ : ∃ s, s = pl_sgn f L 45 y1.2 := ⟨_, rfl⟩
  have o2 := pl_sgn_ok (f := f) (c := 45) o1.1
  have r2 := pl_sgnC hbz 45 g o1.1
  rw [← hs2] at o2 r2
  obtain ⟨y2, hy2⟩ : ∃ y, y = pl_yrp f L s2 := ⟨_, rfl⟩
  have o3 := pl_yrp_ok (f := f) o2
  have r3 := pl_yrC hbz g o2
  rw [← hy2] at o3 r3
  obtain ⟨s3, hs3⟩ : ∃ s, s = pl_s3q y1.1 y2 := ⟨_, rfl⟩
  have o3' : pl_so2 L s3 := by rw [hs3]; exact pl_s3q_ok o3.1
  obtain ⟨s4, hs4⟩ : ∃ s, s = pl_sgn f L 115 s3 := ⟨_, rfl⟩
  have o4 := pl_sgn_ok (f := f) (c := 115) o3'
  have r4 := pl_sgnC hbz 115 g o3'
  rw [← hs4] at o4 r4
  obtain ⟨x, hx⟩ : ∃ x, x = pl_fg f L 1 10 s4 := ⟨_, rfl⟩
  have o5 := pl_fg_ok (f := f) (a := 1) (b := 10) o4 (by decide) (by decide)
  have r5 := pl_figC hbz (a := 1) (c := 10) (by decide) (by decide) g o4
  rw [← hx] at o5 r5
  obtain ⟨s5, hs5⟩ : ∃ s, s = pl_sgn f L 116 x.2 := ⟨_, rfl⟩
  have o6 := pl_sgn_ok (f := f) (c := 116) o5.1
  have r6 := pl_sgnC hbz 116 g o5.1
  rw [← hs5] at o6 r6
  obtain ⟨y, hy⟩ : ∃ x, x = pl_fg f L 1 10 s5 := ⟨_, rfl⟩
  have o7 := pl_fg_ok (f := f) (a := 1) (b := 10) o6 (by decide) (by decide)
  have r7 := pl_figC hbz (a := 1) (c := 10) (by decide) (by decide) g o6
  rw [← hy] at o7 r7
  obtain ⟨s6, hs6⟩ : ∃ s, s = pl_sgn f L 104 y.2 := ⟨_, rfl⟩
  have o8 := pl_sgn_ok (f := f) (c := 104) o7.1
  have r8 := pl_sgnC hbz 104 g o7.1
  rw [← hs6] at o8 r8
  obtain ⟨z, hz⟩ : ∃ x, x = pl_fg f L 1 10 s6 := ⟨_, rfl⟩
  have o9 := pl_fg_ok (f := f) (a := 1) (b := 10) o8 (by decide) (by decide)
  have r9 := pl_figC hbz (a := 1) (c := 10) (by decide) (by decide) g o8
  rw [← hz] at o9 r9
  have hq : pl_ldq f L p = (pl_v5 y1.1 y2.1 x.1 y.1 z.1, z.2) := by
    rw [hz, hs6, hy, hs5, hx, hs4, hs3, hy2, hs2, hy1]; rfl
  rw [hq]
  have e9 : nI 10 - 1 = (9 : Int32) := by decide
  have e1 : nI 1 = (1 : Int32) := rfl
  rw [e9, e1] at r5 r7 r9
  have e7 : ml_sI Z b 7 (nI (p + 1)) = pl_wI Z b (pl_bs g (p + 1, 0)) := by
    have h1 : pl_wI Z b (pl_bs g (p + 1, 0)) = ml_sI (pl_wI Z b (pl_bs g (p, 0))) b 7 (nI (p + 1)) := by
      rw [pl_wI_sI, pl_up_0, pl_bs_w7]
    rw [h1, hZ]
  have i7 : ml_I Z b 7 = nI p := by
    rw [← h.2.2.2.2.1.2.2.2.2, pl_bs_7]
  -- the tail, from behind the years
  obtain ⟨D, hD⟩ : ∃ D : Option ml_M, D = fX1_readLodger_48 b (nI y1.1) (nI y2.1) (pl_wI Z b (pl_bs g s3)) := ⟨_, rfl⟩
  have hhead : fX1_readLodger b Z = D := by
    have he4 := pl_e4_n (e := y2.2.2) (by have := o3.1.2; have := hbz.2.2.2.2.1; omega)
    have b4 : pl_bs g y2.2 4 = pl_e4 y2.2.2 := pl_bs_4 _ _
    have b7 : pl_bs g y2.2 7 = nI y2.2.1 := pl_bs_7 _ _
    rw [hD]
    by_cases c0 : y2.2.2 = 0
    · have b4' : pl_bs g y2.2 4 = -9 := by rw [b4, c0]; rfl
      by_cases cl : y1.1 ≤ y2.1
      · have hs3' : s3 = y2.2 := by rw [hs3]; unfold pl_s3q; rw [if_neg (fun z => z.2 cl)]
        rw [hs3']
        simp (disch := omega) only [fX1_readLodger, k1, if_true, i7, nI_1, ↓pl_let, pl_b1, pl_b2, ↓reduceIte, e7, r1, r2, r3, pl_K_wI, iB, b4', nI_leI, cl]
      · have hs3' : s3 = (y2.2.1, y2.2.1 + 1) := by rw [hs3]; unfold pl_s3q; rw [if_pos ⟨c0, cl⟩]
        have hw4 : pl_up (pl_bs g y2.2) 4 (nI y2.2.1) = pl_bs g (y2.2.1, y2.2.1 + 1) := by
          have : y2.2 = (y2.2.1, 0) := by rw [← c0]
          rw [this]; exact pl_bs_w4 g _ _
        rw [hs3']
        simp (disch := omega) only [fX1_readLodger, k1, if_true, i7, nI_1, ↓pl_let, pl_b1, pl_b2, ↓reduceIte, e7, r1, r2, r3, pl_K_wI, iB, b4', nI_leI, cl, if_false, b7, pl_wI_sI, pl_up_0, hw4]
    · have hs3' : s3 = y2.2 := by rw [hs3]; unfold pl_s3q; rw [if_neg (fun z => c0 z.1)]
      have b4' : ¬ pl_bs g y2.2 4 = -9 := by rw [b4, he4]; exact c0
      rw [hs3']
      simp (disch := omega) only [fX1_readLodger, k1, if_true, i7, nI_1, ↓pl_let, pl_b1, pl_b2, ↓reduceIte, e7, r1, r2, r3, pl_K_wI, iB, b4', if_false]
  have hgo := h.go o9.1
  rw [← hg] at hgo
  obtain ⟨Y, hY⟩ : ∃ Y, Y = pl_wI Z b (pl_bs g z.2) := ⟨_, rfl⟩
  rw [← hY] at hgo r9
  obtain ⟨⟨a1, a2, a3, a4, a5, a6⟩, ⟨z1, z2, z3, z4, z5, z6⟩, ⟨c1, c2, c3, c4⟩, ⟨d1, d2, d3⟩, ⟨e1', e2', e3', e4', e5'⟩, hl, ht, hu⟩ := hgo
  have he4 := pl_e4_n (e := z.2.2) (by have := o9.1.2; omega)
  have b4 : ml_I Y b 4 = pl_e4 z.2.2 := by rw [← e5', pl_bs_4]
  have kW : ∀ g', (ml_K (pl_wI Z b g') b).1 = 1 := fun g' => by rw [pl_K_wI, k1]
  by_cases c0 : z.2.2 = 0
  · have b4' : ml_I Y b 4 = -9 := by rw [b4, c0]; rfl
    rw [if_pos c0]
    obtain ⟨a, ha⟩ : ∃ a, a = ml_n Y + 1 := ⟨_, rfl⟩
    obtain ⟨V, hV⟩ : ∃ V, V = ml_sI (ml_sI (ml_sI (ml_sI (ml_sI (ml_al Y 6 0 5) a 0 (nI y1.1)) a 1 (nI y2.1)) a 2 (nI x.1)) a 3 (nI y.1)) a 4 (nI z.1) := ⟨_, rfl⟩
    have kA : ∀ t, ml_K (ml_al Y 6 0 5) t = if t = a then (6, 0) else ml_K Y t := fun t => by rw [pl_K_al, ha]
    have hKV : ml_K V = ml_K (ml_al Y 6 0 5) := by rw [hV]; rfl
    have hRV : ml_R V = ml_R (ml_al Y 6 0 5) := by rw [hV]; rfl
    have hIV : ∀ t j, ml_I V t j = if t = a then (if j < 5 then nI (pl_v5 y1.1 y2.1 x.1 y.1 z.1 j) else 0) else ml_I Y t j := fun t j => by
      rw [hV]
      simp only [pl_I_sI, pl_I_al]
      by_cases hta : t = a
      · rw [if_pos hta]
        simp only [hta, true_and]
        unfold pl_v5
        by_cases j4 : j = 4
        · simp [j4]
        · by_cases j3 : j = 3
          · simp [j3]
          · by_cases j2 : j = 2
            · simp [j2]
            · by_cases j1 : j = 1
              · simp [j1]
              · by_cases j0 : j = 0
                · simp [j0]
                · have h5 : ¬ j < 5 := by omega
                  rw [if_neg j4, if_neg j3, if_neg j2, if_neg j1, if_neg j0, if_neg h5, if_pos ha]
      · rw [if_neg hta, if_neg (fun z => hta z.1), if_neg (fun z => hta z.1), if_neg (fun z => hta z.1), if_neg (fun z => hta z.1), if_neg (fun z => hta z.1), if_neg (by rw [← ha]; exact hta)]
    obtain ⟨W, hW⟩ : ∃ W, W = ml_sI (ml_sR V (b + 1) (pl_N B 0 0 0) a) b 2 (nI (pl_N B 0 0 0 + 1)) := ⟨_, rfl⟩
    have hab : a ≠ b ∧ a ≠ b + 1 ∧ a ≠ b + 2 := by omega
    have hDW : D = some W := by
      have kb6 : (ml_K (ml_al Y 6 0 5) a).1 = 6 := by rw [kA, if_pos rfl]
      have kVa : (ml_K V a).1 = 6 := by rw [hKV, kA, if_pos rfl]
      have hinit : fX6_init a (nI y1.1) (nI y2.1) (nI x.1) (nI y.1) (nI z.1) (ml_al Y 6 0 5) = some V := by
        have ha0 : a ≠ 0 := by omega
        unfold fX6_init
        rw [if_pos ha0, if_pos kb6, hV]; rfl
      have kY1 : (ml_K Y b).1 = 1 := by rw [z1]
      have kV1 : ml_K V (b + 1) = (28, 8) := by rw [hKV, kA, if_neg (by omega), c3]
      have kVb : (ml_K V b).1 = 1 := by rw [hKV, kA, if_neg (by omega), z1]
      have hVb2 : ml_I V b 2 = nI (pl_N B 0 0 0) := by rw [hIV, if_neg (by omega), e1']
      rw [hD, hW]
      unfold fX1_readLodger_48
      rw [if_pos (kW _), r4, pl_b1, if_pos (kW _), r5, pl_b2, if_pos (kW _), r6, pl_b1, if_pos (kW _), r7, pl_b2, if_pos (kW _), r8, pl_b1, if_pos (kW _), r9, pl_b2, if_pos kY1, if_pos b4']
      simp (disch := omega) only [↓pl_let, pl_b1, pl_b2, ↓reduceIte, if_true, c1, ← ha, hinit, kVa, e1', pl_in, nI_clamp, kV1, hnl, and_self, pl_K_sR, kVb, pl_I_sR, hVb2, nI_1]
    refine ⟨W, by rw [hhead, hDW], ?_⟩
    have nW : ml_n W = ml_n Y + 1 := by rw [hW, hV]; rfl
    have sW : ml_s W = ml_s Y + 5 := by rw [hW, hV]; rfl
    have JW : ml_J W 1 = ml_J Y 1 := by
      funext j
      rw [hW, hV, pl_J_sI, pl_J_sR, pl_J_sI, pl_J_sI, pl_J_sI, pl_J_sI, pl_J_sI, pl_J_al, if_neg (by omega)]
    have KW : ∀ t, ml_K W t = if t = a then (6, 0) else ml_K Y t := fun t => by rw [hW, pl_K_sI, pl_K_sR, hKV, kA]
    have RW : ∀ t j, t ≠ a → ml_R W t j = if t = b + 1 ∧ j = pl_N B 0 0 0 then a else ml_R Y t j := fun t j hta => by
      rw [hW, pl_R_sI, pl_R_sR, hRV, pl_R_al, if_neg (show ¬ t = ml_n Y + 1 by omega)]
    have IW : ∀ t j, ml_I W t j = if t = b ∧ j = 2 then nI (pl_N B 0 0 0 + 1) else if t = a then (if j < 5 then nI (pl_v5 y1.1 y2.1 x.1 y.1 z.1 j) else 0) else ml_I Y t j := fun t j => by
      rw [hW, pl_I_sI, pl_I_sR, hIV]
    have n0 : pl_N (pl_aL B (pl_v5 y1.1 y2.1 x.1 y.1 z.1)) 0 0 0 = pl_N B 0 0 0 + 1 := rfl
    have n1 : pl_N (pl_aL B (pl_v5 y1.1 y2.1 x.1 y.1 z.1)) 0 1 0 = pl_N B 0 1 0 := rfl
    have n2 : pl_N (pl_aL B (pl_v5 y1.1 y2.1 x.1 y.1 z.1)) 0 2 0 = pl_N B 0 2 0 := rfl
    have nk := pl_aL_1 B (pl_v5 y1.1 y2.1 x.1 y.1 z.1)
    have hex : ∀ t, t ≤ ml_n m → ml_I W t = ml_I Y t ∧ ml_R W t = ml_R Y t := fun t htm => by
      constructor
      · funext j; rw [IW, if_neg (by omega), if_neg (by omega)]
      · funext j; rw [RW t j (by omega), if_neg (by omega)]
    refine ⟨⟨⟨by have := a1.1; omega, fun t htm => by rw [KW, if_neg (by omega)]; exact a1.2.1 t htm, fun t htm hn => ⟨by rw [(hex t htm).1]; exact (a1.2.2 t htm hn).1, by rw [(hex t htm).2]; exact (a1.2.2 t htm hn).2⟩⟩, fun t h1 h2 => ⟨?_, ?_⟩, by rw [JW]; exact a3, a4, a5, by rw [RW b 6 (by omega), if_neg (by omega)]; exact a6⟩, ⟨by rw [KW, if_neg (by omega)]; exact z1, by rw [RW b 6 (by omega), if_neg (by omega)]; exact z2, ?_, fun j hj => ?_, z5, z6⟩, ⟨?_, ?_, ?_, ?_⟩, ⟨by omega, by rw [n0, n1]; omega, by rw [n0, n1]; omega⟩, ⟨?_, ?_, ?_, o9.1, ?_⟩, fun l hl' => ?_, fun t ht' => ?_, fun t u ht' hu' he => ?_⟩
    · rw [(hex t (by omega)).1]; exact (a2 t h1 h2).1
    · have hJt : ml_J W t = ml_J Y t := by
        funext j
        rw [hW, hV, pl_J_sI, pl_J_sR, pl_J_sI, pl_J_sI, pl_J_sI, pl_J_sI, pl_J_sI, pl_J_al, if_neg (by omega)]
      rw [hJt]; exact (a2 t h1 h2).2
    · rw [RW b 6 (by omega), if_neg (by omega), KW, if_neg (by omega)]; exact z3
    · rw [RW b 6 (by omega), if_neg (by omega), IW, if_neg (fun z => z2 z.1), if_neg (by omega)]; exact z4 j hj
    · rw [RW b 0 (by omega), if_neg (by omega)]; exact c1
    · rw [RW b 1 (by omega), if_neg (by omega)]; exact c2
    · rw [KW, if_neg (by omega)]; exact c3
    · rw [KW, if_neg (by omega)]; exact c4
    · rw [IW, if_pos ⟨rfl, rfl⟩, n0]
    · rw [IW, if_neg (by omega), if_neg (by omega), n1]; exact e2'
    · rw [IW, if_neg (by omega), if_neg (by omega), n2]; exact e3'
    · funext j
      unfold pl_bs pl_up
      by_cases h7 : j = 7
      · rw [if_pos h7, IW, if_neg (by omega), if_neg (by omega), ← e5', h7, pl_bs_7]
      · rw [if_neg h7]
        by_cases h4 : j = 4
        · rw [if_pos h4, IW, if_neg (by omega), if_neg (by omega), h4, b4]
        · rw [if_neg h4]
    · rw [n0] at hl'
      by_cases hlc : l = pl_N B 0 0 0
      · have hRl : ml_R W (b + 1) l = a := by rw [RW _ _ (by omega), if_pos ⟨rfl, hlc⟩]
        rw [hRl, KW, if_pos rfl]
        refine ⟨⟨by omega, by omega⟩, rfl, fun k hk => ?_⟩
        rw [IW, if_neg (by omega), if_pos rfl, if_pos hk, nk, if_pos hlc]
      · have hRl : ml_R W (b + 1) l = ml_R Y (b + 1) l := by rw [RW _ _ (by omega), if_neg (fun z => hlc z.2)]
        obtain ⟨q1, q2, q3⟩ := hl l (by omega)
        rw [hRl, KW, if_neg (by omega)]
        refine ⟨⟨q1.1, by omega⟩, q2, fun k hk => ?_⟩
        rw [IW, if_neg (by omega), if_neg (by omega), nk, if_neg hlc]
        exact q3 k hk
    · have hRt : ml_R W (b + 2) t = ml_R Y (b + 2) t := by rw [RW _ _ (by omega), if_neg (by omega)]
      obtain ⟨q1, q2, q3⟩ := ht t ht'
      have hIt : ∀ k, ml_I W (ml_R Y (b + 2) t) k = ml_I Y (ml_R Y (b + 2) t) k := fun k => by rw [IW, if_neg (by omega), if_neg (by omega)]
      rw [hRt, KW, if_neg (by omega), hIt, hIt, hIt, hIt]
      exact ⟨⟨q1.1, by omega⟩, q2, q3⟩
    · rw [RW _ _ (by omega), RW _ _ (by omega), if_neg (by omega), if_neg (by omega)] at he
      exact hu t u ht' hu' he
  · have b4' : ¬ ml_I Y b 4 = -9 := by rw [b4, he4]; exact c0
    rw [if_neg c0]
    refine ⟨Y, ?_, ⟨a1, a2, a3, a4, a5, a6⟩, ⟨z1, z2, z3, z4, z5, z6⟩, ⟨c1, c2, c3, c4⟩, ⟨d1, d2, d3⟩, ⟨e1', e2', e3', e4', e5'⟩, hl, ht, hu⟩
    have kY1 : (ml_K Y b).1 = 1 := by rw [z1]
    rw [hhead, hD]
    unfold fX1_readLodger_48
    rw [if_pos (kW _), r4, pl_b1, if_pos (kW _), r5, pl_b2, if_pos (kW _), r6, pl_b1, if_pos (kW _), r7, pl_b2, if_pos (kW _), r8, pl_b1, if_pos (kW _), r9, pl_b2, if_pos kY1, if_neg b4']

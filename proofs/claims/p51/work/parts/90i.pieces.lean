/-! THE LAW: bits of paper, told to both, one back to front. -/
def pm_b (A B : pl_A) (i : Nat) : Prop := pl_N A 0 5 0 = i ∧ pl_N B 0 5 0 = i ∧ ∀ j, j < i → pl_N B 6 j 0 = pl_N A 6 j 0 ∧ pl_N B 6 j 1 = pl_N A 6 j 1 ∧ pl_N B 6 j 2 = pl_N A 6 j 3 ∧ pl_N B 6 j 3 = pl_N A 6 j 2
theorem pm_b.jn {A B : pl_A} {m : Nat} (h : pm_b A B m) {i j : Nat} (hi : i < m) (hj : j < m) : pl_jn B i j = pl_jn A j i := by
  obtain ⟨a0, a1, a2, a3⟩ := h.2.2 i hi
  obtain ⟨b0, b1, b2, b3⟩ := h.2.2 j hj
  unfold pl_jn
  rw [a0, a1, a3, b0, b1, b2]
  apply decide_eq_decide.mpr
  omega
theorem pm_b.e {A B A' B' : pl_A} {m : Nat} (h : pm_b A B m) (ha : pm_e A A') (hb : pm_e B B') : pm_b A' B' m := by
  unfold pm_b at *
  rw [ha.2 5 (by decide), hb.2 5 (by decide), ha.1 6 (by decide) (by decide), hb.1 6 (by decide) (by decide)]
  exact h
theorem pm_sRN (A : pl_A) (g c : Nat) (f : Nat → Nat) (j n a b k : Nat) : pl_N (pl_sR A g c f j n) a b k = if a = g ∧ b = c then f k else if a = 0 ∧ b = j ∧ k = 0 then n else pl_N A a b k := by
  have h : pl_N (pl_sR A g c f j n) a b k = if a = g ∧ b = c then f k else if a = 0 ∧ b = j ∧ k = 0 then n else pl_N A a b k := rfl
  exact h
theorem pm_b.s {A B : pl_A} {i a b x y : Nat} (h : pm_b A B i) : pm_b (pl_sR A 6 i (pl_4 a b x y) 5 (i + 1)) (pl_sR B 6 i (pl_4 a b y x) 5 (i + 1)) (i + 1) := by
  refine ⟨by rw [pm_sRN, if_neg (by omega), if_pos ⟨rfl, rfl, rfl⟩], by rw [pm_sRN, if_neg (by omega), if_pos ⟨rfl, rfl, rfl⟩], fun j hj => ?_⟩
  by_cases c : j = i
  · rw [c]
    refine ⟨?_, ?_, ?_, ?_⟩ <;> simp [pm_sRN, pl_4]
  · simp only [pm_sRN, c, and_false, if_false, show ¬ (6 = 0) by decide, false_and]
    exact h.2.2 j (by omega)
theorem pm_84 {L : Nat} {xs : Nat → Int32} {A B : pl_A} {r : ml_M} (h : ph_2 1 33 A B r) {i : Nat} (hb : pm_b A B i) (hi : i < 10) {v x y : Nat} (hv : v < 2 ^ 31) (hx : x ≤ 999) (hy : y ≤ 999) (K : Nat → Nat → Int32 → Int32 → ml_M → Option (Int32 × ml_M)) (l3 : Int32) :
    ∃ A1 B1 r1, fL_pieces_84 L xs K 1 33 l3 (nI i) (nI v) (nI x) (nI y) r = K 1 33 l3 (nI (i + 1)) r1 ∧ ph_2 1 33 A1 B1 r1 ∧ pm_b A1 B1 (i + 1) ∧ pl_N A1 0 3 0 = pl_N A 0 3 0 ∧ ph_c 2 r r1 := by
  have eh : (1 : Int32) + ((nI v / (81 : Int32)) - (nI v / (81 : Int32)) / (2 : Int32) * (2 : Int32)) = nI (1 + v / 81 % 2) := by
    have l81 : (81 : Int32) = nI 81 := rfl
    rw [l81, pk_div hv (by decide) (by decide), pl_l2, pk_rem (by omega) (by decide) (by decide), pl_l1, nI_add]
  have hA := pd_bit A (a := 1 + v / 81 % 2) (b := 0) (x := x) (y := y) (by rw [hb.1]; exact hi) (by omega) (by omega) (by decide) hx hy
  have hB := pd_bit B (a := 1 + v / 81 % 2) (b := 0) (x := y) (y := x) (by rw [hb.2.1]; exact hi) (by omega) (by omega) (by decide) hy hx
  rw [hb.1] at hA
  rw [hb.2.1] at hB
  obtain ⟨r1, e1, h1, c1⟩ := xo_bit hA h (by decide)
  obtain ⟨r2, e2, h2, c2⟩ := xo_bit hB h1.swap (by decide)
  have h2 := h2.swap
  refine ⟨_, _, r2, ?_, h2, hb.s, by rw [pm_sRN, if_neg (by omega), if_neg (by omega)], c1.trans c2⟩
  unfold fL_pieces_84
  have x1 : fX10_bit 1 (nI (1 + v / 81 % 2)) 0 (nI x) (nI y) r = some (nI i, r1) := e1
  have x2 : fX10_bit 33 (nI (1 + v / 81 % 2)) 0 (nI y) (nI x) r1 = some (nI i, r2) := e2
  rw [if_pos (h.k (by decide)), eh, x1, pl_b2, if_pos rfl, if_pos (h1.swap.k (by decide)), x2, pl_b2, if_pos rfl, nI_1]
def pm_ed (q s : Nat) : Nat := if q = 0 then 0 else 400 + 100 * s
theorem pm_ed_le {q s : Nat} (hs : s < 3) : pm_ed q s ≤ 999 := by unfold pm_ed; split <;> omega
theorem pm_12 {L : Nat} (hL : L ≤ 1000) {xs : Nat → Int32} {A B : pl_A} {r : ml_M} (h : ph_2 1 33 A B r) {i m : Nat} (hb : pm_b A B i) (hi : i < m) (hm : m ≤ 7) (fu : Nat) :
    ∃ A1 B1 r1, fL_pieces_12 L xs (fu + 1) 1 33 (nI m) (nI i) r = fL_pieces_12 L xs fu 1 33 (nI m) (nI (i + 1)) r1 ∧ ph_2 1 33 A1 B1 r1 ∧ pm_b A1 B1 (i + 1) ∧ pl_N A1 0 3 0 = pl_N A 0 3 0 ∧ ph_c 2 r r1 := by
  obtain ⟨v, hv⟩ : ∃ v, v = pw_c L xs (150 + i) := ⟨_, rfl⟩
  have hv28 := pw_c_lt L xs (show 150 + i ≤ 1000 by omega)
  rw [← hv] at hv28
  have hc := pw_cell hL xs (show 150 + i ≤ 1000 by omega) r
  rw [← hv] at hc
  have l150 : (150 : Int32) = nI 150 := rfl
  have l400 : (400 : Int32) = nI 400 := rfl
  have m9 : (nI v / (9 : Int32)) - (nI v / (9 : Int32)) / (3 : Int32) * (3 : Int32) = nI (v / 9 % 3) := by
    rw [pl_l9, pk_div (by omega) (by decide) (by decide), pl_l3, pk_rem (by omega) (by decide) (by decide)]
  have m27 : (nI v / (27 : Int32)) - (nI v / (27 : Int32)) / (3 : Int32) * (3 : Int32) = nI (v / 27 % 3) := by
    rw [pl_l27, pk_div (by omega) (by decide) (by decide), pl_l3, pk_rem (by omega) (by decide) (by decide)]
  have m3 : (nI v / (3 : Int32)) - (nI v / (3 : Int32)) / (3 : Int32) * (3 : Int32) = nI (v / 3 % 3) := by
    rw [pl_l3, pk_div (by omega) (by decide) (by decide), pk_rem (by omega) (by decide) (by decide)]
  have m1 : nI v - nI v / (3 : Int32) * (3 : Int32) = nI (v % 3) := by
    rw [pl_l3, pk_rem (by omega) (by decide) (by decide)]
  have e54 : ∀ x, fL_pieces_54 L xs (fL_pieces_12 L xs fu) 1 33 (nI m) (nI i) (nI v) (nI x) r = fL_pieces_84 L xs (fL_pieces_12 L xs fu) 1 33 (nI m) (nI i) (nI v) (nI x) (nI (pm_ed (v / 9 % 3) (v / 27 % 3))) r := fun x => by
    unfold fL_pieces_54 pm_ed
    rw [m9, m27]
    by_cases c : v / 9 % 3 = 0
    · rw [c, if_pos nI_0, if_pos rfl, nI_0]
    · rw [if_neg (nI_ne0 (by omega) (by omega)), if_neg c, l400, pl_l100, pk_mul, nI_add]
  obtain ⟨A1, B1, r1, e1, h1, h2, h3, h4⟩ := pm_84 (L := L) (xs := xs) h hb (show i < 10 by omega) (v := v) (x := pm_ed (v % 3) (v / 3 % 3)) (y := pm_ed (v / 9 % 3) (v / 27 % 3)) (by omega) (pm_ed_le (by omega)) (pm_ed_le (by omega)) (fL_pieces_12 L xs fu) (nI m)
  refine ⟨A1, B1, r1, ?_, h1, h2, h3, h4⟩
  rw [← e1, ← e54, fL_pieces_12, if_neg (by rw [nI_leI (by omega) (by omega)]; omega), l150, nI_add, hc, pl_b1, m1, m3]
  unfold pm_ed
  by_cases c : v % 3 = 0
  · rw [c, if_pos nI_0, if_pos rfl, nI_0]
  · rw [if_neg (nI_ne0 (by omega) (by omega)), if_neg c, l400, pl_l100, pk_mul, nI_add]
/-- one bit more of the row -/
theorem pm_ad_take (A : pl_A) (w : List Nat) {k : Nat} (hk : k < w.length) : pm_ad A (w.take (k + 1)) = pm_ad A (w.take k) + (if k = 0 then 0 else if pl_jn A (w.getD (k - 1) 0) (w.getD k 0) = true then 0 else 1) := by
  have h1 : w.take (k + 1) = w.take k ++ [w.getD k 0] := by rw [List.take_add_one, List.getElem?_eq_getElem hk, pl_getD_e hk]; rfl
  cases k with
  | zero => rw [h1]; rfl
  | succ k =>
    have h2 : w.take (k + 1) = w.take k ++ [w.getD k 0] := by rw [List.take_add_one, List.getElem?_eq_getElem (by omega), pl_getD_e (by omega)]; rfl
    rw [h1, h2, if_neg (by omega), Nat.add_sub_cancel, List.append_assoc]
    exact pm_ad_app A _ _ _
theorem pm_us_take (w : List Nat) {k : Nat} (hk : k < w.length) : pl_us (w.take (k + 1)) = pl_us (w.take k) ||| 2 ^ w.getD k 0 := by
  rw [List.take_add_one, List.getElem?_eq_getElem hk, pl_getD_e hk]
  exact pl_us_app _ _
theorem pm_206 {L : Nat} {xs : Nat → Int32} {A B : pl_A} {r : ml_M} (h : ph_2 1 33 A B r) {m : Nat} {w : List Nat} (hm : pl_N A 0 5 0 = m) (h7 : m ≤ 7) (h84 : pl_N A 8 4 0 = m + 1) (hv : ∀ k, k < m → pl_V A 0 4 k = nI (w.getD k 0)) (hlen : w.length = m) (hnd : w.Nodup) (hlt : ∀ x, x ∈ w → x < m) (g : Nat) (l4 : Int32) :
    ∃ A1 r1, fL_pieces_206 L xs ml_fu 1 33 (nI m) l4 (nI g) 0 (-1) 0 r = fL_pieces_278 L xs 1 33 (nI m) l4 (nI (g + pm_ad A w)) (nI (pl_us w)) r1 ∧ ph_2 1 33 A1 B r1 ∧ pm_e A A1 ∧ ph_c m r r1 := by
  have hlp := pw_for (F := fun fu k (s : Nat × Nat × Int32 × ml_M) => fL_pieces_206 L xs fu 1 33 (nI m) l4 (nI s.1) (nI s.2.1) s.2.2.1 (nI k) s.2.2.2) (Inv := fun k s => s.1 = g + pm_ad A (w.take k) ∧ s.2.1 = pl_us (w.take k) ∧ s.2.2.1 = (if k = 0 then -1 else nI (w.getD (k - 1) 0)) ∧ (∃ A1, ph_2 1 33 A1 B s.2.2.2 ∧ pm_e A A1 ∧ pl_N A1 8 4 0 = m + 1 ∧ ∀ k, pl_V A1 0 4 k = pl_V A 0 4 k) ∧ ph_c k r s.2.2.2) (Post := fun R => ∃ A1 r1, R = fL_pieces_278 L xs 1 33 (nI m) l4 (nI (g + pm_ad A w)) (nI (pl_us w)) r1 ∧ ph_2 1 33 A1 B r1 ∧ pm_e A A1 ∧ ph_c m r r1) m (fun fu k s hk hv' => ?_) (fun fu s hv' => ?_) ml_fu (by rw [pl_fu]; omega) (g, 0, -1, r) ⟨rfl, rfl, rfl, ⟨A, h, pm_e.refl _, h84, fun _ => rfl⟩, ph_c.refl _⟩
  · exact hlp
  · obtain ⟨v1, v2, v3, ⟨A1, v4, v5, v6, v7⟩, v8⟩ := hv'
    have hkm : w.getD k 0 < m := pm_get_lt (by omega) hlt
    obtain ⟨r1, e1, h1, c1⟩ := xo_at (pd_at A1 (r := 4) (n := m) (i := k) (by decide) v6 hk) v4 (by decide)
    rw [v7, hv k hk] at h1
    have E1 := v5.trans (pm_e_t A1 (nI (w.getD k 0)))
    obtain ⟨A2, hA2⟩ : ∃ z, z = pl_tA A1 (nI (w.getD k 0)) := ⟨_, rfl⟩
    have va := pm_v3 A1 (nI (w.getD k 0))
    have n84 : pl_N A2 8 4 0 = m + 1 := by rw [hA2]; unfold pl_tA; rw [pl_N_sV]; exact v6
    have v04 : ∀ k, pl_V A2 0 4 k = pl_V A 0 4 k := fun k => by rw [hA2]; unfold pl_tA; rw [pl_V_sV, if_neg (by omega)]; exact v7 k
    rw [← hA2] at h1 E1 va
    have a1 := xp_asked (pd_asked A2) h1 (by decide)
    rw [va] at a1
    have hjn : pl_jn A2 = pl_jn A := (pl_G_eq (E1.1 6 (by decide) (by decide)) (E1.2 5 (by decide))).1
    refine ⟨(g + pm_ad A (w.take (k + 1)), pl_us (w.take (k + 1)), nI (w.getD k 0), r1), ?_, rfl, rfl, by rw [if_neg (by omega), Nat.add_sub_cancel], ⟨A2, h1, E1, n84, v04⟩, v8.trans c1⟩
    show fL_pieces_206 L xs (fu + 1) 1 33 (nI m) l4 (nI s.1) (nI s.2.1) s.2.2.1 (nI k) s.2.2.2 = fL_pieces_206 L xs fu 1 33 (nI m) l4 (nI (g + pm_ad A (w.take (k + 1)))) (nI (pl_us (w.take (k + 1)))) (nI (w.getD k 0)) (nI (k + 1)) r1
    have e256 : ∀ t, fL_pieces_256 L xs (fL_pieces_206 L xs fu) 1 33 (nI m) l4 (nI s.2.1) (nI k) (nI (w.getD k 0)) (nI t) (nI s.1) r1 = fL_pieces_206 L xs fu 1 33 (nI m) l4 (nI (s.1 + t)) (nI (pl_us (w.take (k + 1)))) (nI (w.getD k 0)) (nI (k + 1)) r1 := fun t => by
      unfold fL_pieces_256
      rw [pl_let, pl_let, pl_shl1 (by omega), pl_or, nI_add, nI_1, v2, pm_us_take w (by omega)]
    have e255 : fL_pieces_255 L xs (fL_pieces_206 L xs fu) 1 33 (nI m) l4 (nI s.2.1) (nI k) (nI (w.getD k 0)) (nI s.1) r1 = fL_pieces_206 L xs fu 1 33 (nI m) l4 (nI s.1) (nI (pl_us (w.take (k + 1)))) (nI (w.getD k 0)) (nI (k + 1)) r1 := e256 0
    rw [fL_pieces_206, if_neg (by rw [nI_leI (by omega) (by omega)]; omega), if_pos (v4.k (by decide)), pl_l4, e1, pl_b2, if_pos rfl, if_pos (h1.k (by decide)), a1, pl_b1]
    unfold fL_pieces_231
    by_cases c0 : k = 0
    · rw [v3, if_pos c0, if_pos (by decide), e255, pm_ad_take A w (by omega), if_pos c0, v1]; rfl
    · have hk1 : w.getD (k - 1) 0 < m := pm_get_lt (by omega) hlt
      have hne : w.getD (k - 1) 0 ≠ w.getD k 0 := by
        rw [pl_getD_e (by omega), pl_getD_e (by omega)]
        intro z
        have := (List.nodup_iff_pairwise_ne.mp hnd)
        rw [List.pairwise_iff_getElem] at this
        exact this (k - 1) k (by omega) (by omega) (by omega) z
      have hj := xp_joins (pd_joins A2 (i := w.getD (k - 1) 0) (j := w.getD k 0) (by rw [E1.2 5 (by decide), hm]; exact hk1) (by rw [E1.2 5 (by decide), hm]; exact hkm)) h1 (by decide)
      rw [if_neg hne, hjn] at hj
      rw [v3, if_neg c0, if_neg (nI_pos (by omega)), if_pos (h1.k (by decide)), hj, pl_b1, pm_ad_take A w (by omega), if_neg c0]
      by_cases c1 : pl_jn A (w.getD (k - 1) 0) (w.getD k 0) = true
      · rw [if_pos c1, if_pos c1, if_neg (by decide), e255, v1]; rfl
      · rw [if_neg c1, if_neg c1, if_pos rfl]
        have := e256 1
        rw [v1, Nat.add_assoc] at this
        rw [v1]
        exact this
  · obtain ⟨v1, v2, v3, ⟨A1, v4, v5, v6, v7⟩, v8⟩ := hv'
    refine ⟨A1, s.2.2.2, ?_, v4, v5, v8⟩
    show fL_pieces_206 L xs (fu + 1) 1 33 (nI m) l4 (nI s.1) (nI s.2.1) s.2.2.1 (nI m) s.2.2.2 = _
    rw [fL_pieces_206, if_pos (nI_le (Nat.le_refl _) (by omega)), v1, v2, List.take_of_length_le (by omega)]
/-- whether they join is compared -/
theorem pm_278 {L : Nat} {xs : Nat → Int32} {A B : pl_A} {r : ml_M} (h : ph_2 1 33 A B r) {m : Nat} (hb : pm_b A B m) (h7 : m ≤ 7) (l4 l5 l6 : Int32) : fL_pieces_278 L xs 1 33 (nI m) l4 l5 l6 r = fL_pieces_329 L xs (nI m) l4 l5 l6 r := by
  have hin : ∀ (K : Nat → Nat → Int32 → Int32 → Int32 → Int32 → Int32 → ml_M → Option (Int32 × ml_M)) i, i < m → fL_pieces_290 L xs K ml_fu 1 33 (nI m) l4 l5 l6 (nI i) 0 r = fL_pieces_323 L xs K 1 33 (nI m) l4 l5 l6 (nI i) r := fun K i hi => by
    have hh := pl_for (F := fun fu j (_ : Unit) => fL_pieces_290 L xs K fu 1 33 (nI m) l4 l5 l6 (nI i) (nI j) r) (R := fL_pieces_323 L xs K 1 33 (nI m) l4 l5 l6 (nI i) r) m (fun _ => ()) (fun fu j hj => ?_) (fun fu => ?_) ml_fu (by rw [pl_fu]; omega)
    · exact hh
    · show fL_pieces_290 L xs K (fu + 1) 1 33 (nI m) l4 l5 l6 (nI i) (nI j) r = fL_pieces_290 L xs K fu 1 33 (nI m) l4 l5 l6 (nI i) (nI (j + 1)) r
      have j1 := xp_joins (pd_joins A (i := i) (j := j) (by rw [hb.1]; exact hi) (by rw [hb.1]; exact hj)) h (by decide)
      have j2 := xp_joins (pd_joins B (i := j) (j := i) (by rw [hb.2.1]; exact hj) (by rw [hb.2.1]; exact hi)) h.swap (by decide)
      have ej : (if j = i then (-1 : Int32) else if pl_jn B j i then 1 else 0) = (if i = j then -1 else if pl_jn A i j then 1 else 0) := by
        rw [hb.jn hj hi]
        by_cases c : i = j
        · rw [if_pos c, if_pos c.symm]
        · rw [if_neg c, if_neg (fun z => c z.symm)]
      rw [ej] at j2
      rw [fL_pieces_290, if_neg (by rw [nI_leI (by omega) (by omega)]; omega), if_pos (h.k (by decide)), j1, pl_b1, if_pos (h.swap.k (by decide)), j2, pl_b1, if_pos rfl, nI_1]
    · rw [fL_pieces_290, if_pos (nI_le (Nat.le_refl _) (by omega))]
  have hh := pl_for (F := fun fu i (_ : Unit) => fL_pieces_281 L xs fu 1 33 (nI m) l4 l5 l6 (nI i) r) (R := fL_pieces_329 L xs (nI m) l4 l5 l6 r) m (fun _ => ()) (fun fu i hi => ?_) (fun fu => ?_) ml_fu (by rw [pl_fu]; omega)
  · exact hh
  · show fL_pieces_281 L xs (fu + 1) 1 33 (nI m) l4 l5 l6 (nI i) r = fL_pieces_281 L xs fu 1 33 (nI m) l4 l5 l6 (nI (i + 1)) r
    rw [fL_pieces_281, if_neg (by rw [nI_leI (by omega) (by omega)]; omega), hin _ i hi]
    unfold fL_pieces_323
    rw [nI_1]
  · rw [fL_pieces_281, if_pos (nI_le (Nat.le_refl _) (by omega))]
theorem pm_140 {L : Nat} {xs : Nat → Int32} {A B : pl_A} {r : ml_M} (h : ph_2 1 33 A B r) {m : Nat} (hb : pm_b A B m) (h7 : m ≤ 7) :
    ∃ A1 B1 r1, fL_pieces_140 L xs 1 33 (nI m) r = some (1, r1) ∧ ph_2 1 33 A1 B1 r1 ∧ pm_e A A1 ∧ ph_c (4 + m) r r1 := by
  obtain ⟨f1, f2, f3, f4⟩ := pm_fr0 hb.1 (show m ≤ 50 by omega)
  obtain ⟨g1, g2⟩ := pm_Gb hb.1 (show m ≤ 50 by omega)
  have hGG := pm_GG hb.1 hb.2.1 (show m ≤ 50 by omega) fun i j hi hj => hb.jn hi hj
  have hDA := pd_sheets A (r := 4) (by decide)
  have hDB := pd_sheets B (r := 4) (by decide)
  rw [hb.1] at hDA
  rw [hb.2.1, hGG] at hDB
  obtain ⟨r1, e1, h1, c1⟩ := xo_sheets hDA h (by decide)
  obtain ⟨r2, e2, h2, c2⟩ := xo_sheets hDB h1.swap (by decide)
  have h2 := h2.swap
  obtain ⟨w, hw⟩ : ∃ w, w = pl_fr A m 0 fun _ => false := ⟨_, rfl⟩
  rw [← hw] at f1 f2 f3 f4 h2
  obtain ⟨A1, hA1⟩ : ∃ z, z = pl_rA A 4 (m + 1) (fun k => nI (w.getD k 0)) := ⟨_, rfl⟩
  obtain ⟨B1, hB1⟩ : ∃ z, z = pl_rA B 4 (m + 1) (fun k => nI ((pl_fr B m 0 fun _ => false).getD k 0)) := ⟨_, rfl⟩
  rw [← hA1, ← hB1] at h2
  have EA : pm_e A A1 := by rw [hA1]; exact pm_e_r _ _ _ _
  have EB : pm_e B B1 := by rw [hB1]; exact pm_e_r _ _ _ _
  have hb1 := hb.e EA EB
  have hGA : pl_G A1 = pl_G A := (pl_G_eq (EA.1 6 (by decide) (by decide)) (EA.2 5 (by decide))).2.1
  have hGB : pl_G B1 = pl_G B := (pl_G_eq (EB.1 6 (by decide) (by decide)) (EB.2 5 (by decide))).2.1
  have hjn : pl_jn A1 = pl_jn A := (pl_G_eq (EA.1 6 (by decide) (by decide)) (EA.2 5 (by decide))).1
  have hLA := pd_laid A1
  have hLB := pd_laid B1
  rw [hb1.1, hGA] at hLA
  rw [hb1.2.1, hGB, hGG] at hLB
  obtain ⟨r3, e3, h3, c3⟩ := xo_laid hLA h2 (by decide)
  obtain ⟨r4, e4, h4, c4⟩ := xo_laid hLB h3.swap (by decide)
  have h4 := h4.swap
  have hus : pl_us w = 2 ^ m - 1 := by
    rw [← pl_bc_full (pl_us_lt f3), pl_us_bc f2 f3]; exact f1
  have had : ∀ g, (g = if m = 0 then 0 else 1) → g + pm_ad A1 w = (pl_G A m 0 fun _ => false).1 := fun g hg => by
    have : pm_ad A1 w = pm_ad A w := by
      have hx : ∀ w : List Nat, pm_ad A1 w = pm_ad A w := fun w => by
        induction w with
        | nil => rfl
        | cons a w ih =>
          cases w with
          | nil => rfl
          | cons b v => rw [pm_ad2, pm_ad2, ih, hjn]
      exact hx w
    rw [this, ← f4, hg]
    cases w with
    | nil =>
      have : m = 0 := f1.symm
      rw [if_pos this]; rfl
    | cons a v =>
      have : m ≠ 0 := by
        rw [← f1, List.length_cons]; omega
      rw [if_neg this, pm_gp1, pm_gp_ad, if_neg (by decide), Nat.add_comm]
  have e195 : ∀ g, (g = if m = 0 then 0 else 1) → ∃ A2 r5, fL_pieces_195 L xs 1 33 (nI m) (nI (pl_G A m 0 fun _ => false).1) (nI g) r4 = some (1, r5) ∧ ph_2 1 33 A2 B1 r5 ∧ pm_e A A2 ∧ ph_c m r4 r5 := fun g hg => by
    obtain ⟨A2, r5, x1, x2, x3, x4⟩ := pm_206 (L := L) (xs := xs) h4 hb1.1 h7 (w := w) (by rw [hA1]; unfold pl_rA; rw [pl_N_sVr, pl_N_sN, if_pos ⟨rfl, rfl, rfl⟩]) (fun k _ => by rw [hA1]; unfold pl_rA; rw [pl_V_sVr, if_pos ⟨rfl, rfl⟩]) f1 f2 f3 g (nI (pl_G A m 0 fun _ => false).1)
    refine ⟨A2, r5, ?_, x2, EA.trans x3, x4⟩
    unfold fL_pieces_195
    rw [x1, pm_278 x2 (hb1.e x3 (pm_e.refl _)) h7]
    unfold fL_pieces_329
    have hp : 0 < 2 ^ m := Nat.pow_pos (by decide)
    rw [had g hg, if_pos rfl, hus, pl_shl1 (by omega), pl_l1, pl_sub hp, if_pos rfl]
  have e186 : ∃ A2 r5, fL_pieces_186 L xs 1 33 (nI m) (nI (pl_G A m 0 fun _ => false).1) r4 = some (1, r5) ∧ ph_2 1 33 A2 B1 r5 ∧ pm_e A A2 ∧ ph_c m r4 r5 := by
    unfold fL_pieces_186
    by_cases c : m = 0
    · rw [if_pos (show nI m = 0 by rw [c]; exact nI_0)]
      exact e195 0 (by rw [if_pos c])
    · rw [if_neg (nI_ne0 (by omega) (by omega))]
      exact e195 1 (by rw [if_neg c])
  obtain ⟨A2, r5, x1, x2, x3, x4⟩ := e186
  refine ⟨A2, B1, r5, ?_, x2, x3, (((((c1.trans c2).trans c3).trans c4).trans x4).le (by omega))⟩
  unfold fL_pieces_140
  rw [if_pos (h.k (by decide)), pl_l4, e1, pl_b2, if_pos (h1.swap.k (by decide)), e2, pl_b2, if_pos rfl, if_pos (h2.k (by decide)), e3, pl_b2, if_pos (h3.swap.k (by decide)), e4, pl_b2, if_pos rfl, if_neg (nI_nlt g1 (by omega))]
  by_cases c : m = 0
  · rw [if_pos (show nI m ≤ 0 by rw [c]; decide)]
    exact x1
  · rw [if_neg (nI_nle (by omega) (by omega)), pl_l1, if_pos (nI_le (g2 (by omega)) (by omega))]
    exact x1
theorem pm_pieces {L : Nat} (hL : L ≤ 1000) {xs : Nat → Int32} {A B : pl_A} {r : ml_M} (h : ph_2 1 33 A B r) (hA : pl_N A 0 5 0 = 0) (hB : pl_N B 0 5 0 = 0) :
    ∃ A1 B1 r1, fL_pieces L xs 1 33 r = some (1, r1) ∧ ph_2 1 33 A1 B1 r1 ∧ pl_N A1 0 3 0 = pl_N A 0 3 0 ∧ ph_c 25 r r1 := by
  obtain ⟨m, hm⟩ : ∃ m, m = pw_c L xs 4 % 8 := ⟨_, rfl⟩
  have h28 := pw_c_lt L xs (show 4 ≤ 1000 by omega)
  have hc := pw_cell hL xs (show 4 ≤ 1000 by omega) r
  have hm7 : m ≤ 7 := by omega
  have hlp := pw_for (F := fun fu i (s : ml_M) => fL_pieces_12 L xs fu 1 33 (nI m) (nI i) s) (Inv := fun i s => ∃ A1 B1, ph_2 1 33 A1 B1 s ∧ pm_b A1 B1 i ∧ pl_N A1 0 3 0 = pl_N A 0 3 0 ∧ ph_c (2 * i) r s) (Post := fun R => ∃ A1 B1 r1, R = some (1, r1) ∧ ph_2 1 33 A1 B1 r1 ∧ pl_N A1 0 3 0 = pl_N A 0 3 0 ∧ ph_c 25 r r1) m (fun fu i s hi hv => ?_) (fun fu s hv => ?_) ml_fu (by rw [pl_fu]; omega) r ⟨A, B, h, ⟨hA, hB, fun j hj => absurd hj (Nat.not_lt_zero j)⟩, rfl, ph_c.refl _⟩
  · obtain ⟨A1, B1, r1, x1, x2, x3, x4⟩ := hlp
    refine ⟨A1, B1, r1, ?_, x2, x3, x4⟩
    have x1' : fL_pieces_12 L xs ml_fu 1 33 (nI m) 0 r = some (1, r1) := x1
    unfold fL_pieces
    rw [pl_l4, hc, pl_b1, pl_let, pl_l8, pk_rem (by omega) (by decide) (by decide), ← hm, x1']
  · obtain ⟨A1, B1, v1, v2, v3, v4⟩ := hv
    obtain ⟨A2, B2, r1, x1, x2, x3, x4, x5⟩ := pm_12 hL (xs := xs) v1 v2 hi hm7 fu
    exact ⟨r1, x1, A2, B2, x2, x3, x4.trans v3, (v4.trans x5).le (by omega)⟩
  · obtain ⟨A1, B1, v1, v2, v3, v4⟩ := hv
    obtain ⟨A2, B2, r1, x1, x2, x3, x4⟩ := pm_140 (L := L) (xs := xs) v1 v2 hm7
    refine ⟨A2, B2, r1, ?_, x2, (x3.2 3 (by decide)).trans v3, (v4.trans x4).le (by omega)⟩
    show fL_pieces_12 L xs (fu + 1) 1 33 (nI m) (nI m) s = _
    rw [fL_pieces_12, if_pos (nI_le (Nat.le_refl _) (by omega)), x1]

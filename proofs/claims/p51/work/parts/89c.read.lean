/-! THE BOOK TOLD IS READ: what the pure reading makes of the bytes. -/
def pw_at (f : Nat → Int32) (p : Nat) (bs : List Nat) : Prop := ∀ j, j < bs.length → f (p + j) = nI (bs.getD j 32)
theorem pw_at_app {f : Nat → Int32} {p : Nat} {a b : List Nat} (h : pw_at f p (a ++ b)) : pw_at f p a ∧ pw_at f (p + a.length) b := by
  refine ⟨fun j hj => ?_, fun j hj => ?_⟩
  · rw [h j (by rw [List.length_append]; omega)]
    simp [List.getElem?_append_left hj]
  · rw [Nat.add_assoc, h (a.length + j) (by rw [List.length_append]; omega)]
    simp [List.getElem?_append_right (Nat.le_add_right a.length j)]
theorem pw_at_1 {f : Nat → Int32} {p c : Nat} (h : pw_at f p [c]) : f p = nI c := h 0 (by simp)
theorem pw_fgt {f : Nat → Int32} {L a b q d : Nat} (hq : q < L) (hf : f q = nI (48 + d)) (h1 : a ≤ d) (h2 : d < b) (hb : b ≤ 10) : pl_fg f L a b (q, 0) = (d, (q + 1, 0)) ∧ pl_fgv f L a b q = true := by
  have hv : pl_fgv f L a b q = true := by
    unfold pl_fgv
    rw [hf]
    exact decide_eq_true ⟨hq, nI_le (by omega) (by omega), nI_lt (by omega) (by omega)⟩
  refine ⟨?_, hv⟩
  unfold pl_fg
  have hn : pl_fn f q = d := by unfold pl_fn; rw [hf, nI_clamp (by omega)]; omega
  show (if (0 : Nat) = 0 then if pl_fgv f L a b q = true then (pl_fn f q, (q + 1, 0)) else (0, (q, q + 1)) else (0, (q, 0))) = _
  rw [if_pos rfl, if_pos hv, hn]
theorem pw_fgf {f : Nat → Int32} {L q c : Nat} (hf : f q = nI c) (hc : c < 200) (h : c < 48 ∨ 58 ≤ c) : pl_fgv f L 0 10 q = false := by
  unfold pl_fgv
  rw [hf]
  refine decide_eq_false fun z => ?_
  have z1 := (nI_leI (by omega) (by omega)).mp z.2.1
  have z2 := (nI_ltI (by omega) (by omega)).mp z.2.2
  omega
theorem pw_sg {f : Nat → Int32} {L q c : Nat} (hq : q < L) (hf : f q = nI c) : pl_sgn f L (nI c) (q, 0) = (q + 1, 0) := by
  unfold pl_sgn
  show (if (0 : Nat) = 0 then if q < L ∧ f q = nI c then (q + 1, 0) else (q, q + 1) else (q, 0)) = _
  rw [if_pos rfl, if_pos ⟨hq, hf⟩]
theorem pw_yr {f : Nat → Int32} {L q v c : Nat} (hL : q + (pw_nb v).length < L) (hv : v < 100) (h : pw_at f q (pw_nb v)) (hc : f (q + (pw_nb v).length) = nI c) (hc2 : c < 200) (hc3 : c < 48 ∨ 58 ≤ c) : pl_yrp f L (q, 0) = (v, (q + (pw_nb v).length, 0)) := by
  unfold pw_nb at *
  by_cases h10 : v < 10
  · rw [if_pos h10] at *
    have f0 := pw_at_1 h
    obtain ⟨g1, -⟩ := pw_fgt (f := f) (L := L) (a := 0) (b := 10) (q := q) (d := v) (by simp at hL; omega) f0 (Nat.zero_le _) h10 (Nat.le_refl _)
    have g2 := pw_fgf (L := L) hc hc2 hc3
    have g2 : pl_fgv f L 0 10 (q + 1) = false := g2
    unfold pl_yrp
    rw [g1]
    show (if (0 : Nat) = 0 ∧ pl_fgv f L 0 10 (q + 1) = true then _ else _) = _
    rw [g2, if_neg (fun z => by cases z.2)]; rfl
  · rw [if_neg h10] at *
    have f0 := h 0 (by simp)
    have f1 := h 1 (by simp)
    obtain ⟨g1, -⟩ := pw_fgt (f := f) (L := L) (a := 0) (b := 10) (q := q) (d := v / 10) (by simp at hL; omega) f0 (Nat.zero_le _) (by omega) (Nat.le_refl _)
    obtain ⟨g2, g3⟩ := pw_fgt (f := f) (L := L) (a := 0) (b := 10) (q := q + 1) (d := v % 10) (by simp at hL; omega) f1 (Nat.zero_le _) (by omega) (Nat.le_refl _)
    unfold pl_yrp
    rw [g1]
    show (if (0 : Nat) = 0 ∧ pl_fgv f L 0 10 (q + 1) = true then (10 * (v / 10) + (pl_fg f L 0 10 (q + 1, 0)).1, (pl_fg f L 0 10 (q + 1, 0)).2) else _) = _
    rw [if_pos ⟨rfl, g3⟩, g2]
    show (10 * (v / 10) + v % 10, (q + 1 + 1, 0)) = (v, (q + 2, 0))
    rw [show 10 * (v / 10) + v % 10 = v by omega]
theorem pw_ldq {f : Nat → Int32} {L p : Nat} {g : Nat → Nat} (hL : p + (pw_lb g).length ≤ L) (h : pw_at f p (pw_lb g)) (h0 : g 0 ≤ g 1) (h1 : g 1 < 100) (hg : ∀ j, 2 ≤ j → j < 5 → 1 ≤ g j ∧ g j < 10) : pl_ldq f L p = (pl_v5 (g 0) (g 1) (g 2) (g 3) (g 4), (p + (pw_lb g).length, 0)) := by
  obtain ⟨n0, hn0⟩ : ∃ n, n = (pw_nb (g 0)).length := ⟨_, rfl⟩
  obtain ⟨n1, hn1⟩ : ∃ n, n = (pw_nb (g 1)).length := ⟨_, rfl⟩
  have hlen : (pw_lb g).length = n0 + n1 + 8 := by
    unfold pw_lb
    simp only [List.length_append, List.length_cons, List.length_nil, ← hn0, ← hn1]
    omega
  rw [hlen] at hL ⊢
  unfold pw_lb at h
  obtain ⟨h, b9⟩ := pw_at_app h
  obtain ⟨h, b8⟩ := pw_at_app h
  obtain ⟨h, b7⟩ := pw_at_app h
  obtain ⟨h, b6⟩ := pw_at_app h
  obtain ⟨h, b5⟩ := pw_at_app h
  obtain ⟨h, b4⟩ := pw_at_app h
  obtain ⟨h, b3⟩ := pw_at_app h
  obtain ⟨h, b2⟩ := pw_at_app h
  obtain ⟨b0, b1⟩ := pw_at_app h
  simp only [List.length_append, List.length_cons, List.length_nil, ← hn0, ← hn1] at b1 b2 b3 b4 b5 b6 b7 b8 b9
  have c2 := pw_at_1 b2
  have c4 := pw_at_1 b4
  have c5 := pw_at_1 b5
  have c6 := pw_at_1 b6
  have c7 := pw_at_1 b7
  have c8 := pw_at_1 b8
  have c9 := pw_at_1 b9
  have e45 : (45 : Int32) = nI 45 := rfl
  have y1 := pw_yr (L := L) (q := p + 1) (v := g 0) (c := 45) (by rw [← hn0]; omega) (by omega) b1 (by rw [← hn0, ← c2]; congr 1; omega) (by decide) (by decide)
  rw [← hn0] at y1
  have s1 : pl_sgn f L 45 (p + 1 + n0, 0) = (p + 1 + n0 + 1, 0) := by
    rw [e45]; exact pw_sg (by omega) (by rw [← c2]; congr 1; omega)
  have y2 := pw_yr (L := L) (q := p + 1 + n0 + 1) (v := g 1) (c := 115) (by rw [← hn1]; omega) h1 (by
    have e : p + 1 + n0 + 1 = p + (0 + 1 + n0 + (0 + 1)) := by omega
    rw [e]; exact b3) (by rw [← hn1, ← c4]; congr 1; omega) (by decide) (by decide)
  rw [← hn1] at y2
  have s2 : pl_sgn f L 115 (p + 1 + n0 + 1 + n1, 0) = (p + 1 + n0 + 1 + n1 + 1, 0) := by
    rw [pw_l115]; exact pw_sg (by omega) (by rw [← c4]; congr 1; omega)
  obtain ⟨x1, -⟩ := pw_fgt (f := f) (L := L) (a := 1) (b := 10) (q := p + 1 + n0 + 1 + n1 + 1) (d := g 2) (by omega) (by rw [← c5]; congr 1; omega) (hg 2 (by decide) (by decide)).1 (hg 2 (by decide) (by decide)).2 (Nat.le_refl _)
  have s3 : pl_sgn f L 116 (p + 1 + n0 + 1 + n1 + 1 + 1, 0) = (p + 1 + n0 + 1 + n1 + 1 + 1 + 1, 0) := by
    rw [pw_l116]; exact pw_sg (by omega) (by rw [← c6]; congr 1; omega)
  obtain ⟨x2, -⟩ := pw_fgt (f := f) (L := L) (a := 1) (b := 10) (q := p + 1 + n0 + 1 + n1 + 1 + 1 + 1) (d := g 3) (by omega) (by rw [← c7]; congr 1; omega) (hg 3 (by decide) (by decide)).1 (hg 3 (by decide) (by decide)).2 (Nat.le_refl _)
  have s4 : pl_sgn f L 104 (p + 1 + n0 + 1 + n1 + 1 + 1 + 1 + 1, 0) = (p + 1 + n0 + 1 + n1 + 1 + 1 + 1 + 1 + 1, 0) := by
    rw [pw_l104]; exact pw_sg (by omega) (by rw [← c8]; congr 1; omega)
  obtain ⟨x3, -⟩ := pw_fgt (f := f) (L := L) (a := 1) (b := 10) (q := p + 1 + n0 + 1 + n1 + 1 + 1 + 1 + 1 + 1) (d := g 4) (by omega) (by rw [← c9]; congr 1; omega) (hg 4 (by decide) (by decide)).1 (hg 4 (by decide) (by decide)).2 (Nat.le_refl _)
  have z : pl_s3q (g 0) (g 1, (p + 1 + n0 + 1 + n1, 0)) = (p + 1 + n0 + 1 + n1, 0) := by
    unfold pl_s3q
    rw [if_neg (fun z => z.2 h0)]
  unfold pl_ldq
  dsimp only
  rw [y1]
  dsimp only
  rw [s1, y2, z]
  unfold pl_ldr
  dsimp only
  rw [s2, x1]
  dsimp only
  rw [s3, x2]
  dsimp only
  rw [s4, x3]
  dsimp only
  rw [show p + 1 + n0 + 1 + n1 + 1 + 1 + 1 + 1 + 1 + 1 = p + (n0 + n1 + 8) by omega]
theorem pw_trkq {f : Nat → Int32} {L p : Nat} {g : Nat → Nat} (hL : p + 7 ≤ L) (h : pw_at f p (pw_kb g)) (h0 : g 0 < 10000) (h1 : g 1 < 10) (hd : (1 ≤ g 0 / 1000 % 10 ∧ g 0 / 1000 % 10 < 6) ∧ (1 ≤ g 0 / 100 % 10 ∧ g 0 / 100 % 10 < 6) ∧ (1 ≤ g 0 / 10 % 10 ∧ g 0 / 10 % 10 < 6) ∧ (1 ≤ g 0 % 10 ∧ g 0 % 10 < 6)) : pl_trkq f L p = ((g 0, g 1), (p + 7, 0)) := by
  unfold pw_kb at h
  obtain ⟨h, b6⟩ := pw_at_app h
  obtain ⟨h, b5⟩ := pw_at_app h
  obtain ⟨h, b4⟩ := pw_at_app h
  obtain ⟨h, b3⟩ := pw_at_app h
  obtain ⟨h, b2⟩ := pw_at_app h
  obtain ⟨b0, b1⟩ := pw_at_app h
  simp only [List.length_append, List.length_cons, List.length_nil] at b1 b2 b3 b4 b5 b6
  have c1 := pw_at_1 b1
  have c2 := pw_at_1 b2
  have c3 := pw_at_1 b3
  have c4 := pw_at_1 b4
  have c5 := pw_at_1 b5
  have c6 := pw_at_1 b6
  obtain ⟨d1, d2, d3, d4⟩ := hd
  obtain ⟨x1, -⟩ := pw_fgt (f := f) (L := L) (a := 1) (b := 6) (q := p + 1) (d := g 0 / 1000 % 10) (by omega) c1 d1.1 d1.2 (by decide)
  obtain ⟨x2, -⟩ := pw_fgt (f := f) (L := L) (a := 1) (b := 6) (q := p + 2) (d := g 0 / 100 % 10) (by omega) c2 d2.1 d2.2 (by decide)
  obtain ⟨x3, -⟩ := pw_fgt (f := f) (L := L) (a := 1) (b := 6) (q := p + 3) (d := g 0 / 10 % 10) (by omega) c3 d3.1 d3.2 (by decide)
  obtain ⟨x4, -⟩ := pw_fgt (f := f) (L := L) (a := 1) (b := 6) (q := p + 4) (d := g 0 % 10) (by omega) c4 d4.1 d4.2 (by decide)
  have s5 : pl_sgn f L 94 (p + 5, 0) = (p + 6, 0) := by rw [pw_l94]; exact pw_sg (by omega) c5
  obtain ⟨x6, -⟩ := pw_fgt (f := f) (L := L) (a := 0) (b := 10) (q := p + 6) (d := g 1) (by omega) c6 (Nat.zero_le _) h1 (Nat.le_refl _)
  have t0 : pl_trq f L (p + 1, 0) 0 = (0, (p + 1, 0)) := rfl
  have t1 : pl_trq f L (p + 1, 0) 1 = (g 0 / 1000 % 10, (p + 2, 0)) := by
    show (10 * (pl_trq f L (p + 1, 0) 0).1 + (pl_fg f L 1 6 (pl_trq f L (p + 1, 0) 0).2).1, (pl_fg f L 1 6 (pl_trq f L (p + 1, 0) 0).2).2) = _
    rw [t0, x1]; dsimp only; rw [Nat.mul_zero, Nat.zero_add]
  have t2 : pl_trq f L (p + 1, 0) 2 = (10 * (g 0 / 1000 % 10) + g 0 / 100 % 10, (p + 3, 0)) := by
    show (10 * (pl_trq f L (p + 1, 0) 1).1 + (pl_fg f L 1 6 (pl_trq f L (p + 1, 0) 1).2).1, (pl_fg f L 1 6 (pl_trq f L (p + 1, 0) 1).2).2) = _
    rw [t1, x2]
  have t3 : pl_trq f L (p + 1, 0) 3 = (10 * (10 * (g 0 / 1000 % 10) + g 0 / 100 % 10) + g 0 / 10 % 10, (p + 4, 0)) := by
    show (10 * (pl_trq f L (p + 1, 0) 2).1 + (pl_fg f L 1 6 (pl_trq f L (p + 1, 0) 2).2).1, (pl_fg f L 1 6 (pl_trq f L (p + 1, 0) 2).2).2) = _
    rw [t2, x3]
  have t4 : pl_trq f L (p + 1, 0) 4 = (g 0, (p + 5, 0)) := by
    show (10 * (pl_trq f L (p + 1, 0) 3).1 + (pl_fg f L 1 6 (pl_trq f L (p + 1, 0) 3).2).1, (pl_fg f L 1 6 (pl_trq f L (p + 1, 0) 3).2).2) = _
    rw [t3, x4]; dsimp only
    rw [show 10 * (10 * (10 * (g 0 / 1000 % 10) + g 0 / 100 % 10) + g 0 / 10 % 10) + g 0 % 10 = g 0 by omega]
  unfold pl_trkq
  rw [t4]
  dsimp only
  rw [s5, x6]
theorem pw_plq {f : Nat → Int32} {L nt p : Nat} {g : Nat → Nat} (hL : p + 4 ≤ L) (h : pw_at f p (pw_ub g)) (hnt : nt ≤ 10) (h0 : g 0 < nt) (h1 : g 1 < nt) (hne : g 0 ≠ g 1) : pl_plq f L nt p = ((g 0, g 1), (p + 4, 0)) := by
  unfold pw_ub at h
  obtain ⟨h, b3⟩ := pw_at_app h
  obtain ⟨h, b2⟩ := pw_at_app h
  obtain ⟨b0, b1⟩ := pw_at_app h
  simp only [List.length_append, List.length_cons, List.length_nil] at b1 b2 b3
  have c1 := pw_at_1 b1
  have c2 := pw_at_1 b2
  have c3 := pw_at_1 b3
  have e47 : (47 : Int32) = nI 47 := rfl
  obtain ⟨x1, -⟩ := pw_fgt (f := f) (L := L) (a := 0) (b := nt) (q := p + 1) (d := g 0) (by omega) c1 (Nat.zero_le _) h0 hnt
  have s2 : pl_sgn f L 47 (p + 2, 0) = (p + 3, 0) := by rw [e47]; exact pw_sg (by omega) c2
  obtain ⟨x3, -⟩ := pw_fgt (f := f) (L := L) (a := 0) (b := nt) (q := p + 3) (d := g 1) (by omega) c3 (Nat.zero_le _) h1 hnt
  unfold pl_plq
  dsimp only
  rw [x1]
  dsimp only
  rw [s2, x3]
  dsimp only
  unfold pl_pq2
  rw [if_neg (fun z => hne z.2.symm)]
/-- what was read so far -/
def pw_H (B : pl_A) (i t p : Nat) (lf kf uf : Nat → Nat → Nat) : Prop := (pl_N B 0 0 0 = i ∧ pl_N B 0 1 0 = t ∧ pl_N B 0 2 0 = p) ∧ (∀ l k, l < i → k < 5 → pl_N B 1 l k = lf l k) ∧ (∀ l k, l < t → k < 2 → pl_N B 2 l k = kf l k) ∧ ∀ l k, l < p → k < 2 → pl_N B 3 l k = uf l k
theorem pw_aL_n (B : pl_A) (v : Nat → Nat) (g i k : Nat) : pl_N (pl_aL B v) g i k = if g = 0 ∧ i = 0 ∧ k = 0 then pl_N B 0 0 0 + 1 else if g = 1 ∧ i = pl_N B 0 0 0 then v k else pl_N B g i k := by
  have h : pl_N (pl_aL B v) g i k = if g = 0 ∧ i = 0 ∧ k = 0 then B.1 0 0 0 + 1 else if g = 1 ∧ i = B.1 0 0 0 then v k else B.1 g i k := rfl
  exact h
theorem pw_aT_n (B : pl_A) (a h : Nat) (g i k : Nat) : pl_N (pl_aT B a h) g i k = if g = 0 ∧ i = 1 ∧ k = 0 then pl_N B 0 1 0 + 1 else if g = 2 ∧ i = pl_N B 0 1 0 then (if k = 0 then a else h) else pl_N B g i k := by
  have h : pl_N (pl_aT B a h) g i k = if g = 0 ∧ i = 1 ∧ k = 0 then B.1 0 1 0 + 1 else if g = 2 ∧ i = B.1 0 1 0 then (if k = 0 then a else h) else B.1 g i k := rfl
  exact h
theorem pw_aP_n (B : pl_A) (a h : Nat) (g i k : Nat) : pl_N (pl_aP B a h) g i k = if g = 0 ∧ i = 2 ∧ k = 0 then pl_N B 0 2 0 + 1 else if g = 3 ∧ i = pl_N B 0 2 0 then (if k = 0 then a else h) else pl_N B g i k := by
  have h : pl_N (pl_aP B a h) g i k = if g = 0 ∧ i = 2 ∧ k = 0 then B.1 0 2 0 + 1 else if g = 3 ∧ i = B.1 0 2 0 then (if k = 0 then a else h) else B.1 g i k := rfl
  exact h
/-- the reading stands at s, B was read -/
def pw_S (f : Nat → Int32) (L : Nat) (B0 : pl_A) (n : Nat) (B : pl_A) (p : Nat) : Prop := pl_rdb f L B0 n = (B, (p, 0))
theorem pw_S.go {f : Nat → Int32} {L n p q : Nat} {B0 B B1 : pl_A} (h : pw_S f L B0 n B p) (hp : p < L) (hi : pl_item f L B p = (B1, (q, 0))) : pw_S f L B0 (n + 1) B1 q := by
  unfold pw_S at *
  rw [pl_rdb1, h]
  show (if (0 : Nat) = 0 ∧ p < L then pl_item f L B p else (B, (p, 0))) = _
  rw [if_pos ⟨rfl, hp⟩, hi]
theorem pw_n32 (c : Nat) (hc : c < 200) (h : c ≠ 32) : ¬ nI c = (32 : Int32) := fun z => by
  have e : (32 : Int32) = nI 32 := rfl
  rw [e, nI_eq (by omega) (by omega)] at z
  exact h z
/-- a lodger read -/
theorem pw_rdL {f : Nat → Int32} {L n p : Nat} {B0 B : pl_A} {i t q : Nat} {lf kf uf : Nat → Nat → Nat} (h : pw_S f L B0 n B p) (hH : pw_H B i t q lf kf uf) (hi : i < 8) (hL : p + (pw_lb (lf i)).length ≤ L) (ha : pw_at f p (pw_lb (lf i))) (h0 : lf i 0 ≤ lf i 1) (h1 : lf i 1 < 100) (hg : ∀ j, 2 ≤ j → j < 5 → 1 ≤ lf i j ∧ lf i j < 10) : ∃ B1, pw_S f L B0 (n + 1) B1 (p + (pw_lb (lf i)).length) ∧ pw_H B1 (i + 1) t q lf kf uf := by
  have hl := pw_ldq hL ha h0 h1 hg
  have f0 : f p = nI 108 := by
    have h3 := ha 0 (by unfold pw_lb; simp)
    have e : (pw_lb (lf i)).getD 0 32 = 108 := by unfold pw_lb; simp
    rw [e] at h3; exact h3
  have hpL : p < L := by
    have : 0 < (pw_lb (lf i)).length := by unfold pw_lb; simp
    omega
  obtain ⟨⟨n0, n1, n2⟩, g1, g2, g3⟩ := hH
  refine ⟨pl_aL B (pl_v5 (lf i 0) (lf i 1) (lf i 2) (lf i 3) (lf i 4)), h.go hpL ?_, ⟨?_, ?_, ?_⟩, fun l k hl2 hk => ?_, fun l k hl2 hk => ?_, fun l k hl2 hk => ?_⟩
  · unfold pl_item
    rw [f0, if_neg (pw_n32 108 (by decide) (by decide)), if_pos ⟨pw_l108.symm, by omega⟩, hl]
    rfl
  · rw [pw_aL_n, if_pos ⟨rfl, rfl, rfl⟩, n0]
  · rw [pw_aL_n, if_neg (by decide), if_neg (by omega), n1]
  · rw [pw_aL_n, if_neg (by decide), if_neg (by omega), n2]
  · rw [pw_aL_n, if_neg (by omega), n0]
    by_cases e : l = i
    · rw [if_pos ⟨rfl, e⟩, e]
      unfold pl_v5
      have : k = 0 ∨ k = 1 ∨ k = 2 ∨ k = 3 ∨ k = 4 := by omega
      rcases this with rfl | rfl | rfl | rfl | rfl <;> rfl
    · rw [if_neg (fun z => e z.2)]; exact g1 l k (by omega) hk
  · rw [pw_aL_n, if_neg (by omega), if_neg (by omega)]; exact g2 l k hl2 hk
  · rw [pw_aL_n, if_neg (by omega), if_neg (by omega)]; exact g3 l k hl2 hk
theorem pw_rdT {f : Nat → Int32} {L n p : Nat} {B0 B : pl_A} {i t q : Nat} {lf kf uf : Nat → Nat → Nat} (h : pw_S f L B0 n B p) (hH : pw_H B i t q lf kf uf) (hi : t < 8) (hL : p + 7 ≤ L) (ha : pw_at f p (pw_kb (kf t))) (h0 : kf t 0 < 10000) (h1 : kf t 1 < 10) (hd : (1 ≤ kf t 0 / 1000 % 10 ∧ kf t 0 / 1000 % 10 < 6) ∧ (1 ≤ kf t 0 / 100 % 10 ∧ kf t 0 / 100 % 10 < 6) ∧ (1 ≤ kf t 0 / 10 % 10 ∧ kf t 0 / 10 % 10 < 6) ∧ (1 ≤ kf t 0 % 10 ∧ kf t 0 % 10 < 6)) : ∃ B1, pw_S f L B0 (n + 1) B1 (p + 7) ∧ pw_H B1 i (t + 1) q lf kf uf := by
  have hl := pw_trkq hL ha h0 h1 hd
  have f0 : f p = nI 107 := by
    have h3 := ha 0 (by unfold pw_kb; simp)
    have e : (pw_kb (kf t)).getD 0 32 = 107 := by unfold pw_kb; simp
    rw [e] at h3; exact h3
  obtain ⟨⟨n0, n1, n2⟩, g1, g2, g3⟩ := hH
  refine ⟨pl_aT B (kf t 0) (kf t 1), h.go (by omega) ?_, ⟨?_, ?_, ?_⟩, fun l k hl2 hk => ?_, fun l k hl2 hk => ?_, fun l k hl2 hk => ?_⟩
  · unfold pl_item
    rw [f0, if_neg (pw_n32 107 (by decide) (by decide)), if_neg (fun z => by
      have z1 := z.1
      rw [pw_l108, nI_eq (by omega) (by omega)] at z1
      omega), if_pos ⟨pw_l107.symm, by omega⟩, hl]
    rfl
  · rw [pw_aT_n, if_neg (by decide), if_neg (by omega), n0]
  · rw [pw_aT_n, if_pos ⟨rfl, rfl, rfl⟩, n1]
  · rw [pw_aT_n, if_neg (by decide), if_neg (by omega), n2]
  · rw [pw_aT_n, if_neg (by omega), if_neg (by omega)]; exact g1 l k hl2 hk
  · rw [pw_aT_n, if_neg (by omega), n1]
    by_cases e : l = t
    · rw [if_pos ⟨rfl, e⟩, e]
      have : k = 0 ∨ k = 1 := by omega
      rcases this with rfl | rfl <;> rfl
    · rw [if_neg (fun z => e z.2)]; exact g2 l k (by omega) hk
  · rw [pw_aT_n, if_neg (by omega), if_neg (by omega)]; exact g3 l k hl2 hk
theorem pw_rdP {f : Nat → Int32} {L n p : Nat} {B0 B : pl_A} {i t q : Nat} {lf kf uf : Nat → Nat → Nat} (h : pw_S f L B0 n B p) (hH : pw_H B i t q lf kf uf) (hi : q < 12) (ht : t ≤ 10) (hL : p + 4 ≤ L) (ha : pw_at f p (pw_ub (uf q))) (h0 : uf q 0 < t) (h1 : uf q 1 < t) (hne : uf q 0 ≠ uf q 1) : ∃ B1, pw_S f L B0 (n + 1) B1 (p + 4) ∧ pw_H B1 i t (q + 1) lf kf uf := by
  obtain ⟨⟨n0, n1, n2⟩, g1, g2, g3⟩ := hH
  have hl := pw_plq hL ha ht h0 h1 hne
  rw [← n1] at hl
  have f0 : f p = nI 117 := by
    have h3 := ha 0 (by unfold pw_ub; simp)
    have e : (pw_ub (uf q)).getD 0 32 = 117 := by unfold pw_ub; simp
    rw [e] at h3; exact h3
  refine ⟨pl_aP B (uf q 0) (uf q 1), h.go (by omega) ?_, ⟨?_, ?_, ?_⟩, fun l k hl2 hk => ?_, fun l k hl2 hk => ?_, fun l k hl2 hk => ?_⟩
  · unfold pl_item
    rw [f0, if_neg (pw_n32 117 (by decide) (by decide)), if_neg (fun z => by
      have z1 := z.1
      rw [pw_l108, nI_eq (by omega) (by omega)] at z1
      omega), if_neg (fun z => by
      have z1 := z.1
      rw [pw_l107, nI_eq (by omega) (by omega)] at z1
      omega), if_pos ⟨pw_l117.symm, by omega⟩, hl]
    rfl
  · rw [pw_aP_n, if_neg (by decide), if_neg (by omega), n0]
  · rw [pw_aP_n, if_neg (by decide), if_neg (by omega), n1]
  · rw [pw_aP_n, if_pos ⟨rfl, rfl, rfl⟩, n2]
  · rw [pw_aP_n, if_neg (by omega), if_neg (by omega)]; exact g1 l k hl2 hk
  · rw [pw_aP_n, if_neg (by omega), if_neg (by omega)]; exact g2 l k hl2 hk
  · rw [pw_aP_n, if_neg (by omega), n2]
    by_cases e : l = q
    · rw [if_pos ⟨rfl, e⟩, e]
      have : k = 0 ∨ k = 1 := by omega
      rcases this with rfl | rfl <;> rfl
    · rw [if_neg (fun z => e z.2)]; exact g3 l k (by omega) hk
/-- all bytes of a book -/
def pw_bk (nl nt np : Nat) (lf kf uf : Nat → Nat → Nat) : List Nat := pw_all (fun i => pw_lb (lf i)) nl ++ pw_all (fun i => pw_kb (kf i)) nt ++ pw_all (fun i => pw_ub (uf i)) np
/-- a house that a book may tell -/
def pw_ok (nl nt np : Nat) (lf kf uf : Nat → Nat → Nat) : Prop := (nl ≤ 5 ∧ nt ≤ 4 ∧ np ≤ 2) ∧ (∀ i, i < nl → lf i 0 ≤ lf i 1 ∧ lf i 1 < 100 ∧ ∀ j, 2 ≤ j → j < 5 → 1 ≤ lf i j ∧ lf i j < 10) ∧ (∀ t, t < nt → kf t 0 < 10000 ∧ kf t 1 < 10 ∧ ((1 ≤ kf t 0 / 1000 % 10 ∧ kf t 0 / 1000 % 10 < 6) ∧ (1 ≤ kf t 0 / 100 % 10 ∧ kf t 0 / 100 % 10 < 6) ∧ (1 ≤ kf t 0 / 10 % 10 ∧ kf t 0 / 10 % 10 < 6) ∧ (1 ≤ kf t 0 % 10 ∧ kf t 0 % 10 < 6))) ∧ ∀ p, p < np → uf p 0 < nt ∧ uf p 1 < nt ∧ uf p 0 ≠ uf p 1
theorem pw_kb_len (g : Nat → Nat) : (pw_kb g).length = 7 := by unfold pw_kb; simp
theorem pw_ub_len (g : Nat → Nat) : (pw_ub g).length = 4 := by unfold pw_ub; simp
theorem pw_rdbk {f : Nat → Int32} {B0 : pl_A} {nl nt np : Nat} {lf kf uf : Nat → Nat → Nat} (hok : pw_ok nl nt np lf kf uf) (hB : pl_N B0 0 0 0 = 0 ∧ pl_N B0 0 1 0 = 0 ∧ pl_N B0 0 2 0 = 0) (hf : ∀ j, j < 120 → f j = nI ((pw_bk nl nt np lf kf uf).getD j 32)) : ∃ B, pl_rdb f 120 B0 120 = (B, (120, 0)) ∧ pw_H B nl nt np lf kf uf := by
  obtain ⟨⟨o1, o2, o3⟩, ol, ok, ou⟩ := hok
  have hlA := pw_all_le (fun i => pw_lb (lf i)) (w := 12) (fun i => pw_lb_le _)
  have hlT := pw_all_le (fun i => pw_kb (kf i)) (w := 7) (fun i => by rw [pw_kb_len]; exact Nat.le_refl _)
  have hlP := pw_all_le (fun i => pw_ub (uf i)) (w := 4) (fun i => by rw [pw_ub_len]; exact Nat.le_refl _)
  have lenA := hlA nl
  have lenT := hlT nt
  have lenP := hlP np
  have hlen : (pw_bk nl nt np lf kf uf).length ≤ 96 := by
    unfold pw_bk
    rw [List.length_append, List.length_append]
    omega
  have hat : pw_at f 0 (pw_bk nl nt np lf kf uf) := fun j hj => by rw [Nat.zero_add]; exact hf j (by omega)
  obtain ⟨hat, atP⟩ := pw_at_app hat
  obtain ⟨atA, atT⟩ := pw_at_app hat
  rw [Nat.zero_add] at atT atP
  rw [List.length_append] at atP
  -- the lodgers
  have pA : ∀ n i, i ≤ n → n ≤ nl → pw_at f 0 (pw_all (fun i => pw_lb (lf i)) n) → pw_at f 0 (pw_all (fun i => pw_lb (lf i)) i) := fun n => by
    induction n with
    | zero => intro i h1 _ h2; rw [show i = 0 by omega]; exact h2
    | succ n ih =>
      intro i h1 h3 h2
      by_cases e : i = n + 1
      · rw [e]; exact h2
      · exact ih i (by omega) (by omega) (pw_at_app h2).1
  have sA : ∀ i, i ≤ nl → ∃ B, pw_S f 120 B0 i B (pw_all (fun i => pw_lb (lf i)) i).length ∧ pw_H B i 0 0 lf kf uf := fun i => by
    induction i with
    | zero => exact fun _ => ⟨B0, rfl, ⟨hB.1, hB.2.1, hB.2.2⟩, fun l k h => absurd h (Nat.not_lt_zero l), fun l k h => absurd h (Nat.not_lt_zero l), fun l k h => absurd h (Nat.not_lt_zero l)⟩
    | succ i ih =>
      intro hi
      obtain ⟨B, s1, s2⟩ := ih (by omega)
      have a1 := pA nl (i + 1) hi (Nat.le_refl _) atA
      obtain ⟨-, a2⟩ := pw_at_app a1
      rw [Nat.zero_add] at a2
      have b1 := hlA i
      have b2 := pw_lb_le (lf i)
      obtain ⟨c1, c2, c3⟩ := ol i (by omega)
      have := Nat.mul_le_mul_left 12 (show i ≤ 4 by omega)
      obtain ⟨B1, t1, t2⟩ := pw_rdL s1 s2 (by omega) (by omega) a2 c1 c2 c3
      refine ⟨B1, ?_, t2⟩
      rw [pw_all1, List.length_append]; exact t1
  obtain ⟨BA, sa1, sa2⟩ := sA nl (Nat.le_refl _)
  obtain ⟨LA, hLA⟩ : ∃ x, x = (pw_all (fun i => pw_lb (lf i)) nl).length := ⟨_, rfl⟩
  rw [← hLA] at sa1 atT atP lenA
  -- the trunks
  have pT : ∀ n i, i ≤ n → n ≤ nt → pw_at f LA (pw_all (fun i => pw_kb (kf i)) n) → pw_at f LA (pw_all (fun i => pw_kb (kf i)) i) := fun n => by
    induction n with
    | zero => intro i h1 _ h2; rw [show i = 0 by omega]; exact h2
    | succ n ih =>
      intro i h1 h3 h2
      by_cases e : i = n + 1
      · rw [e]; exact h2
      · exact ih i (by omega) (by omega) (pw_at_app h2).1
  have sT : ∀ i, i ≤ nt → ∃ B, pw_S f 120 B0 (nl + i) B (LA + (pw_all (fun i => pw_kb (kf i)) i).length) ∧ pw_H B nl i 0 lf kf uf := fun i => by
    induction i with
    | zero => exact fun _ => ⟨BA, sa1, sa2⟩
    | succ i ih =>
      intro hi
      obtain ⟨B, s1, s2⟩ := ih (by omega)
      have a1 := pT nt (i + 1) hi (Nat.le_refl _) atT
      obtain ⟨-, a2⟩ := pw_at_app a1
      have b1 := hlT i
      obtain ⟨c1, c2, c3⟩ := ok i (by omega)
      obtain ⟨B1, t1, t2⟩ := pw_rdT s1 s2 (by omega) (by omega) a2 c1 c2 c3
      refine ⟨B1, ?_, t2⟩
      rw [pw_all1, List.length_append, pw_kb_len, ← Nat.add_assoc]; exact t1
  obtain ⟨BT, st1, st2⟩ := sT nt (Nat.le_refl _)
  obtain ⟨LT, hLT⟩ : ∃ x, x = LA + (pw_all (fun i => pw_kb (kf i)) nt).length := ⟨_, rfl⟩
  rw [← hLT] at st1 atP
  -- the piles
  have pP : ∀ n i, i ≤ n → n ≤ np → pw_at f LT (pw_all (fun i => pw_ub (uf i)) n) → pw_at f LT (pw_all (fun i => pw_ub (uf i)) i) := fun n => by
    induction n with
    | zero => intro i h1 _ h2; rw [show i = 0 by omega]; exact h2
    | succ n ih =>
      intro i h1 h3 h2
      by_cases e : i = n + 1
      · rw [e]; exact h2
      · exact ih i (by omega) (by omega) (pw_at_app h2).1
  have sP : ∀ i, i ≤ np → ∃ B, pw_S f 120 B0 (nl + nt + i) B (LT + (pw_all (fun i => pw_ub (uf i)) i).length) ∧ pw_H B nl nt i lf kf uf := fun i => by
    induction i with
    | zero => exact fun _ => ⟨BT, st1, st2⟩
    | succ i ih =>
      intro hi
      obtain ⟨B, s1, s2⟩ := ih (by omega)
      have a1 := pP np (i + 1) hi (Nat.le_refl _) atP
      obtain ⟨-, a2⟩ := pw_at_app a1
      have b1 := hlP i
      obtain ⟨c1, c2, c3⟩ := ou i (by omega)
      obtain ⟨B1, t1, t2⟩ := pw_rdP s1 s2 (by omega) (by omega) (by omega) a2 c1 c2 c3
      refine ⟨B1, ?_, t2⟩
      rw [pw_all1, List.length_append, pw_ub_len, ← Nat.add_assoc]; exact t1
  obtain ⟨BP, sp1, sp2⟩ := sP np (Nat.le_refl _)
  obtain ⟨LP, hLP⟩ : ∃ x, x = LT + (pw_all (fun i => pw_ub (uf i)) np).length := ⟨_, rfl⟩
  rw [← hLP] at sp1
  have hbl : (pw_bk nl nt np lf kf uf).length = LP := by
    unfold pw_bk
    rw [List.length_append, List.length_append]
    omega
  -- the blanks
  have bl : ∀ d, LP + d ≤ 120 → pw_S f 120 B0 (nl + nt + np + d) BP (LP + d) := fun d => by
    induction d with
    | zero => exact fun _ => sp1
    | succ d ih =>
      intro hd
      refine (ih (by omega)).go (by omega) ?_
      have f0 : f (LP + d) = 32 := by
        rw [hf _ (by omega)]
        have : (pw_bk nl nt np lf kf uf)[LP + d]? = none := List.getElem?_eq_none (by omega)
        rw [List.getD_eq_getElem?_getD, this]; rfl
      unfold pl_item
      rw [if_pos f0]; rfl
  have e1 := bl (120 - LP) (by omega)
  rw [show LP + (120 - LP) = 120 by omega] at e1
  have stay : ∀ d, pw_S f 120 B0 (nl + nt + np + (120 - LP) + d) BP 120 := fun d => by
    induction d with
    | zero => exact e1
    | succ d ih =>
      unfold pw_S at *
      rw [← Nat.add_assoc, pl_rdb1, ih, if_neg (fun z => absurd z.2 (Nat.lt_irrefl _))]
  -- no more items than bytes
  have cA : ∀ i, i ≤ (pw_all (fun i => pw_lb (lf i)) i).length := fun i => by
    induction i with
    | zero => exact Nat.zero_le _
    | succ i ih =>
      rw [pw_all1, List.length_append]
      have : 0 < (pw_lb (lf i)).length := by unfold pw_lb; simp
      omega
  have cT : ∀ i, i ≤ (pw_all (fun i => pw_kb (kf i)) i).length := fun i => by
    induction i with
    | zero => exact Nat.zero_le _
    | succ i ih => rw [pw_all1, List.length_append, pw_kb_len]; omega
  have cP : ∀ i, i ≤ (pw_all (fun i => pw_ub (uf i)) i).length := fun i => by
    induction i with
    | zero => exact Nat.zero_le _
    | succ i ih => rw [pw_all1, List.length_append, pw_ub_len]; omega
  have k1 := cA nl
  have k2 := cT nt
  have k3 := cP np
  have e2 := stay (120 - (nl + nt + np + (120 - LP)))
  rw [show nl + nt + np + (120 - LP) + (120 - (nl + nt + np + (120 - LP))) = 120 by omega] at e2
  exact ⟨BP, e2, sp2⟩

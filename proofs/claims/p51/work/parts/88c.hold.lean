/-! TWO OBJECTS OF THE CLASS IN ONE MEMORY: each holds its state, as the one of whole does in a memory of its own (v), found again in the real one (r) by f. -/
def pd_C (A : pl_A) (m : ml_M) : Prop := pl_Sh m ∧ pl_W A ∧ pl_C A m
/-- the reference's cells made to hold A -/
def pd_g (A : pl_A) (m : ml_M) (a : Nat) : Nat → Int32 := fun k =>
  if a = 33 then (if k = 9 then nI (pl_N A 0 0 0) else if k = 10 then nI (pl_N A 0 1 0) else if k = 11 then nI (pl_N A 0 2 0) else if k = 24 then nI (pl_N A 0 3 0) else if k = 34 then nI (pl_N A 0 4 0) else if k = 37 then nI (pl_N A 0 5 0) else if k = 46 then nI (pl_N A 0 6 0) else if k = 23 then nI (pl_N A 0 7 0) else if k = 0 then nI (pl_N A 0 8 0) else if k = 2 then pl_V A 3 0 0 else ml_I m 33 k)
  else if a = 34 then pl_V A 4 0 k
  else if a = 35 then pl_sz (pl_N A 8 k 0)
  else if a = 36 then pl_V A 0 (k / 48) (k % 48)
  else if a = 38 then pl_sz (pl_N A 9 k 0)
  else if a = 39 then pl_V A 1 (k / 120) (k % 120)
  else if a = 40 then nI (pl_N A 1 (k / 5) (k % 5))
  else if a = 41 then nI (pl_N A 2 (k / 2) (k % 2))
  else if a = 42 then nI (pl_N A 3 (k / 2) (k % 2))
  else if a = 46 then (if k % 7 = 3 then pl_tc (pl_N A 4 (k / 7) 3) else nI (pl_N A 4 (k / 7) (k % 7)))
  else if a = 51 then nI (pl_N A 5 (k / 3) (k % 3))
  else if a = 53 then nI (pl_N A 6 (k / 4) (k % 4))
  else if a = 60 then (if k % 51 < 3 then nI (pl_N A 7 (k / 51) (k % 51)) else pl_V A 2 (k / 51) (k % 51 - 3))
  else ml_I m a k
def pd_r (A : pl_A) (m : ml_M) : ml_M := (ml_n m, ml_s m, ml_K m, pd_g A m, ml_R m, fun a k => if a = 33 ∧ k = 3 then pl_L A else ml_J m a k)
theorem pd_rI (A : pl_A) (m : ml_M) (a : Nat) : ml_I (pd_r A m) a = pd_g A m a := by
  have h : ml_I (pd_r A m) a = pd_g A m a := rfl
  exact h
theorem pd_rJ (A : pl_A) (m : ml_M) (a k : Nat) : ml_J (pd_r A m) a k = if a = 33 ∧ k = 3 then pl_L A else ml_J m a k := by
  have h : ml_J (pd_r A m) a k = if a = 33 ∧ k = 3 then pl_L A else ml_J m a k := rfl
  exact h
theorem pd_g_o (A : pl_A) (m : ml_M) {a : Nat} (h : a < 33 ∨ 60 < a) : pd_g A m a = ml_I m a := by
  funext k
  unfold pd_g
  simp only [show ¬ a = 33 by omega, show ¬ a = 34 by omega, show ¬ a = 35 by omega, show ¬ a = 36 by omega, show ¬ a = 38 by omega, show ¬ a = 39 by omega, show ¬ a = 40 by omega, show ¬ a = 41 by omega, show ¬ a = 42 by omega, show ¬ a = 46 by omega, show ¬ a = 51 by omega, show ¬ a = 53 by omega, show ¬ a = 60 by omega, if_false]
theorem pd_r_mo (A : pl_A) (m : ml_M) : pl_mo m (pd_r A m) := by
  refine ⟨rfl, rfl, rfl, rfl, fun a ha => ⟨?_, ?_⟩⟩
  · rw [pd_rI, pd_g_o A m ha]
  · funext k
    rw [pd_rJ, if_neg (by omega)]
theorem pd_r_M (A : pl_A) (m : ml_M) (hW : pl_W A) : pl_M A (pd_r A m) := by
  obtain ⟨w1, w2, w3, w4, w5, w6, w7, w8, w9⟩ := hW
  refine ⟨?_, fun r hr => ⟨?_, fun j hj => ?_⟩, fun r hr => ⟨?_, fun j hj => ?_⟩, ⟨fun l hl k hk => ?_, fun l hl k hk => ?_, fun l hl k hk => ?_⟩, fun i hi k hk => ?_, ⟨fun l hl k hk => ?_, fun i hi k hk => ?_, fun c hc => ⟨fun k hk => ?_, fun j hj => ?_⟩⟩⟩
  · unfold pl_Mb
    rw [pd_rI, pd_rI, pd_rJ]
    exact ⟨rfl, rfl, rfl, rfl, rfl, rfl, rfl, rfl, rfl, rfl, rfl, fun f _ => rfl⟩
  · rw [pd_rI]; rfl
  · have h1 := w9.1 r hr
    rw [pd_rI]
    show pl_V A 0 ((48 * r + j) / 48) ((48 * r + j) % 48) = _
    rw [show (48 * r + j) / 48 = r by omega, show (48 * r + j) % 48 = j by omega]
  · rw [pd_rI]; rfl
  · have h1 := w9.2.1 r hr
    rw [pd_rI]
    show pl_V A 1 ((120 * r + j) / 120) ((120 * r + j) % 120) = _
    rw [show (120 * r + j) / 120 = r by omega, show (120 * r + j) % 120 = j by omega]
  · rw [pd_rI]
    show nI (pl_N A 1 ((5 * l + k) / 5) ((5 * l + k) % 5)) = _
    rw [show (5 * l + k) / 5 = l by omega, show (5 * l + k) % 5 = k by omega]
  · rw [pd_rI]
    show nI (pl_N A 2 ((2 * l + k) / 2) ((2 * l + k) % 2)) = _
    rw [show (2 * l + k) / 2 = l by omega, show (2 * l + k) % 2 = k by omega]
  · rw [pd_rI]
    show nI (pl_N A 3 ((2 * l + k) / 2) ((2 * l + k) % 2)) = _
    rw [show (2 * l + k) / 2 = l by omega, show (2 * l + k) % 2 = k by omega]
  · rw [pd_rI]
    show (if (7 * i + k) % 7 = 3 then pl_tc (pl_N A 4 ((7 * i + k) / 7) 3) else nI (pl_N A 4 ((7 * i + k) / 7) ((7 * i + k) % 7))) = _
    rw [show (7 * i + k) / 7 = i by omega, show (7 * i + k) % 7 = k by omega]
  · rw [pd_rI]
    show nI (pl_N A 5 ((3 * l + k) / 3) ((3 * l + k) % 3)) = _
    rw [show (3 * l + k) / 3 = l by omega, show (3 * l + k) % 3 = k by omega]
  · rw [pd_rI]
    show nI (pl_N A 6 ((4 * i + k) / 4) ((4 * i + k) % 4)) = _
    rw [show (4 * i + k) / 4 = i by omega, show (4 * i + k) % 4 = k by omega]
  · rw [pd_rI]
    show (if (51 * c + k) % 51 < 3 then nI (pl_N A 7 ((51 * c + k) / 51) ((51 * c + k) % 51)) else _) = _
    rw [show (51 * c + k) / 51 = c by omega, show (51 * c + k) % 51 = k by omega, if_pos hk]
  · have h1 := (w8 c hc).2.2.1
    rw [pd_rI]
    show (if (51 * c + (3 + j)) % 51 < 3 then _ else pl_V A 2 ((51 * c + (3 + j)) / 51) ((51 * c + (3 + j)) % 51 - 3)) = _
    rw [show (51 * c + (3 + j)) / 51 = c by omega, show (51 * c + (3 + j)) % 51 = 3 + j by omega, if_neg (by omega), show 3 + j - 3 = j by omega]
theorem pd_rel {A : pl_A} {m : ml_M} (h : pd_C A m) : pl_Rel A (pd_r A m) :=
  ⟨(pd_r_mo A m).sh h.1, h.2.1, pd_r_M A m h.2.1, (pd_r_mo A m).c h.1 h.2.2⟩
/-- a call of the class, from A to B, with its answer -/
def pl_Do {α : Type} (c : ml_M → Option (α × ml_M)) (A : pl_A) (v : α) (B : pl_A) : Prop := ∀ m, pl_Rel A m → ∃ m1, c m = some (v, m1) ∧ pd_C B m1 ∧ ml_n m1 ≤ ml_n m + 1000 ∧ ml_s m1 ≤ ml_s m + 14000
def pl_Dp {α : Type} (c : ml_M → Option α) (A : pl_A) (v : α) : Prop := ∀ m, pl_Rel A m → c m = some v
/-- where the cells of v are found in r -/
def ph_R (f : Nat → Nat) (v r : ml_M) : Prop := pt_P f ∧ (∀ x, f x ≠ 0 → x ≤ ml_n v ∧ f x ≤ ml_n r ∧ (x < 33 ∨ 60 < x)) ∧ (∀ i, 0 < i → ml_K v (ml_n v + i) = (99, 0)) ∧ ∀ x, pt_d f x → pt_e f v r x
def ph_K (r : ml_M) : Prop := ∀ i, 0 < i → ml_K r (ml_n r + i) = (99, 0)
/-- none of the law's own five rows -/
def ph_N (f : Nat → Nat) : Prop := ∀ x, f x < 65 ∨ 69 < f x
def ph_2 (a b : Nat) (A B : pl_A) (r : ml_M) : Prop := ph_K r ∧ 69 ≤ ml_n r ∧ ∃ f g v w, pd_C A v ∧ pd_C B w ∧ f 1 = a ∧ g 1 = b ∧ ph_R f v r ∧ ph_R g w r ∧ (∀ x y, f x = g y → f x = 0) ∧ ph_N f ∧ ph_N g
theorem ph_2.swap {a b : Nat} {A B : pl_A} {r : ml_M} (h : ph_2 a b A B r) : ph_2 b a B A r := by
  obtain ⟨h1, h2, f, g, v, w, h3, h4, h5, h6, h7, h8, h9, h10, h11⟩ := h
  exact ⟨h1, h2, g, f, w, v, h4, h3, h6, h5, h8, h7, fun x y e => e.trans (h9 y x e.symm), h11, h10⟩
/-- what a call leaves as it was -/
def ph_kp (r r1 : ml_M) : Prop := (∀ a, 65 ≤ a → a ≤ 69 → ml_K r1 a = ml_K r a ∧ ml_I r1 a = ml_I r a) ∧ ml_n r ≤ ml_n r1 ∧ ml_n r1 ≤ ml_n r + 1000 ∧ ml_s r1 ≤ ml_s r + 14000
/-- f, and cell by cell what is made from now on -/
def ph_x (f : Nat → Nat) (v r : ml_M) : Nat → Nat := fun x => if x ≤ ml_n v then f x else ml_n r + (x - ml_n v)
theorem ph_xQ {f : Nat → Nat} {v r : ml_M} (h : ph_R f v r) (hK : ph_K r) : pt_Q (ph_x f v r) v r v r := by
  obtain ⟨⟨p1, p2⟩, h2, h3, h4⟩ := h
  have lo : ∀ x, x ≤ ml_n v → ph_x f v r x = f x := fun x hx => if_pos hx
  have hi : ∀ x, ¬ x ≤ ml_n v → ph_x f v r x = ml_n r + (x - ml_n v) := fun x hx => if_neg hx
  have dd : ∀ x, x ≤ ml_n v → pt_d (ph_x f v r) x → pt_d f x := fun x hx h => by unfold pt_d at *; rw [lo x hx] at h; exact h
  have ud : ∀ x, pt_d f x → x ≤ ml_n v ∧ ph_x f v r x = f x ∧ pt_d (ph_x f v r) x := fun x h => by
    have hx : x ≤ ml_n v := by
      rcases h with h | h
      · omega
      · exact (h2 x h).1
    refine ⟨hx, lo x hx, ?_⟩
    unfold pt_d at *; rw [lo x hx]; exact h
  refine ⟨⟨by rw [lo 0 (Nat.zero_le _)]; exact p1, fun x y e h0 => ?_⟩, ⟨Nat.add_comm _ _, Nat.add_comm _ _, Nat.le_refl _, Nat.le_refl _⟩, fun i hi0 => ⟨?_, h3 i hi0, hK i hi0⟩, fun x hx => ?_, fun _ _ => ⟨rfl, rfl, rfl, rfl⟩⟩
  · by_cases hx : x ≤ ml_n v
    · rw [lo x hx] at e h0
      by_cases hy : y ≤ ml_n v
      · rw [lo y hy] at e; exact p2 x y e h0
      · rw [hi y hy] at e; have := (h2 x h0).2.1; omega
    · rw [hi x hx] at e h0
      by_cases hy : y ≤ ml_n v
      · rw [lo y hy] at e
        have := (h2 y (by omega)).2.1; omega
      · rw [hi y hy] at e; omega
  · rw [hi _ (by omega)]; omega
  · by_cases hxn : x ≤ ml_n v
    · obtain ⟨e1, e2⟩ := h4 x (dd x hxn hx)
      refine ⟨by rw [lo x hxn]; exact e1, fun hk => ?_⟩
      obtain ⟨e3, e4, e5⟩ := e2 hk
      refine ⟨by rw [lo x hxn]; exact e3, by rw [lo x hxn]; exact e4, fun k => ?_⟩
      obtain ⟨e6, e7, e8⟩ := e5 k
      obtain ⟨u1, u2, u3⟩ := ud _ e7
      exact ⟨by rw [lo x hxn, u2]; exact e6, u3, e8⟩
    · obtain ⟨i, hi1, hi2⟩ : ∃ i, 0 < i ∧ x = ml_n v + i := ⟨x - ml_n v, by omega, by omega⟩
      have hkv := h3 i hi1
      rw [← hi2] at hkv
      refine ⟨?_, fun hk => absurd (by rw [hkv]) hk⟩
      rw [hi x hxn, show x - ml_n v = i by omega, hK i hi1, hkv]
theorem ph_back {f g : Nat → Nat} {v w r v1 r1 : ml_M} {A1 B : pl_A} (h : ph_R f v r) (h' : ph_R g w r) (hK : ph_K r) (hC : pd_C A1 v1) (hB : pd_C B w) (hd : ∀ x y, f x = g y → f x = 0) (hN : ph_N f) (h69 : 69 ≤ ml_n r) (h60 : 60 ≤ ml_n v) (hq : pt_Q (ph_x f v r) v r v1 r1) :
    ∃ f1, (∀ x, x ≤ ml_n v → f1 x = f x) ∧ ph_R f1 v1 r1 ∧ ph_R g w r1 ∧ ph_K r1 ∧ (∀ x y, f1 x = g y → f1 x = 0) ∧ ph_N f1 := by
  obtain ⟨q1, ⟨m1, m2, m3, m4⟩, q3, q4, q5⟩ := hq
  obtain ⟨hp, h2, h3, h4⟩ := h
  obtain ⟨gp, g2, g3, g4⟩ := h'
  have lo : ∀ x, x ≤ ml_n v → ph_x f v r x = f x := fun x hx => if_pos hx
  have hi : ∀ x, ¬ x ≤ ml_n v → ph_x f v r x = ml_n r + (x - ml_n v) := fun x hx => if_neg hx
  have bx : ∀ x, x ≤ ml_n v1 → ph_x f v r x ≤ ml_n r1 := fun x hx => by
    by_cases h : x ≤ ml_n v
    · rw [lo x h]
      by_cases h0 : f x = 0
      · omega
      · have := (h2 x h0).2.1; omega
    · rw [hi x h]; omega
  refine ⟨fun x => if x ≤ ml_n v1 then ph_x f v r x else 0, fun x hx => ?_, ⟨⟨?_, fun x y e h0 => ?_⟩, fun x h0 => ?_, fun i hi0 => (q3 i hi0).2.1, fun x hx => ?_⟩, ⟨gp, fun x h0 => ?_, g3, fun x hx => ?_⟩, fun i hi0 => (q3 i hi0).2.2, fun x y e => ?_, fun x => ?_⟩
  · show (if x ≤ ml_n v1 then ph_x f v r x else 0) = f x
    rw [if_pos (by omega), lo x hx]
  · show (if 0 ≤ ml_n v1 then ph_x f v r 0 else 0) = 0
    rw [if_pos (Nat.zero_le _), lo 0 (Nat.zero_le _)]; exact hp.1
  · have e : (if x ≤ ml_n v1 then ph_x f v r x else 0) = (if y ≤ ml_n v1 then ph_x f v r y else 0) := e
    have h0 : (if x ≤ ml_n v1 then ph_x f v r x else 0) ≠ 0 := h0
    by_cases hx : x ≤ ml_n v1
    · rw [if_pos hx] at e h0
      by_cases hy : y ≤ ml_n v1
      · rw [if_pos hy] at e; exact q1.2 x y e h0
      · rw [if_neg hy] at e; exact absurd e h0
    · rw [if_neg hx] at h0; exact absurd rfl h0
  · have h0 : (if x ≤ ml_n v1 then ph_x f v r x else 0) ≠ 0 := h0
    by_cases hx : x ≤ ml_n v1
    · rw [if_pos hx] at h0
      refine ⟨hx, ?_, ?_⟩
      · show (if x ≤ ml_n v1 then ph_x f v r x else 0) ≤ _
        rw [if_pos hx]; exact bx x hx
      · by_cases h : x ≤ ml_n v
        · rw [lo x h] at h0; exact (h2 x h0).2.2
        · omega
    · rw [if_neg hx] at h0; exact absurd rfl h0
  · have hxn : x ≤ ml_n v1 := by
      rcases hx with hx | hx
      · omega
      · by_cases h : x ≤ ml_n v1
        · exact h
        · exact absurd (if_neg h) hx
    have e0 : (if x ≤ ml_n v1 then ph_x f v r x else 0) = ph_x f v r x := if_pos hxn
    have hx' : pt_d (ph_x f v r) x := by
      rcases hx with hx | hx
      · exact Or.inl hx
      · exact Or.inr (by rw [← e0]; exact hx)
    obtain ⟨e1, e2⟩ := q4 x hx'
    refine ⟨?_, fun hk => ?_⟩
    · show ml_K r1 (if x ≤ ml_n v1 then ph_x f v r x else 0) = _
      rw [e0]; exact e1
    · obtain ⟨e3, e4, e5⟩ := e2 hk
      show ml_I r1 (if x ≤ ml_n v1 then ph_x f v r x else 0) = _ ∧ ml_J r1 (if x ≤ ml_n v1 then ph_x f v r x else 0) = _ ∧ ∀ k, ml_R r1 (if x ≤ ml_n v1 then ph_x f v r x else 0) k = (if ml_R v1 x k ≤ ml_n v1 then ph_x f v r (ml_R v1 x k) else 0) ∧ (ml_R v1 x k = 0 ∨ (if ml_R v1 x k ≤ ml_n v1 then ph_x f v r (ml_R v1 x k) else 0) ≠ 0) ∧ _
      rw [e0]
      refine ⟨e3, e4, fun k => ?_⟩
      obtain ⟨e6, e7, e8⟩ := e5 k
      rw [if_pos e8]
      exact ⟨e6, e7, e8⟩
  · obtain ⟨g5, g6, g7⟩ := g2 x h0
    exact ⟨g5, by omega, g7⟩
  · have ex : ∀ z, ph_x f v r z = g x → g x = 0 := fun z hz => by
      by_cases h : z ≤ ml_n v
      · rw [lo z h] at hz
        rw [← hz]; exact hd z x hz
      · rw [hi z h] at hz
        by_cases h0 : g x = 0
        · exact h0
        · have := (g2 x h0).2.1; omega
    by_cases h0 : g x = 0
    · have hx0 : x = 0 := by
        rcases hx with hx | hx
        · exact hx
        · exact absurd h0 hx
      subst hx0
      have k0 : ml_K v1 0 = (99, 0) := pl_k0 hC.1
      have k1 : ml_K w 0 = (99, 0) := pl_k0 hB.1
      have e1 := (q4 0 (Or.inl rfl)).1
      rw [q1.1, k0] at e1
      refine ⟨by rw [gp.1, e1, k1], fun hk => absurd (by rw [k1]) hk⟩
    · obtain ⟨c1, c2, c3, c4⟩ := q5 (g x) (fun z hz => h0 (ex z hz))
      obtain ⟨d1, d2⟩ := g4 x hx
      refine ⟨by rw [c1]; exact d1, fun hk => ?_⟩
      obtain ⟨d3, d4, d5⟩ := d2 hk
      exact ⟨by rw [c2]; exact d3, by rw [c4]; exact d4, fun k => by rw [c3]; exact d5 k⟩
  · show (if x ≤ ml_n v1 then ph_x f v r x else 0) = 0
    have e : (if x ≤ ml_n v1 then ph_x f v r x else 0) = g y := e
    by_cases hx : x ≤ ml_n v1
    · rw [if_pos hx] at e ⊢
      by_cases h : x ≤ ml_n v
      · rw [lo x h] at e ⊢; exact hd x y e
      · rw [hi x h] at e ⊢
        have h0 : g y ≠ 0 := by omega
        have := (g2 y h0).2.1; omega
    · rw [if_neg hx]
  · show (if x ≤ ml_n v1 then ph_x f v r x else 0) < 65 ∨ 69 < (if x ≤ ml_n v1 then ph_x f v r x else 0)
    by_cases hx : x ≤ ml_n v1
    · rw [if_pos hx]
      by_cases h : x ≤ ml_n v
      · rw [lo x h]; exact hN x
      · rw [hi x h]; omega
    · rw [if_neg hx]; omega
/-- the reference's cells anew change nothing of what is found -/
theorem ph_R.fill {f : Nat → Nat} {v r : ml_M} (A : pl_A) (h : ph_R f v r) : ph_R f (pd_r A v) r := by
  obtain ⟨hp, h2, h3, h4⟩ := h
  refine ⟨hp, h2, h3, fun x hx => ?_⟩
  obtain ⟨e1, e2⟩ := h4 x hx
  have hx1 : x < 33 ∨ 60 < x := by
    rcases hx with hx | hx
    · omega
    · exact (h2 x hx).2.2
  refine ⟨e1, fun hk => ?_⟩
  obtain ⟨e3, e4, e5⟩ := e2 hk
  obtain ⟨m1, m2⟩ := (pd_r_mo A v).2.2.2.2 x hx1
  exact ⟨by rw [m1]; exact e3, by rw [m2]; exact e4, e5⟩
/-- a call on the first object -/
theorem ph_do {α : Type} {c : Nat → ml_M → Option (α × ml_M)} {a b : Nat} {A A1 B : pl_A} {z : α} (hD : pl_Do (c 1) A z A1) (hz : ∀ {p : Nat → Nat} {v0 r0 : ml_M} (l0 l0' : Nat) (h : pt_r p l0 l0') (m n : ml_M) (hq : pt_Q p v0 r0 m n) (bl0 : l0 ≤ ml_n m), pt_T (pt_WV p v0 r0) (c l0 m) (c l0' n)) {r : ml_M} (h : ph_2 a b A B r) (ha : a ≠ 0) :
    ∃ r1, c a r = some (z, r1) ∧ ph_2 a b A1 B r1 ∧ ph_kp r r1 := by
  obtain ⟨h1, h2, f, g, v, w, h3, h4, h5, h6, h7, h8, h9, h10, h11⟩ := h
  have h60 := h3.1.2.2
  have hR := pd_rel h3
  have hx := h7.fill A
  have hQ := ph_xQ hx h1
  obtain ⟨v1, c1, c2, c3, c4⟩ := hD _ hR
  have e1 : ph_x f (pd_r A v) r 1 = a := by
    show (if 1 ≤ ml_n v then f 1 else _) = a
    rw [if_pos (by omega), h5]
  obtain ⟨⟨z', r1⟩, c5, c6, c7⟩ := hz 1 (ph_x f (pd_r A v) r 1) (pt_rf (Or.inr (by rw [e1]; exact ha))) _ _ hQ (by show 1 ≤ ml_n v; omega) _ c1
  have c6 : z = z' := c6
  subst c6
  have c7 : pt_Q (ph_x f (pd_r A v) r) (pd_r A v) r v1 r1 := c7
  rw [e1] at c5
  obtain ⟨f1, f2, f3, f4, f5, f6, f7⟩ := ph_back hx h8 h1 c2 h4 h9 h10 h2 h60 c7
  have c8 := c7.2.1
  refine ⟨r1, c5, ⟨f5, ?_, f1, g, v1, w, c2, h4, (f2 1 (by show 1 ≤ ml_n v; omega)).trans h5, h6, f3, f4, f6, f7, h11⟩, fun q h65 h69 => ?_, ?_, ?_, ?_⟩
  · have := c8.1; have := c8.2.2.1; omega
  · have := c7.2.2.2.2 q (fun x hq => ?_)
    · exact ⟨this.1, this.2.1⟩
    · by_cases hxn : x ≤ ml_n v
      · have e : ph_x f (pd_r A v) r x = f x := if_pos hxn
        rw [e] at hq
        have := h10 x; omega
      · have e : ph_x f (pd_r A v) r x = ml_n r + (x - ml_n v) := if_neg hxn
        omega
  · have := c8.1; have := c8.2.2.1; omega
  · have := c8.1; omega
  · have := c8.2.1; omega
/-- a call that changes nothing -/
theorem ph_dp {α : Type} {c : Nat → ml_M → Option α} {a b : Nat} {A B : pl_A} {z : α} (hD : pl_Dp (c 1) A z) (hz : ∀ {p : Nat → Nat} {v0 r0 : ml_M} (l0 l0' : Nat) (h : pt_r p l0 l0') (m n : ml_M) (hq : pt_Q p v0 r0 m n) (bl0 : l0 ≤ ml_n m), pt_T pt_Wv (c l0 m) (c l0' n)) {r : ml_M} (h : ph_2 a b A B r) (ha : a ≠ 0) : c a r = some z := by
  obtain ⟨h1, h2, f, g, v, w, h3, h4, h5, h6, h7, h8, h9, h10, h11⟩ := h
  have h60 := h3.1.2.2
  have hR := pd_rel h3
  have hx := h7.fill A
  have hQ := ph_xQ hx h1
  have c1 := hD _ hR
  have e1 : ph_x f (pd_r A v) r 1 = a := by
    show (if 1 ≤ ml_n v then f 1 else _) = a
    rw [if_pos (by omega), h5]
  obtain ⟨z', c5, c6⟩ := hz 1 (ph_x f (pd_r A v) r 1) (pt_rf (Or.inr (by rw [e1]; exact ha))) _ _ hQ (by show 1 ≤ ml_n v; omega) _ c1
  have c6 : z = z' := c6
  subst c6
  rw [e1] at c5
  exact c5
/-- the law writes into a row of its own -/
theorem ph_2.sI {a b : Nat} {A B : pl_A} {r : ml_M} (h : ph_2 a b A B r) {q k : Nat} {x : Int32} (hq : 65 ≤ q ∧ q ≤ 69) : ph_2 a b A B (ml_sI r q k x) := by
  obtain ⟨h1, h2, f, g, v, w, h3, h4, h5, h6, h7, h8, h9, h10, h11⟩ := h
  have key : ∀ {f : Nat → Nat} {v : ml_M}, ph_R f v r → ph_N f → ph_R f v (ml_sI r q k x) := fun {f v} hf hN => by
    obtain ⟨p1, p2, p3, p4⟩ := hf
    refine ⟨p1, p2, p3, fun y hy => ?_⟩
    obtain ⟨e1, e2⟩ := p4 y hy
    refine ⟨e1, fun hk => ?_⟩
    obtain ⟨e3, e4, e5⟩ := e2 hk
    refine ⟨?_, e4, e5⟩
    rw [← e3]
    funext j
    have := hN y
    rw [pl_I_sI, if_neg (by omega)]
  exact ⟨h1, h2, f, g, v, w, h3, h4, h5, h6, key h7 h10, key h8 h11, h9, h10, h11⟩

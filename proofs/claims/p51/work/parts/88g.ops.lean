/-! THE CALLS OF THE LAW on either of its two objects. Printed by wip/p51/mkops.py -/
/-- c calls later: the law's rows as they were, so much room at most -/
def ph_c (c : Nat) (r r1 : ml_M) : Prop := (∀ a, 65 ≤ a → a ≤ 69 → ml_K r1 a = ml_K r a ∧ ml_I r1 a = ml_I r a) ∧ ml_n r1 ≤ ml_n r + 1000 * c ∧ ml_s r1 ≤ ml_s r + 14000 * c
theorem ph_c.refl (r : ml_M) : ph_c 0 r r := ⟨fun _ _ _ => ⟨rfl, rfl⟩, Nat.le_refl _, Nat.le_refl _⟩
theorem ph_c.trans {c d : Nat} {r r1 r2 : ml_M} (h : ph_c c r r1) (h2 : ph_c d r1 r2) : ph_c (c + d) r r2 :=
  ⟨fun a ha hb => ⟨(h2.1 a ha hb).1.trans (h.1 a ha hb).1, (h2.1 a ha hb).2.trans (h.1 a ha hb).2⟩, by have := h.2.1; have := h2.2.1; omega, by have := h.2.2; have := h2.2.2; omega⟩
theorem ph_c.le {c d : Nat} {r r1 : ml_M} (h : ph_c c r r1) (hcd : c ≤ d) : ph_c d r r1 := ⟨h.1, by have := h.2.1; omega, by have := h.2.2; omega⟩
theorem ph_kp.c {r r1 : ml_M} (h : ph_kp r r1) : ph_c 1 r r1 := ⟨h.1, by have := h.2.2.1; omega, by have := h.2.2.2; omega⟩
theorem ph_2.k {a b : Nat} {A B : pl_A} {r : ml_M} (h : ph_2 a b A B r) (ha : a ≠ 0) : (ml_K r a).1 = 10 := by
  obtain ⟨h1, h2, f, g, v, w, h3, h4, h5, h6, h7, h8, h9, h10, h11⟩ := h
  have := (h7.2.2.2 1 (Or.inr (by rw [h5]; exact ha))).1
  rw [h5, pl_k1 h3.1] at this
  rw [this]
theorem ph_2.w {a b : Nat} {A B : pl_A} {r : ml_M} (h : ph_2 a b A B r) : pl_W A := by
  obtain ⟨h1, h2, f, g, v, w, h3, h4, h5, h6, h7, h8, h9, h10, h11⟩ := h
  exact h3.2.1
theorem xo_text {a b : Nat} {A A1 B : pl_A} {z : Int32} {x0 x1 : Int32} (hD : pl_Do (fX10_text 1 x0 x1) A z A1) {r : ml_M} (h : ph_2 a b A B r) (ha : a ≠ 0) : ∃ r1, fX10_text a x0 x1 r = some (z, r1) ∧ ph_2 a b A1 B r1 ∧ ph_c 1 r r1 := by
  obtain ⟨r1, h1, h2, h3⟩ := ph_do (c := fun l m => fX10_text l x0 x1 m) hD (fun l0 l0' h m n hq b => zX10_text l0 l0' h _ _ rfl _ _ rfl m n hq b) h ha
  exact ⟨r1, h1, h2, h3.c⟩
theorem xo_put {a b : Nat} {A A1 B : pl_A} {z : Int32} {x0 x1 x2 : Int32} (hD : pl_Do (fX10_put 1 x0 x1 x2) A z A1) {r : ml_M} (h : ph_2 a b A B r) (ha : a ≠ 0) : ∃ r1, fX10_put a x0 x1 x2 r = some (z, r1) ∧ ph_2 a b A1 B r1 ∧ ph_c 1 r r1 := by
  obtain ⟨r1, h1, h2, h3⟩ := ph_do (c := fun l m => fX10_put l x0 x1 x2 m) hD (fun l0 l0' h m n hq b => zX10_put l0 l0' h _ _ rfl _ _ rfl _ _ rfl m n hq b) h ha
  exact ⟨r1, h1, h2, h3.c⟩
theorem xo_fault {a b : Nat} {A A1 B : pl_A} {z : Int32} {x0 : Int32} (hD : pl_Do (fX10_fault 1 x0) A z A1) {r : ml_M} (h : ph_2 a b A B r) (ha : a ≠ 0) : ∃ r1, fX10_fault a x0 r = some (z, r1) ∧ ph_2 a b A1 B r1 ∧ ph_c 1 r r1 := by
  obtain ⟨r1, h1, h2, h3⟩ := ph_do (c := fun l m => fX10_fault l x0 m) hD (fun l0 l0' h m n hq b => zX10_fault l0 l0' h _ _ rfl m n hq b) h ha
  exact ⟨r1, h1, h2, h3.c⟩
theorem xo_book {a b : Nat} {A A1 B : pl_A} {z : Int32} {x0 : Int32} (hD : pl_Do (fX10_book 1 x0) A z A1) {r : ml_M} (h : ph_2 a b A B r) (ha : a ≠ 0) : ∃ r1, fX10_book a x0 r = some (z, r1) ∧ ph_2 a b A1 B r1 ∧ ph_c 1 r r1 := by
  obtain ⟨r1, h1, h2, h3⟩ := ph_do (c := fun l m => fX10_book l x0 m) hD (fun l0 l0' h m n hq b => zX10_book l0 l0' h _ _ rfl m n hq b) h ha
  exact ⟨r1, h1, h2, h3.c⟩
theorem xo_wear {a b : Nat} {A A1 B : pl_A} {z : Int32} {x0 : Int32} (hD : pl_Do (fX10_wear 1 x0) A z A1) {r : ml_M} (h : ph_2 a b A B r) (ha : a ≠ 0) : ∃ r1, fX10_wear a x0 r = some (z, r1) ∧ ph_2 a b A1 B r1 ∧ ph_c 1 r r1 := by
  obtain ⟨r1, h1, h2, h3⟩ := ph_do (c := fun l m => fX10_wear l x0 m) hD (fun l0 l0' h m n hq b => zX10_wear l0 l0' h _ _ rfl m n hq b) h ha
  exact ⟨r1, h1, h2, h3.c⟩
theorem xo_trunk {a b : Nat} {A A1 B : pl_A} {z : Int32} {x0 x1 : Int32} (hD : pl_Do (fX10_trunk 1 x0 x1) A z A1) {r : ml_M} (h : ph_2 a b A B r) (ha : a ≠ 0) : ∃ r1, fX10_trunk a x0 x1 r = some (z, r1) ∧ ph_2 a b A1 B r1 ∧ ph_c 1 r r1 := by
  obtain ⟨r1, h1, h2, h3⟩ := ph_do (c := fun l m => fX10_trunk l x0 x1 m) hD (fun l0 l0' h m n hq b => zX10_trunk l0 l0' h _ _ rfl _ _ rfl m n hq b) h ha
  exact ⟨r1, h1, h2, h3.c⟩
theorem xo_thing {a b : Nat} {A A1 B : pl_A} {z : Int32} {x0 x1 x2 x3 x4 : Int32} (hD : pl_Do (fX10_thing 1 x0 x1 x2 x3 x4) A z A1) {r : ml_M} (h : ph_2 a b A B r) (ha : a ≠ 0) : ∃ r1, fX10_thing a x0 x1 x2 x3 x4 r = some (z, r1) ∧ ph_2 a b A1 B r1 ∧ ph_c 1 r r1 := by
  obtain ⟨r1, h1, h2, h3⟩ := ph_do (c := fun l m => fX10_thing l x0 x1 x2 x3 x4 m) hD (fun l0 l0' h m n hq b => zX10_thing l0 l0' h _ _ rfl _ _ rfl _ _ rfl _ _ rfl _ _ rfl m n hq b) h ha
  exact ⟨r1, h1, h2, h3.c⟩
theorem xo_lies {a b : Nat} {A A1 B : pl_A} {z : Int32} {x0 x1 x2 : Int32} (hD : pl_Do (fX10_lies 1 x0 x1 x2) A z A1) {r : ml_M} (h : ph_2 a b A B r) (ha : a ≠ 0) : ∃ r1, fX10_lies a x0 x1 x2 r = some (z, r1) ∧ ph_2 a b A1 B r1 ∧ ph_c 1 r r1 := by
  obtain ⟨r1, h1, h2, h3⟩ := ph_do (c := fun l m => fX10_lies l x0 x1 x2 m) hD (fun l0 l0' h m n hq b => zX10_lies l0 l0' h _ _ rfl _ _ rfl _ _ rfl m n hq b) h ha
  exact ⟨r1, h1, h2, h3.c⟩
theorem xo_told {a b : Nat} {A A1 B : pl_A} {z : Int32} {x0 x1 : Int32} (hD : pl_Do (fX10_told 1 x0 x1) A z A1) {r : ml_M} (h : ph_2 a b A B r) (ha : a ≠ 0) : ∃ r1, fX10_told a x0 x1 r = some (z, r1) ∧ ph_2 a b A1 B r1 ∧ ph_c 1 r r1 := by
  obtain ⟨r1, h1, h2, h3⟩ := ph_do (c := fun l m => fX10_told l x0 x1 m) hD (fun l0 l0' h m n hq b => zX10_told l0 l0' h _ _ rfl _ _ rfl m n hq b) h ha
  exact ⟨r1, h1, h2, h3.c⟩
theorem xo_fewest {a b : Nat} {A A1 B : pl_A} {z : Int32} (hD : pl_Do (fX10_fewest 1 ) A z A1) {r : ml_M} (h : ph_2 a b A B r) (ha : a ≠ 0) : ∃ r1, fX10_fewest a  r = some (z, r1) ∧ ph_2 a b A1 B r1 ∧ ph_c 1 r r1 := by
  obtain ⟨r1, h1, h2, h3⟩ := ph_do (c := fun l m => fX10_fewest l  m) hD (fun l0 l0' h m n hq b => zX10_fewest l0 l0' h  m n hq b) h ha
  exact ⟨r1, h1, h2, h3.c⟩
theorem xo_fits {a b : Nat} {A A1 B : pl_A} {z : Int32} (hD : pl_Do (fX10_fits 1 ) A z A1) {r : ml_M} (h : ph_2 a b A B r) (ha : a ≠ 0) : ∃ r1, fX10_fits a  r = some (z, r1) ∧ ph_2 a b A1 B r1 ∧ ph_c 1 r r1 := by
  obtain ⟨r1, h1, h2, h3⟩ := ph_do (c := fun l m => fX10_fits l  m) hD (fun l0 l0' h m n hq b => zX10_fits l0 l0' h  m n hq b) h ha
  exact ⟨r1, h1, h2, h3.c⟩
theorem xo_opens {a b : Nat} {A A1 B : pl_A} {z : Int32} {x0 : Int32} (hD : pl_Do (fX10_opens 1 x0) A z A1) {r : ml_M} (h : ph_2 a b A B r) (ha : a ≠ 0) : ∃ r1, fX10_opens a x0 r = some (z, r1) ∧ ph_2 a b A1 B r1 ∧ ph_c 1 r r1 := by
  obtain ⟨r1, h1, h2, h3⟩ := ph_do (c := fun l m => fX10_opens l x0 m) hD (fun l0 l0' h m n hq b => zX10_opens l0 l0' h _ _ rfl m n hq b) h ha
  exact ⟨r1, h1, h2, h3.c⟩
theorem xo_strange {a b : Nat} {A A1 B : pl_A} {z : Int32} (hD : pl_Do (fX10_strange 1 ) A z A1) {r : ml_M} (h : ph_2 a b A B r) (ha : a ≠ 0) : ∃ r1, fX10_strange a  r = some (z, r1) ∧ ph_2 a b A1 B r1 ∧ ph_c 1 r r1 := by
  obtain ⟨r1, h1, h2, h3⟩ := ph_do (c := fun l m => fX10_strange l  m) hD (fun l0 l0' h m n hq b => zX10_strange l0 l0' h  m n hq b) h ha
  exact ⟨r1, h1, h2, h3.c⟩
theorem xo_water {a b : Nat} {A A1 B : pl_A} {z : Int32} (hD : pl_Do (fX10_water 1 ) A z A1) {r : ml_M} (h : ph_2 a b A B r) (ha : a ≠ 0) : ∃ r1, fX10_water a  r = some (z, r1) ∧ ph_2 a b A1 B r1 ∧ ph_c 1 r r1 := by
  obtain ⟨r1, h1, h2, h3⟩ := ph_do (c := fun l m => fX10_water l  m) hD (fun l0 l0' h m n hq b => zX10_water l0 l0' h  m n hq b) h ha
  exact ⟨r1, h1, h2, h3.c⟩
theorem xo_piling {a b : Nat} {A A1 B : pl_A} {z : Int32} {x0 : Int32} (hD : pl_Do (fX10_piling 1 x0) A z A1) {r : ml_M} (h : ph_2 a b A B r) (ha : a ≠ 0) : ∃ r1, fX10_piling a x0 r = some (z, r1) ∧ ph_2 a b A1 B r1 ∧ ph_c 1 r r1 := by
  obtain ⟨r1, h1, h2, h3⟩ := ph_do (c := fun l m => fX10_piling l x0 m) hD (fun l0 l0' h m n hq b => zX10_piling l0 l0' h _ _ rfl m n hq b) h ha
  exact ⟨r1, h1, h2, h3.c⟩
theorem xo_share {a b : Nat} {A A1 B : pl_A} {z : Int32} {x0 : Int32} (hD : pl_Do (fX10_share 1 x0) A z A1) {r : ml_M} (h : ph_2 a b A B r) (ha : a ≠ 0) : ∃ r1, fX10_share a x0 r = some (z, r1) ∧ ph_2 a b A1 B r1 ∧ ph_c 1 r r1 := by
  obtain ⟨r1, h1, h2, h3⟩ := ph_do (c := fun l m => fX10_share l x0 m) hD (fun l0 l0' h m n hq b => zX10_share l0 l0' h _ _ rfl m n hq b) h ha
  exact ⟨r1, h1, h2, h3.c⟩
theorem xo_ways {a b : Nat} {A A1 B : pl_A} {z : Int32} {x0 : Int32} (hD : pl_Do (fX10_ways 1 x0) A z A1) {r : ml_M} (h : ph_2 a b A B r) (ha : a ≠ 0) : ∃ r1, fX10_ways a x0 r = some (z, r1) ∧ ph_2 a b A1 B r1 ∧ ph_c 1 r r1 := by
  obtain ⟨r1, h1, h2, h3⟩ := ph_do (c := fun l m => fX10_ways l x0 m) hD (fun l0 l0' h m n hq b => zX10_ways l0 l0' h _ _ rfl m n hq b) h ha
  exact ⟨r1, h1, h2, h3.c⟩
theorem xo_whose {a b : Nat} {A A1 B : pl_A} {z : Int32} {x0 x1 : Int32} (hD : pl_Do (fX10_whose 1 x0 x1) A z A1) {r : ml_M} (h : ph_2 a b A B r) (ha : a ≠ 0) : ∃ r1, fX10_whose a x0 x1 r = some (z, r1) ∧ ph_2 a b A1 B r1 ∧ ph_c 1 r r1 := by
  obtain ⟨r1, h1, h2, h3⟩ := ph_do (c := fun l m => fX10_whose l x0 x1 m) hD (fun l0 l0' h m n hq b => zX10_whose l0 l0' h _ _ rfl _ _ rfl m n hq b) h ha
  exact ⟨r1, h1, h2, h3.c⟩
theorem xo_sure {a b : Nat} {A A1 B : pl_A} {z : Int32} {x0 : Int32} (hD : pl_Do (fX10_sure 1 x0) A z A1) {r : ml_M} (h : ph_2 a b A B r) (ha : a ≠ 0) : ∃ r1, fX10_sure a x0 r = some (z, r1) ∧ ph_2 a b A1 B r1 ∧ ph_c 1 r r1 := by
  obtain ⟨r1, h1, h2, h3⟩ := ph_do (c := fun l m => fX10_sure l x0 m) hD (fun l0 l0' h m n hq b => zX10_sure l0 l0' h _ _ rfl m n hq b) h ha
  exact ⟨r1, h1, h2, h3.c⟩
theorem xo_next {a b : Nat} {A A1 B : pl_A} {z : Int32} {x0 : Int32} (hD : pl_Do (fX10_next 1 x0) A z A1) {r : ml_M} (h : ph_2 a b A B r) (ha : a ≠ 0) : ∃ r1, fX10_next a x0 r = some (z, r1) ∧ ph_2 a b A1 B r1 ∧ ph_c 1 r r1 := by
  obtain ⟨r1, h1, h2, h3⟩ := ph_do (c := fun l m => fX10_next l x0 m) hD (fun l0 l0' h m n hq b => zX10_next l0 l0' h _ _ rfl m n hq b) h ha
  exact ⟨r1, h1, h2, h3.c⟩
theorem xo_moves {a b : Nat} {A A1 B : pl_A} {z : Int32} {x0 x1 : Int32} (hD : pl_Do (fX10_moves 1 x0 x1) A z A1) {r : ml_M} (h : ph_2 a b A B r) (ha : a ≠ 0) : ∃ r1, fX10_moves a x0 x1 r = some (z, r1) ∧ ph_2 a b A1 B r1 ∧ ph_c 1 r r1 := by
  obtain ⟨r1, h1, h2, h3⟩ := ph_do (c := fun l m => fX10_moves l x0 x1 m) hD (fun l0 l0' h m n hq b => zX10_moves l0 l0' h _ _ rfl _ _ rfl m n hq b) h ha
  exact ⟨r1, h1, h2, h3.c⟩
theorem xo_bit {a b : Nat} {A A1 B : pl_A} {z : Int32} {x0 x1 x2 x3 : Int32} (hD : pl_Do (fX10_bit 1 x0 x1 x2 x3) A z A1) {r : ml_M} (h : ph_2 a b A B r) (ha : a ≠ 0) : ∃ r1, fX10_bit a x0 x1 x2 x3 r = some (z, r1) ∧ ph_2 a b A1 B r1 ∧ ph_c 1 r r1 := by
  obtain ⟨r1, h1, h2, h3⟩ := ph_do (c := fun l m => fX10_bit l x0 x1 x2 x3 m) hD (fun l0 l0' h m n hq b => zX10_bit l0 l0' h _ _ rfl _ _ rfl _ _ rfl _ _ rfl m n hq b) h ha
  exact ⟨r1, h1, h2, h3.c⟩
theorem xo_sheets {a b : Nat} {A A1 B : pl_A} {z : Int32} {x0 : Int32} (hD : pl_Do (fX10_sheets 1 x0) A z A1) {r : ml_M} (h : ph_2 a b A B r) (ha : a ≠ 0) : ∃ r1, fX10_sheets a x0 r = some (z, r1) ∧ ph_2 a b A1 B r1 ∧ ph_c 1 r r1 := by
  obtain ⟨r1, h1, h2, h3⟩ := ph_do (c := fun l m => fX10_sheets l x0 m) hD (fun l0 l0' h m n hq b => zX10_sheets l0 l0' h _ _ rfl m n hq b) h ha
  exact ⟨r1, h1, h2, h3.c⟩
theorem xo_laid {a b : Nat} {A A1 B : pl_A} {z : Int32} (hD : pl_Do (fX10_laid 1 ) A z A1) {r : ml_M} (h : ph_2 a b A B r) (ha : a ≠ 0) : ∃ r1, fX10_laid a  r = some (z, r1) ∧ ph_2 a b A1 B r1 ∧ ph_c 1 r r1 := by
  obtain ⟨r1, h1, h2, h3⟩ := ph_do (c := fun l m => fX10_laid l  m) hD (fun l0 l0' h m n hq b => zX10_laid l0 l0' h  m n hq b) h ha
  exact ⟨r1, h1, h2, h3.c⟩
theorem xo_travellers {a b : Nat} {A A1 B : pl_A} {z : Int32} (hD : pl_Do (fX10_travellers 1 ) A z A1) {r : ml_M} (h : ph_2 a b A B r) (ha : a ≠ 0) : ∃ r1, fX10_travellers a  r = some (z, r1) ∧ ph_2 a b A1 B r1 ∧ ph_c 1 r r1 := by
  obtain ⟨r1, h1, h2, h3⟩ := ph_do (c := fun l m => fX10_travellers l  m) hD (fun l0 l0' h m n hq b => zX10_travellers l0 l0' h  m n hq b) h ha
  exact ⟨r1, h1, h2, h3.c⟩
theorem xo_at {a b : Nat} {A A1 B : pl_A} {z : Int32} {x0 x1 : Int32} (hD : pl_Do (fX10_at 1 x0 x1) A z A1) {r : ml_M} (h : ph_2 a b A B r) (ha : a ≠ 0) : ∃ r1, fX10_at a x0 x1 r = some (z, r1) ∧ ph_2 a b A1 B r1 ∧ ph_c 1 r r1 := by
  obtain ⟨r1, h1, h2, h3⟩ := ph_do (c := fun l m => fX10_at l x0 x1 m) hD (fun l0 l0' h m n hq b => zX10_at l0 l0' h _ _ rfl _ _ rfl m n hq b) h ha
  exact ⟨r1, h1, h2, h3.c⟩
theorem xp_may {a b : Nat} {A B : pl_A} {z : Int32} {x0 : Int32} (hD : pl_Dp (fX10_may 1 x0) A z) {r : ml_M} (h : ph_2 a b A B r) (ha : a ≠ 0) : fX10_may a x0 r = some z :=
  ph_dp (c := fun l m => fX10_may l x0 m) hD (fun l0 l0' h m n hq b => zX10_may l0 l0' h _ _ rfl m n hq b) h ha
theorem xp_joins {a b : Nat} {A B : pl_A} {z : Int32} {x0 x1 : Int32} (hD : pl_Dp (fX10_joins 1 x0 x1) A z) {r : ml_M} (h : ph_2 a b A B r) (ha : a ≠ 0) : fX10_joins a x0 x1 r = some z :=
  ph_dp (c := fun l m => fX10_joins l x0 x1 m) hD (fun l0 l0' h m n hq b => zX10_joins l0 l0' h _ _ rfl _ _ rfl m n hq b) h ha
theorem xp_asked {a b : Nat} {A B : pl_A} {z : Int32} (hD : pl_Dp (fX10_asked 1 ) A z) {r : ml_M} (h : ph_2 a b A B r) (ha : a ≠ 0) : fX10_asked a  r = some z :=
  ph_dp (c := fun l m => fX10_asked l  m) hD (fun l0 l0' h m n hq b => zX10_asked l0 l0' h  m n hq b) h ha
theorem xp_many {a b : Nat} {A B : pl_A} {z : Int64} (hD : pl_Dp (fX10_many 1 ) A z) {r : ml_M} (h : ph_2 a b A B r) (ha : a ≠ 0) : fX10_many a  r = some z :=
  ph_dp (c := fun l m => fX10_many l  m) hD (fun l0 l0' h m n hq b => zX10_many l0 l0' h  m n hq b) h ha

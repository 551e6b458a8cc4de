/-! SHARINGS: what is noted of each; the class's search. -/
def pl_at (w : List Nat) (mv y : Nat) (t : Nat) : Bool := decide (y / 64 = mv) && decide (y % 64 / 8 < t) && decide (w.getD (y % 64 / 8) 0 = y % 8)
def pl_dd (w : List Nat) (mv t : Nat) (d : Nat → Int32) : Nat → Int32 := fun y => if pl_at w mv y t = true then d y + 1 else d y
theorem pl_dd1 {w : List Nat} {mv t : Nat} (d : Nat → Int32) (ht : t < 8) (hw : w.getD t 0 < 8) : pl_up (pl_dd w mv t d) (mv * 64 + t * 8 + w.getD t 0) (d (mv * 64 + t * 8 + w.getD t 0) + 1) = pl_dd w mv (t + 1) d := by
  funext y
  unfold pl_up pl_dd pl_at
  by_cases h : y = mv * 64 + t * 8 + w.getD t 0
  · rw [if_pos h, decide_eq_true (show y / 64 = mv by omega), decide_eq_true (show y % 64 / 8 < t + 1 by omega), show y % 64 / 8 = t by omega, decide_eq_true (show w.getD t 0 = y % 8 by omega), h]; rfl
  · rw [if_neg h]
    by_cases c : y / 64 = mv ∧ y % 64 / 8 = t
    · have h2 : ¬ w.getD (y % 64 / 8) 0 = y % 8 := fun z => by rw [c.2] at z; omega
      rw [decide_eq_false h2, Bool.and_false, Bool.and_false]
    · have e : (decide (y / 64 = mv) && decide (y % 64 / 8 < t)) = (decide (y / 64 = mv) && decide (y % 64 / 8 < t + 1)) := by
        by_cases c1 : y / 64 = mv
        · have : (y % 64 / 8 < t) = (y % 64 / 8 < t + 1) := by apply propext; omega
          simp only [this]
        · rw [decide_eq_false c1, Bool.false_and, Bool.false_and]
      rw [e]
theorem pl_dd0 (w : List Nat) (mv : Nat) (d : Nat → Int32) : pl_dd w mv 0 d = d := by
  funext y
  unfold pl_dd pl_at
  rw [decide_eq_false (Nat.not_lt_zero _), Bool.and_false, Bool.false_and, if_neg (by decide)]
theorem pl_sxK {A : pl_A} {Z : ml_M} (hx : pl_sx A Z) (v : Int32) (a b d c : Nat → Int32) : ml_K (pl_sy Z v a b d c) 12 = (7, 0) ∧ ml_I (pl_sy Z v a b d c) 12 6 = nI (pl_N A 0 1 0) ∧ ml_I (pl_sy Z v a b d c) 12 7 = nI (pl_N A 0 0 0) ∧ ml_I (pl_sy Z v a b d c) 12 1 = v :=
  ⟨pl_k12 hx.1, by rw [pl_sy_12, pl_up_n _ _ (by decide)]; exact hx.2.1, by rw [pl_sy_12, pl_up_n _ _ (by decide)]; exact hx.2.2.1, by rw [pl_sy_12, pl_up_k]⟩
theorem pl_noteC {A : pl_A} {Z : ml_M} (hW : pl_W A) (hx : pl_sx A Z) {v : Int32} {a b d c : Nat → Int32} {w : List Nat} {mv : Nat} (hmv : mv ≤ 20) (hlen : w.length = pl_N A 0 1 0) (hw : ∀ l ∈ w, l < pl_N A 0 0 0) (hc : ∀ i, i < w.length → c i = nI (w.getD i 0)) :
    fX7_note 12 (nI mv) (pl_sy Z v a b d c) = some (pl_sy Z (if v = -9 ∨ nI mv < v then nI mv else v) (if v = -9 ∨ nI mv < v then pl_c8 c a else a) (pl_up b mv (b mv + 1)) (pl_dd w mv (pl_N A 0 1 0) d) c) := by
  have hS := hx.1
  have hww := hW.1
  unfold pl_Wc at hww
  have k12 := pl_k12 hS
  have k13 := pl_k13 hS
  have k14 := pl_k14 hS
  have k15 := pl_k15 hS
  have k20 := pl_k20 hS
  have r2 := pl_r12_2 hS
  have r3 := pl_r12_3 hS
  have r4 := pl_r12_4 hS
  have r12 := pl_r12_12 hS
  have e1 : (1 : Int32) = nI 1 := rfl
  have e8 : (8 : Int32) = nI 8 := rfl
  have e64 : (64 : Int32) = nI 64 := rfl
  have h69 : ∀ v b d, fX7_note_69 12 (nI mv) (pl_sy Z v a b d c) = some (pl_sy Z (nI mv) (pl_c8 c a) b d c) := fun v b d => by
    have hcpo : ml_cpo (pl_sy Z (nI mv) a b d c) 20 13 0 0 8 := by
      have k20' : ml_K (pl_sy Z (nI mv) a b d c) 20 = (20, 8) := k20
      have k13' : ml_K (pl_sy Z (nI mv) a b d c) 13 = (20, 8) := k13
      unfold ml_cpo
      rw [k20', k13']
      exact ⟨⟨rfl, rfl⟩, by decide⟩
    have c0 : (0 : Int32).toNatClampNeg = 0 := rfl
    have c8 : (8 : Int32).toNatClampNeg = 8 := rfl
    have ks := (pl_sxK hx v a b d c).1
    unfold fX7_note_69
    rw [ks, if_pos rfl, pl_let, pl_sy_s12, pl_let, pl_let, pl_sy_R, r12, r2, if_pos hcpo, pl_let, c0, c8, pl_sy_cp]
  have h51 : ∀ b d, fX7_note_51 12 (nI mv) (pl_sy Z v a b d c) = some (pl_sy Z (if v = -9 ∨ nI mv < v then nI mv else v) (if v = -9 ∨ nI mv < v then pl_c8 c a else a) b d c) := fun b d => by
    obtain ⟨ks, -, -, i1⟩ := pl_sxK hx v a b d c
    unfold fX7_note_51
    rw [ks, if_pos rfl, i1]
    by_cases c1 : v = -9
    · rw [if_pos c1, if_pos (Or.inl c1), if_pos (Or.inl c1), h69]
    · rw [if_neg c1]
      by_cases c2 : nI mv < v
      · rw [if_pos c2, if_pos (Or.inr c2), if_pos (Or.inr c2), h69]
      · rw [if_neg c2, if_neg (fun z => z.elim c1 c2), if_neg (fun z => z.elim c1 c2)]
  have hl := pl_for (F := fun fu t (_ : Unit) => fX7_note_12 fu 12 (nI mv) (nI t) (pl_sy Z v a (pl_up b mv (b mv + 1)) (pl_dd w mv t d) c)) (R := some (pl_sy Z (if v = -9 ∨ nI mv < v then nI mv else v) (if v = -9 ∨ nI mv < v then pl_c8 c a else a) (pl_up b mv (b mv + 1)) (pl_dd w mv (pl_N A 0 1 0) d) c)) (pl_N A 0 1 0) (fun _ => ()) (fun fu t ht => ?_) (fun fu => ?_) ml_fu (by rw [pl_fu]; omega)
  · rw [pl_dd0] at hl
    obtain ⟨ks, -, -, -⟩ := pl_sxK hx v a b d c
    have i14 := pl_sy_14 Z v a b d c
    have hin : ml_in (pl_sy Z v a b d c) 14 20 (nI mv) := by
      have k14' : ml_K (pl_sy Z v a b d c) 14 = (20, 21) := k14
      rw [pl_in (by omega), k14']; exact ⟨rfl, by show mv < 21; omega⟩
    unfold fX7_note
    rw [ks, if_pos rfl, pl_let, pl_sy_R, r3, if_pos hin, if_pos hin, pl_let, nI_clamp (by omega), i14, pl_sy_s14]
    exact hl
  · show fX7_note_12 (fu + 1) 12 (nI mv) (nI t) (pl_sy Z v a (pl_up b mv (b mv + 1)) (pl_dd w mv t d) c) = fX7_note_12 fu 12 (nI mv) (nI (t + 1)) (pl_sy Z v a (pl_up b mv (b mv + 1)) (pl_dd w mv (t + 1) d) c)
    have hwt : w.getD t 0 < pl_N A 0 0 0 := by
      refine hw _ ?_
      rw [List.getD_eq_getElem?_getD, List.getElem?_eq_getElem (by omega)]
      exact List.getElem_mem (by omega)
    have hct := hc t (by omega)
    obtain ⟨ks, i6, -, -⟩ := pl_sxK hx v a (pl_up b mv (b mv + 1)) (pl_dd w mv t d) c
    have i15 := pl_sy_15 Z v a (pl_up b mv (b mv + 1)) (pl_dd w mv t d) c
    have i20 := pl_sy_20 Z v a (pl_up b mv (b mv + 1)) (pl_dd w mv t d) c
    have hdd : pl_dd w mv t d (mv * 64 + t * 8 + w.getD t 0) = d (mv * 64 + t * 8 + w.getD t 0) := by
      unfold pl_dd pl_at
      rw [decide_eq_false (show ¬ (mv * 64 + t * 8 + w.getD t 0) % 64 / 8 < t by omega), Bool.and_false, Bool.false_and, if_neg (by decide)]
    rw [← pl_dd1 d (by omega) (by omega)]
    generalize hD : pl_dd w mv t d = D at *
    simp (disch := omega) only [fX7_note_12, pl_sy_K, k12, k15, k20, if_true, i6, nI_leI, show ¬ pl_N A 0 1 0 ≤ t by omega, if_false, ↓pl_let, pl_b1, pl_b2, ↓reduceIte, pl_sy_R, r4, r12, pl_in, nI_clamp, show t < 8 by omega, and_self, i20, hct, e64, e8, pk_mul, nI_add, show mv * 64 + t * 8 + w.getD t 0 < 1344 by omega, i15, hdd, pl_sy_s15, nI_1]
  · obtain ⟨ks, i6, -, -⟩ := pl_sxK hx v a (pl_up b mv (b mv + 1)) (pl_dd w mv (pl_N A 0 1 0) d) c
    simp (disch := omega) only [fX7_note_12, pl_sy_K, k12, if_true, i6, nI_leI, Nat.le_refl]
    exact h51 _ _
/-- what is noted of some sharings -/
def pl_n14 (A : pl_A) (W : List (List Nat)) (y : Nat) : Nat := (W.filter fun w => pl_moved A w == y).length
def pl_n15 (A : pl_A) (W : List (List Nat)) (y : Nat) : Nat := (W.filter fun w => pl_at w (pl_moved A w) y (pl_N A 0 1 0)).length
def pl_bst (A : pl_A) (W : List (List Nat)) : Option (Nat × List Nat) := W.foldl (fun b w => match b with
  | none => some (pl_moved A w, w)
  | some q => if pl_moved A w < q.1 then some (pl_moved A w, w) else b) none
theorem pl_bst_app (A : pl_A) (W : List (List Nat)) (w : List Nat) : pl_bst A (W ++ [w]) = match pl_bst A W with
    | none => some (pl_moved A w, w)
    | some q => if pl_moved A w < q.1 then some (pl_moved A w, w) else pl_bst A W := by
  unfold pl_bst
  rw [List.foldl_append]; rfl
def pl_bv (o : Option (Nat × List Nat)) : Int32 := match o with
  | none => -9
  | some q => nI q.1
def pl_ba (nt : Nat) (c0 g13 : Nat → Int32) (o : Option (Nat × List Nat)) : Nat → Int32 := match o with
  | none => g13
  | some q => pl_c8 (fun t => if t < nt then nI (q.2.getD t 0) else c0 t) g13
def pl_lo2 (n : Nat) (f : Nat → Nat) (g : Nat → Int32) : Nat → Int32 := fun y => if y < n then nI (f y) else g y
def pl_ss (A : pl_A) (Z : ml_M) (c0 g13 : Nat → Int32) (W : List (List Nat)) (c : Nat → Int32) : ml_M := pl_sy Z (pl_bv (pl_bst A W)) (pl_ba (pl_N A 0 1 0) c0 g13 (pl_bst A W)) (pl_lo2 21 (pl_n14 A W) (ml_I Z 14)) (pl_lo2 1344 (pl_n15 A W) (ml_I Z 15)) c
theorem pl_bst_20 {A : pl_A} (hW : pl_W A) (W : List (List Nat)) : ∀ q, pl_bst A W = some q → q.1 ≤ 20 := by
  have h : ∀ (W : List (List Nat)) (o : Option (Nat × List Nat)), (∀ q, o = some q → q.1 ≤ 20) → ∀ q, W.foldl (fun b w => match b with
    | none => some (pl_moved A w, w)
    | some q => if pl_moved A w < q.1 then some (pl_moved A w, w) else b) o = some q → q.1 ≤ 20 := by
    intro W
    induction W with
    | nil => intro o ho q hq; exact ho q hq
    | cons w W ih =>
      intro o ho q hq
      rw [List.foldl_cons] at hq
      refine ih _ (fun q' hq' => ?_) q hq
      cases o with
      | none => cases hq'; exact pl_moved_le hW w
      | some p =>
        simp only at hq'
        split at hq'
        · cases hq'; exact pl_moved_le hW w
        · exact ho q' hq'
  exact h W none (fun q hq => by cases hq)
theorem pl_ss_note {A : pl_A} {Z : ml_M} (hW : pl_W A) (hx : pl_sx A Z) {c0 g13 c : Nat → Int32} {W : List (List Nat)} {w : List Nat} (hlen : w.length = pl_N A 0 1 0) (hw : ∀ l ∈ w, l < pl_N A 0 0 0) (hc : ∀ i, i < w.length → c i = nI (w.getD i 0)) (hc0 : ∀ i, w.length ≤ i → c i = c0 i) :
    fX7_note 12 (nI (pl_moved A w)) (pl_ss A Z c0 g13 W c) = some (pl_ss A Z c0 g13 (W ++ [w]) c) := by
  have hm := pl_moved_le hW w
  unfold pl_ss
  rw [pl_noteC hW hx hm hlen hw hc]
  have e14 : pl_up (pl_lo2 21 (pl_n14 A W) (ml_I Z 14)) (pl_moved A w) (pl_lo2 21 (pl_n14 A W) (ml_I Z 14) (pl_moved A w) + 1) = pl_lo2 21 (pl_n14 A (W ++ [w])) (ml_I Z 14) := by
    funext y
    unfold pl_up pl_lo2
    by_cases h : y = pl_moved A w
    · rw [if_pos h, if_pos (by omega), if_pos (by omega), h, nI_1]
      unfold pl_n14
      rw [List.filter_append, List.length_append]
      simp
    · rw [if_neg h]
      have : [w].filter (fun w => pl_moved A w == y) = [] := by
        rw [List.filter_cons]
        rw [if_neg (by simpa using fun z => h z.symm)]; rfl
      unfold pl_n14
      rw [List.filter_append, List.length_append, this]; rfl
  have e15 : pl_dd w (pl_moved A w) (pl_N A 0 1 0) (pl_lo2 1344 (pl_n15 A W) (ml_I Z 15)) = pl_lo2 1344 (pl_n15 A (W ++ [w])) (ml_I Z 15) := by
    funext y
    unfold pl_dd pl_lo2
    by_cases h : pl_at w (pl_moved A w) y (pl_N A 0 1 0) = true
    · have h64 : y / 64 = pl_moved A w := by
        unfold pl_at at h
        rw [Bool.and_eq_true, Bool.and_eq_true, decide_eq_true_eq] at h
        exact h.1.1
      rw [if_pos h, if_pos (by omega), if_pos (by omega), nI_1]
      unfold pl_n15
      rw [List.filter_append, List.length_append, List.filter_cons, if_pos h]; rfl
    · rw [if_neg h]
      unfold pl_n15
      rw [List.filter_append, List.length_append, List.filter_cons, if_neg h]; rfl
  have ec8 : ∀ g : Nat → Int32, (∀ j, 8 ≤ j → g j = g13 j) → pl_c8 c g = pl_c8 (fun t => if t < pl_N A 0 1 0 then nI (w.getD t 0) else c0 t) g13 := fun g hg => by
    funext j
    unfold pl_c8
    by_cases h8 : j < 8
    · rw [if_pos h8, if_pos h8]
      show c j = if j < pl_N A 0 1 0 then nI (w.getD j 0) else c0 j
      by_cases hj : j < pl_N A 0 1 0
      · rw [if_pos hj, hc j (by omega)]
      · rw [if_neg hj, hc0 j (by omega)]
    · rw [if_neg h8, if_neg h8, hg j (by omega)]
  have hgba : ∀ o j, 8 ≤ j → pl_ba (pl_N A 0 1 0) c0 g13 o j = g13 j := fun o j hj => by
    cases o with
    | none => rfl
    | some q =>
      show pl_c8 (fun t => if t < pl_N A 0 1 0 then nI (q.2.getD t 0) else c0 t) g13 j = g13 j
      unfold pl_c8; rw [if_neg (by omega)]
  rw [e14, e15, pl_bst_app]
  have hb20 := pl_bst_20 hW W
  cases hb : pl_bst A W with
  | none =>
    show some (pl_sy Z (if pl_bv none = -9 ∨ nI (pl_moved A w) < pl_bv none then nI (pl_moved A w) else pl_bv none) (if pl_bv none = -9 ∨ nI (pl_moved A w) < pl_bv none then pl_c8 c (pl_ba (pl_N A 0 1 0) c0 g13 none) else pl_ba (pl_N A 0 1 0) c0 g13 none) _ _ c) = some (pl_sy Z (nI (pl_moved A w)) (pl_c8 (fun t => if t < pl_N A 0 1 0 then nI (w.getD t 0) else c0 t) g13) _ _ c)
    have h9 : pl_bv none = -9 := rfl
    rw [if_pos (Or.inl h9), if_pos (Or.inl h9), ec8 _ (hgba none)]
  | some q =>
    have hq := hb20 q hb
    have hv : pl_bv (some q) = nI q.1 := rfl
    have hn9 : ¬ nI q.1 = -9 := by rw [pl_n9 (by omega)]; exact id
    show some (pl_sy Z (if pl_bv (some q) = -9 ∨ nI (pl_moved A w) < pl_bv (some q) then nI (pl_moved A w) else pl_bv (some q)) (if pl_bv (some q) = -9 ∨ nI (pl_moved A w) < pl_bv (some q) then pl_c8 c (pl_ba (pl_N A 0 1 0) c0 g13 (some q)) else pl_ba (pl_N A 0 1 0) c0 g13 (some q)) _ _ c) = some (pl_sy Z (pl_bv (if pl_moved A w < q.1 then some (pl_moved A w, w) else some q)) (pl_ba (pl_N A 0 1 0) c0 g13 (if pl_moved A w < q.1 then some (pl_moved A w, w) else some q)) _ _ c)
    rw [hv]
    by_cases hlt : pl_moved A w < q.1
    · have hlt' : nI (pl_moved A w) < nI q.1 := nI_lt hlt (by omega)
      rw [if_pos (Or.inr hlt'), if_pos (Or.inr hlt'), if_pos hlt, ec8 _ (hgba (some q))]; rfl
    · have hlt' : ¬ (nI q.1 = -9 ∨ nI (pl_moved A w) < nI q.1) := fun z => z.elim hn9 (fun y => hlt ((nI_ltI (by omega) (by omega)).mp y))
      rw [if_neg hlt', if_neg hlt', if_neg hlt]; rfl
/-- the search from some first trunks on -/
theorem pl_giveC {A : pl_A} {Z : ml_M} (hW : pl_W A) (hx : pl_sx A Z) {c0 g13 : Nat → Int32} : ∀ r w W c fu, w.length + r = pl_N A 0 1 0 → r < fu → (∀ l ∈ w, l < pl_N A 0 0 0) → (∀ i, i < w.length → c i = nI (w.getD i 0)) → (∀ i, pl_N A 0 1 0 ≤ i → c i = c0 i) →
    ∃ c', fX7_give fu 12 (nI w.length) (nI (pl_us w)) (nI (pl_mv A w)) (pl_ss A Z c0 g13 W c) = some (pl_ss A Z c0 g13 (W ++ pl_gq A r w) c') ∧ (∀ i, i < w.length → c' i = c i) ∧ ∀ i, pl_N A 0 1 0 ≤ i → c' i = c0 i := by
  have hS := hx.1
  have hww := hW.1
  unfold pl_Wc at hww
  obtain ⟨p1, p2⟩ := pl_pown (show pl_N A 0 0 0 ≤ 8 by omega)
  have k17 := pl_k17 hS
  have k16 := pl_k16 hS
  have k20 := pl_k20 hS
  have k12 := pl_k12 hS
  have r9 := pl_r12_9 hS
  have r8 := pl_r12_8 hS
  have r12 := pl_r12_12 hS
  have e1 : (1 : Int32) = nI 1 := rfl
  have e31 : (31 : Int32) = nI 31 := rfl
  have e8 : (8 : Int32) = nI 8 := rfl
  intro r
  induction r with
  | zero =>
    intro w W c fu hl hfu hw hc hc0
    obtain ⟨fu, rfl⟩ : ∃ q, fu = q + 1 := ⟨fu - 1, by omega⟩
    obtain ⟨ks, i6, i7, -⟩ := pl_sxK hx (pl_bv (pl_bst A W)) (pl_ba (pl_N A 0 1 0) c0 g13 (pl_bst A W)) (pl_lo2 21 (pl_n14 A W) (ml_I Z 14)) (pl_lo2 1344 (pl_n15 A W) (ml_I Z 15)) c
    have i17 : ml_I (pl_sy Z (pl_bv (pl_bst A W)) (pl_ba (pl_N A 0 1 0) c0 g13 (pl_bst A W)) (pl_lo2 21 (pl_n14 A W) (ml_I Z 14)) (pl_lo2 1344 (pl_n15 A W) (ml_I Z 15)) c) 17 = ml_I Z 17 := pl_sy_o _ _ _ _ _ _ (by decide)
    have hus := pl_us_lt hw
    have h17 := hx.2.2.2.2.2.1 _ hus
    have hmv := pl_mv_all hW (w := w) (by omega)
    have hnote := pl_ss_note hW hx (c0 := c0) (g13 := g13) (c := c) (W := W) (w := w) (by omega) hw hc (fun i hi => hc0 i (by omega))
    have hg0 : pl_gq A 0 w = if pl_cov A (pl_us w) = true then [w] else [] := rfl
    rw [hmv, hg0]
    by_cases hcv : pl_cov A (pl_us w) = true
    · rw [if_pos hcv] at h17
      refine ⟨c, ?_, fun i _ => rfl, hc0⟩
      rw [if_pos hcv, ← hnote]
      show fX7_give_b (fX7_give fu) 12 (nI w.length) (nI (pl_us w)) (nI (pl_moved A w)) (pl_ss A Z c0 g13 W c) = _
      unfold pl_ss at hnote ⊢
      simp (disch := omega) only [fX7_give_b, pl_sy_K, k12, k17, if_true, i6, nI_ltI, show ¬ w.length < pl_N A 0 1 0 by omega, if_false, ↓pl_let, pl_b1, pl_b2, ↓reduceIte, pl_sy_R, r9, pl_in, nI_clamp, show pl_us w < 256 by omega, and_self, i17, h17, pl_10, hnote]
    · rw [if_neg hcv] at h17
      refine ⟨c, ?_, fun i _ => rfl, hc0⟩
      rw [if_neg hcv, List.append_nil]
      show fX7_give_b (fX7_give fu) 12 (nI w.length) (nI (pl_us w)) (nI (pl_moved A w)) (pl_ss A Z c0 g13 W c) = _
      unfold pl_ss
      simp (disch := omega) only [fX7_give_b, pl_sy_K, k12, k17, if_true, i6, nI_ltI, show ¬ w.length < pl_N A 0 1 0 by omega, if_false, ↓pl_let, pl_b1, pl_b2, ↓reduceIte, pl_sy_R, r9, pl_in, nI_clamp, show pl_us w < 256 by omega, and_self, i17, h17]
  | succ r ih =>
    intro w W c fu hl hfu hw hc hc0
    obtain ⟨fu, rfl⟩ : ∃ q, fu = q + 1 := ⟨fu - 1, by omega⟩
    have hus := pl_us_lt hw
    have hopen := pl_openC hW hx (v := pl_bv (pl_bst A W)) (a := pl_ba (pl_N A 0 1 0) c0 g13 (pl_bst A W)) (b := pl_lo2 21 (pl_n14 A W) (ml_I Z 14)) (d := pl_lo2 1344 (pl_n15 A W) (ml_I Z 15)) (c := c) (w := w) (by omega) hw hc
    have hol := pl_opi_lt A hw w.length
    obtain ⟨F, hF⟩ : ∃ F : Nat → List (List Nat), F = fun l => pl_fq w (pl_opn A w l w.length) (pl_gq A r (w ++ [l])) l := ⟨_, rfl⟩
    have hgq : pl_gq A (r + 1) w = pl_fm F (pl_N A 0 0 0) := by rw [pl_gq1, pl_flat_fm, hF]
    have hmvb : ∀ l, pl_mv A w + pl_st A w.length l (pl_N A 0 3 0) = pl_mv A (w ++ [l]) := fun l => (pl_mv_app A w l).symm
    have hloop := pl_loop (F := fun fl (s : Nat × ml_M) => fX7_give_34 (fX7_give fu) fl 12 (nI w.length) (nI (pl_us w)) (nI (pl_mv A w)) (nI (pl_opi A w w.length)) (nI s.1) s.2) (μ := fun s => pl_N A 0 0 0 - s.1) (Inv := fun s => s.1 ≤ pl_N A 0 0 0 ∧ ∃ c', s.2 = pl_ss A Z c0 g13 (W ++ pl_fm F s.1) c' ∧ (∀ i, i < w.length → c' i = c i) ∧ ∀ i, pl_N A 0 1 0 ≤ i → c' i = c0 i) (Post := fun R => ∃ c', R = some (pl_ss A Z c0 g13 (W ++ pl_fm F (pl_N A 0 0 0)) c') ∧ (∀ i, i < w.length → c' i = c i) ∧ ∀ i, pl_N A 0 1 0 ≤ i → c' i = c0 i) ?_ ml_fu (0, pl_ss A Z c0 g13 W c) (by rw [pl_fu]; show pl_N A 0 0 0 - 0 < _; omega) ⟨Nat.zero_le _, c, by show _ = pl_ss A Z c0 g13 (W ++ []) c; rw [List.append_nil], fun _ _ => rfl, hc0⟩
    · obtain ⟨c', h1, h2, h3⟩ := hloop
      refine ⟨c', ?_, h2, h3⟩
      rw [hgq, ← h1]
      show fX7_give_b (fX7_give fu) 12 (nI w.length) (nI (pl_us w)) (nI (pl_mv A w)) (pl_ss A Z c0 g13 W c) = fX7_give_34 (fX7_give fu) ml_fu 12 (nI w.length) (nI (pl_us w)) (nI (pl_mv A w)) (nI (pl_opi A w w.length)) (nI 0) (pl_ss A Z c0 g13 W c)
      obtain ⟨ks, i6, i7, -⟩ := pl_sxK hx (pl_bv (pl_bst A W)) (pl_ba (pl_N A 0 1 0) c0 g13 (pl_bst A W)) (pl_lo2 21 (pl_n14 A W) (ml_I Z 14)) (pl_lo2 1344 (pl_n15 A W) (ml_I Z 15)) c
      unfold pl_ss
      simp (disch := omega) only [fX7_give_b, pl_sy_K, k12, if_true, i6, nI_ltI, show w.length < pl_N A 0 1 0 by omega, ↓pl_let, pl_b1, pl_b2, ↓reduceIte, hopen, nI_0]
    · rintro fl ⟨l, M⟩ ⟨hl1, c', hMe, hc1, hc2⟩
      have hMe : M = pl_ss A Z c0 g13 (W ++ pl_fm F l) c' := hMe
      subst hMe
      have hl1 : l ≤ pl_N A 0 0 0 := hl1
      obtain ⟨ks, i6, i7, -⟩ := pl_sxK hx (pl_bv (pl_bst A (W ++ pl_fm F l))) (pl_ba (pl_N A 0 1 0) c0 g13 (pl_bst A (W ++ pl_fm F l))) (pl_lo2 21 (pl_n14 A (W ++ pl_fm F l)) (ml_I Z 14)) (pl_lo2 1344 (pl_n15 A (W ++ pl_fm F l)) (ml_I Z 15)) c'
      by_cases hle : l < pl_N A 0 0 0
      · right
        have hh := fun M => (pl_has (s := pl_opi A w w.length) (t := l) (by omega) (by omega) M).1
        have htb := pl_opi_tb A hw l w.length
        rw [decide_eq_true hle, Bool.true_and] at htb
        by_cases hq : (pl_opi A w w.length).testBit l = true
        · have hz : ∀ (M : ml_M) (f : Int32 → Option ml_M), ml_b1 (fX10_has (nI (pl_opi A w w.length)) (nI l) M) f = f 1 := fun M f => by rw [hh, hq]; rfl
          rw [hq] at htb
          have htb := htb.symm
          rw [Bool.and_eq_true] at htb
          have hnw : ¬ l ∈ w := by simpa using htb.1
          have hFl : F l = pl_gq A r (w ++ [l]) := by
            rw [hF]
            show pl_fq w (pl_opn A w l w.length) (pl_gq A r (w ++ [l])) l = _
            unfold pl_fq
            rw [if_neg (fun z => z.elim hnw (fun y => by rw [htb.2] at y; cases y))]
          have h16 := hx.2.2.2.2.1 w.length l (by omega) hle
          have i16 : ∀ x, ml_I (pl_sy Z (pl_bv (pl_bst A (W ++ pl_fm F l))) (pl_ba (pl_N A 0 1 0) c0 g13 (pl_bst A (W ++ pl_fm F l))) (pl_lo2 21 (pl_n14 A (W ++ pl_fm F l)) (ml_I Z 14)) (pl_lo2 1344 (pl_n15 A (W ++ pl_fm F l)) (ml_I Z 15)) x) 16 = ml_I Z 16 := fun x => pl_sy_o _ _ _ _ _ _ (by decide)
          obtain ⟨c2, g1, g2, g3⟩ := ih (w ++ [l]) (W ++ pl_fm F l) (pl_up c' w.length (nI l)) fu (by rw [List.length_append, List.length_singleton]; omega) (by omega) (fun x hx => by
            rcases List.mem_append.mp hx with hx | hx
            · exact hw x hx
            · rw [List.mem_singleton.mp hx]; exact hle) (fun i hi => by
            rw [List.length_append, List.length_singleton] at hi
            by_cases hil : i = w.length
            · rw [hil, pl_up_k, pl_getD_len]
            · rw [pl_up_n _ _ hil, pl_getD_app _ _ (by omega), hc1 i (by omega), hc i (by omega)]) (fun i hi => by rw [pl_up_n _ _ (by omega)]; exact hc2 i hi)
          rw [List.length_append, List.length_singleton, pl_us_app, ← hmvb] at g1
          refine ⟨(l + 1, pl_ss A Z c0 g13 (W ++ pl_fm F (l + 1)) c2), ?_, ⟨hle, c2, rfl, fun i hi => ?_, g3⟩, ?_⟩
          · show fX7_give_34 (fX7_give fu) (fl + 1) 12 (nI w.length) (nI (pl_us w)) (nI (pl_mv A w)) (nI (pl_opi A w w.length)) (nI l) (pl_ss A Z c0 g13 (W ++ pl_fm F l) c') = fX7_give_34 (fX7_give fu) fl 12 (nI w.length) (nI (pl_us w)) (nI (pl_mv A w)) (nI (pl_opi A w w.length)) (nI (l + 1)) (pl_ss A Z c0 g13 (W ++ pl_fm F (l + 1)) c2)
            rw [pl_fm1, hFl, ← List.append_assoc]
            have g1' : fX7_give fu 12 (nI (w.length + 1)) (nI (pl_us w) ||| (1 : Int32) <<< (nI l &&& 31)) (nI (pl_mv A w) + nI (pl_st A w.length l (pl_N A 0 3 0))) (pl_sy Z (pl_bv (pl_bst A (W ++ pl_fm F l))) (pl_ba (pl_N A 0 1 0) c0 g13 (pl_bst A (W ++ pl_fm F l))) (pl_lo2 21 (pl_n14 A (W ++ pl_fm F l)) (ml_I Z 14)) (pl_lo2 1344 (pl_n15 A (W ++ pl_fm F l)) (ml_I Z 15)) (pl_up c' w.length (nI l))) = some (pl_ss A Z c0 g13 (W ++ pl_fm F l ++ pl_gq A r (w ++ [l])) c2) := by
              rw [pl_shl1 (by omega), pl_or, nI_add]
              exact g1
            unfold pl_ss at g1' ⊢
            have hidx : nI w.length * (8 : Int32) + nI l = nI (w.length * 8 + l) := by rw [e8, pk_mul, nI_add]
            simp (disch := omega) only [fX7_give_34, fX7_give_91, pl_sy_K, k12, k16, k20, if_true, i7, nI_leI, show ¬ pl_N A 0 0 0 ≤ l by omega, if_false, ↓hz, pl_10, ↓pl_let, pl_b1, pl_b2, ↓reduceIte, pl_sy_R, r8, r12, pl_in, nI_clamp, show w.length < 8 by omega, and_self, pl_sy_s20, hidx, show w.length * 8 + l < 64 by omega, i16, h16, g1', nI_1]
          · rw [g2 i (by rw [List.length_append, List.length_singleton]; omega), pl_up_n _ _ (by omega)]
            exact hc1 i hi
          · show pl_N A 0 0 0 - (l + 1) < pl_N A 0 0 0 - l
            omega
        · have hq0 : (pl_opi A w w.length).testBit l = false := by simpa using hq
          have hz : ∀ (M : ml_M) (f : Int32 → Option ml_M), ml_b1 (fX10_has (nI (pl_opi A w w.length)) (nI l) M) f = f 0 := fun M f => by rw [hh, hq0]; rfl
          rw [hq0] at htb
          have hFl : F l = [] := by
            rw [hF]
            show pl_fq w (pl_opn A w l w.length) (pl_gq A r (w ++ [l])) l = _
            unfold pl_fq
            rw [if_pos]
            by_cases hnw : l ∈ w
            · exact Or.inl hnw
            · right
              rw [decide_eq_false hnw, Bool.not_false, Bool.true_and] at htb
              exact htb.symm
          refine ⟨(l + 1, pl_ss A Z c0 g13 (W ++ pl_fm F (l + 1)) c'), ?_, ⟨hle, c', rfl, hc1, hc2⟩, ?_⟩
          · show fX7_give_34 (fX7_give fu) (fl + 1) 12 (nI w.length) (nI (pl_us w)) (nI (pl_mv A w)) (nI (pl_opi A w w.length)) (nI l) (pl_ss A Z c0 g13 (W ++ pl_fm F l) c') = fX7_give_34 (fX7_give fu) fl 12 (nI w.length) (nI (pl_us w)) (nI (pl_mv A w)) (nI (pl_opi A w w.length)) (nI (l + 1)) (pl_ss A Z c0 g13 (W ++ pl_fm F (l + 1)) c')
            rw [pl_fm1, hFl, List.append_nil]
            unfold pl_ss
            simp (disch := omega) only [fX7_give_34, fX7_give_91, pl_sy_K, k12, if_true, i7, nI_leI, show ¬ pl_N A 0 0 0 ≤ l by omega, if_false, ↓hz, ↓pl_let, pl_b1, pl_b2, ↓reduceIte, nI_1]
          · show pl_N A 0 0 0 - (l + 1) < pl_N A 0 0 0 - l
            omega
      · left
        have hll : l = pl_N A 0 0 0 := by omega
        refine ⟨c', ?_, hc1, hc2⟩
        show fX7_give_34 (fX7_give fu) (fl + 1) 12 (nI w.length) (nI (pl_us w)) (nI (pl_mv A w)) (nI (pl_opi A w w.length)) (nI l) (pl_ss A Z c0 g13 (W ++ pl_fm F l) c') = some (pl_ss A Z c0 g13 (W ++ pl_fm F (pl_N A 0 0 0)) c')
        rw [← hll]
        unfold pl_ss
        simp (disch := omega) only [fX7_give_34, pl_sy_K, k12, if_true, i7, nI_leI, show pl_N A 0 0 0 ≤ l by omega]

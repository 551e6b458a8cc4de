/-! A BOOK READ: the pure reading, the class's small calls. -/
theorem pl_byI {v : Int32} (h : pl_by v) : -128 ≤ v.toInt ∧ v.toInt ≤ 127 := by
  obtain ⟨z, rfl⟩ := h
  rw [Int8.toInt_toInt32]
  have h1 := Int8.le_toInt z.toInt8
  have h2 := Int8.toInt_lt z.toInt8
  omega
theorem pl_byS {v : Int32} (h : pl_by v) : (v - 48).toInt = v.toInt - 48 := by
  have hb := pl_byI h
  rw [Int32.toInt_sub]
  have e : (48 : Int32).toInt = 48 := by decide
  rw [e]
  refine Int.bmod_eq_of_le ?_ ?_ <;> omega
theorem pl_byW {v : Int32} (h : pl_by v) {a b : Nat} (ha : a ≤ 10) (hb : b ≤ 10) : (nI a ≤ v - 48 ∧ v - 48 ≤ nI b - 1) ↔ (nI (48 + a) ≤ v ∧ v < nI (48 + b)) := by
  have hi := pl_byI h
  have hs := pl_byS h
  have e1 : (nI b - 1).toInt = (b : Int) - 1 := by
    rw [Int32.toInt_sub, nI_toInt (by omega)]
    have e : (1 : Int32).toInt = 1 := by decide
    rw [e]
    refine Int.bmod_eq_of_le ?_ ?_ <;> omega
  rw [Int32.le_iff_toInt_le, Int32.le_iff_toInt_le, Int32.le_iff_toInt_le, Int32.lt_iff_toInt_lt, hs, e1, nI_toInt (by omega), nI_toInt (by omega), nI_toInt (by omega)]
  omega
def pl_fgv (f : Nat → Int32) (L a b p : Nat) : Bool := decide (p < L ∧ nI (48 + a) ≤ f p ∧ f p < nI (48 + b))
def pl_fn (f : Nat → Int32) (p : Nat) : Nat := (f p).toNatClampNeg - 48
theorem pl_fgv_n {f : Nat → Int32} {L a b p : Nat} (h : pl_fgv f L a b p = true) (ha : a ≤ 10) (hb : b ≤ 10) : p < L ∧ f p = nI (48 + pl_fn f p) ∧ a ≤ pl_fn f p ∧ pl_fn f p < b ∧ f p - 48 = nI (pl_fn f p) := by
  obtain ⟨h1, h2, h3⟩ := of_decide_eq_true h
  rcases pk_ix (f p) (n := 48 + b) (by omega) with hx | hx | ⟨j, hj, he⟩
  · have h0 : (0 : Int32) ≤ nI (48 + a) := nI_pos' (by omega)
    exact absurd (Int32.le_trans h0 h2) (Int32.not_le.mpr hx)
  · exact absurd h3 (Int32.not_lt.mpr hx)
  · have hk : pl_fn f p = j - 48 := by unfold pl_fn; rw [he, nI_clamp (by omega)]
    rw [he, nI_leI (by omega) (by omega)] at h2
    have e48 : (48 : Int32) = nI 48 := rfl
    refine ⟨h1, by rw [hk, he, show 48 + (j - 48) = j by omega], by omega, by omega, ?_⟩
    rw [he, e48, pl_sub (by omega), hk]
def pl_fg (f : Nat → Int32) (L a b : Nat) (s : Nat × Nat) : Nat × (Nat × Nat) := if s.2 = 0 then (if pl_fgv f L a b s.1 = true then (pl_fn f s.1, (s.1 + 1, 0)) else (0, (s.1, s.1 + 1))) else (0, s)
def pl_sgn (f : Nat → Int32) (L : Nat) (c : Int32) (s : Nat × Nat) : Nat × Nat := if s.2 = 0 then (if s.1 < L ∧ f s.1 = c then (s.1 + 1, 0) else (s.1, s.1 + 1)) else s
def pl_yrp (f : Nat → Int32) (L : Nat) (s : Nat × Nat) : Nat × (Nat × Nat) := if (pl_fg f L 0 10 s).2.2 = 0 ∧ pl_fgv f L 0 10 (pl_fg f L 0 10 s).2.1 = true then (10 * (pl_fg f L 0 10 s).1 + (pl_fg f L 0 10 (pl_fg f L 0 10 s).2).1, (pl_fg f L 0 10 (pl_fg f L 0 10 s).2).2) else pl_fg f L 0 10 s
/-- a place and a fault within the text -/
def pl_so2 (L : Nat) (s : Nat × Nat) : Prop := s.1 ≤ L ∧ s.2 ≤ L + 1
theorem pl_fg_ok {f : Nat → Int32} {L a b : Nat} {s : Nat × Nat} (h : pl_so2 L s) (ha : a ≤ 10) (hb : b ≤ 10) : pl_so2 L (pl_fg f L a b s).2 ∧ (pl_fg f L a b s).1 ≤ 9 := by
  obtain ⟨h1, h2⟩ := h
  unfold pl_fg pl_so2
  by_cases he : s.2 = 0
  · rw [if_pos he]
    by_cases hv : pl_fgv f L a b s.1 = true
    · obtain ⟨v1, v2, v3, v4, v5⟩ := pl_fgv_n hv ha hb
      rw [if_pos hv]
      exact ⟨⟨v1, Nat.zero_le _⟩, by show pl_fn f s.1 ≤ 9; omega⟩
    · rw [if_neg hv]
      exact ⟨⟨h1, by show s.1 + 1 ≤ L + 1; omega⟩, Nat.zero_le _⟩
  · rw [if_neg he]
    exact ⟨⟨h1, h2⟩, Nat.zero_le _⟩
theorem pl_sgn_ok {f : Nat → Int32} {L : Nat} {c : Int32} {s : Nat × Nat} (h : pl_so2 L s) : pl_so2 L (pl_sgn f L c s) := by
  obtain ⟨h1, h2⟩ := h
  unfold pl_sgn
  by_cases he : s.2 = 0
  · rw [if_pos he]
    by_cases hv : s.1 < L ∧ f s.1 = c
    · rw [if_pos hv]; exact ⟨hv.1, Nat.zero_le _⟩
    · rw [if_neg hv]; exact ⟨h1, by show s.1 + 1 ≤ L + 1; omega⟩
  · rw [if_neg he]; exact ⟨h1, h2⟩
theorem pl_yrp_ok {f : Nat → Int32} {L : Nat} {s : Nat × Nat} (h : pl_so2 L s) : pl_so2 L (pl_yrp f L s).2 ∧ (pl_yrp f L s).1 ≤ 99 := by
  have h1 := pl_fg_ok (f := f) (a := 0) (b := 10) h (by decide) (by decide)
  have h2 := pl_fg_ok (f := f) (a := 0) (b := 10) h1.1 (by decide) (by decide)
  unfold pl_yrp
  split
  · exact ⟨h2.1, by show 10 * _ + _ ≤ 99; omega⟩
  · exact ⟨h1.1, by omega⟩
def pl_e4 (e : Nat) : Int32 := if e = 0 then -9 else nI (e - 1)
theorem pl_e4_n {e : Nat} (h : e ≤ 200) : (pl_e4 e = -9) = (e = 0) := by
  unfold pl_e4
  by_cases h0 : e = 0
  · rw [if_pos h0]; exact propext ⟨fun _ => h0, fun _ => rfl⟩
  · rw [if_neg h0, pl_n9 (by omega)]
    exact propext ⟨fun z => z.elim, fun z => h0 z⟩
def pl_bs (g : Nat → Int32) (s : Nat × Nat) : Nat → Int32 := pl_up (pl_up g 4 (pl_e4 s.2)) 7 (nI s.1)
theorem pl_bs_4 (g : Nat → Int32) (s : Nat × Nat) : pl_bs g s 4 = pl_e4 s.2 := by unfold pl_bs; rw [pl_up_n _ _ (by decide), pl_up_k]
theorem pl_bs_7 (g : Nat → Int32) (s : Nat × Nat) : pl_bs g s 7 = nI s.1 := by unfold pl_bs; rw [pl_up_k]
theorem pl_bs_o (g : Nat → Int32) (s : Nat × Nat) {j : Nat} (h : j ≠ 4 ∧ j ≠ 7) : pl_bs g s j = g j := by unfold pl_bs; rw [pl_up_n _ _ h.2, pl_up_n _ _ h.1]
theorem pl_bs_w4 (g : Nat → Int32) (p q : Nat) : pl_up (pl_bs g (p, 0)) 4 (nI q) = pl_bs g (p, q + 1) := by
  funext j
  unfold pl_bs pl_up pl_e4
  by_cases h4 : j = 4
  · rw [if_pos h4, if_neg (by omega), if_pos h4, if_neg (by omega), Nat.add_sub_cancel]
  · rw [if_neg h4, if_neg h4, if_neg h4]
theorem pl_bs_w7 (g : Nat → Int32) (p q e : Nat) : pl_up (pl_bs g (p, e)) 7 (nI q) = pl_bs g (q, e) := by
  funext j
  unfold pl_bs pl_up
  by_cases h7 : j = 7
  · rw [if_pos h7, if_pos h7]
  · rw [if_neg h7, if_neg h7, if_neg h7]
/-- the class's Book at b over text f -/
def pl_bz (Z : ml_M) (b : Nat) (f : Nat → Int32) (L : Nat) : Prop := ml_K Z b = (1, 0) ∧ ml_R Z b 6 ≠ b ∧ ml_K Z (ml_R Z b 6) = (21, L) ∧ (∀ j, j < L → ml_I Z (ml_R Z b 6) j = f j) ∧ L ≤ 120 ∧ ∀ j, j < L → pl_by (f j)
theorem pl_figC {Z : ml_M} {b L : Nat} {f : Nat → Int32} (h : pl_bz Z b f L) {a c : Nat} (ha : a ≤ 10) (hc : c ≤ 10) (g : Nat → Int32) {s : Nat × Nat} (hs : pl_so2 L s) : fX1_readFigure b (nI a) (nI c - 1) (pl_wI Z b (pl_bs g s)) = some (nI (pl_fg f L a c s).1, pl_wI Z b (pl_bs g (pl_fg f L a c s).2)) := by
  obtain ⟨k1, k2, k3, k4, k5, k6⟩ := h
  obtain ⟨s1, s2⟩ := hs
  obtain ⟨p, e⟩ := s
  have s1 : p ≤ L := s1
  have s2 : e ≤ L + 1 := s2
  have iB : ∀ g, ml_I (pl_wI Z b g) b = g := fun g => by rw [pl_I_wI, if_pos rfl]
  have iX : ∀ g, ml_I (pl_wI Z b g) (ml_R Z b 6) = ml_I Z (ml_R Z b 6) := fun g => by rw [pl_I_wI, if_neg k2]
  have he4 := pl_e4_n (e := e) (by omega)
  have e48 : (48 : Int32) = nI 48 := rfl
  unfold pl_fg
  by_cases h0 : e = 0
  · subst h0
    rw [if_pos rfl]
    have b4 : pl_bs g (p, 0) 4 = -9 := by rw [pl_bs_4]; rfl
    by_cases hp : p < L
    · have hby := k6 p hp
      have hw := pl_byW hby ha hc
      by_cases hv : pl_fgv f L a c p = true
      · obtain ⟨v1, v2, v3, v4, v5⟩ := pl_fgv_n hv ha hc
        have hyes := hw.mpr (of_decide_eq_true hv).2
        rw [if_pos hv]
        rw [v5] at hyes
        simp (disch := omega) only [fX1_readFigure, pl_K_wI, k1, if_true, iB, b4, pl_R_wI, k3, pl_ofN, pl_bs_7, nI_leI, show ¬ L ≤ p by omega, if_false, ↓pl_let, pl_b1, pl_b2, ↓reduceIte, pl_in, nI_clamp, hp, and_self, iX, k4 p hp, v5, pl_within, hyes, pl_10, nI_1, pl_wI_sI, pl_up_0, pl_bs_w7]
      · have hno : ¬ (nI a ≤ f p - 48 ∧ f p - 48 ≤ nI c - 1) := fun z => hv (decide_eq_true ⟨hp, hw.mp z⟩)
        rw [if_neg hv]
        simp (disch := omega) only [fX1_readFigure, fX1_readFigure_43, pl_K_wI, k1, if_true, iB, b4, pl_R_wI, k3, pl_ofN, pl_bs_7, nI_leI, show ¬ L ≤ p by omega, if_false, ↓pl_let, pl_b1, pl_b2, ↓reduceIte, pl_in, nI_clamp, hp, and_self, iX, k4 p hp, pl_within, hno, pl_wI_sI, pl_up_0, pl_bs_w4]
        rfl
    · have hv : ¬ pl_fgv f L a c p = true := fun z => hp (of_decide_eq_true z).1
      rw [if_neg hv]
      simp (disch := omega) only [fX1_readFigure, fX1_readFigure_43, pl_K_wI, k1, if_true, iB, b4, pl_R_wI, k3, pl_ofN, pl_bs_7, nI_leI, show L ≤ p by omega, ↓pl_let, pl_b1, pl_b2, ↓reduceIte, pl_wI_sI, pl_up_0, pl_bs_w4]
      rfl
  · rw [if_neg h0]
    have b4 : ¬ pl_bs g (p, e) 4 = -9 := by rw [pl_bs_4, he4]; exact h0
    simp (disch := omega) only [fX1_readFigure, pl_K_wI, k1, if_true, iB, b4, if_false]
    rfl
theorem pl_sgnC {Z : ml_M} {b L : Nat} {f : Nat → Int32} (h : pl_bz Z b f L) (c : Int32) (g : Nat → Int32) {s : Nat × Nat} (hs : pl_so2 L s) : fX1_readSign b c (pl_wI Z b (pl_bs g s)) = some (pl_wI Z b (pl_bs g (pl_sgn f L c s))) := by
  obtain ⟨k1, k2, k3, k4, k5, k6⟩ := h
  obtain ⟨s1, s2⟩ := hs
  obtain ⟨p, e⟩ := s
  have s1 : p ≤ L := s1
  have s2 : e ≤ L + 1 := s2
  have iB : ∀ g, ml_I (pl_wI Z b g) b = g := fun g => by rw [pl_I_wI, if_pos rfl]
  have iX : ∀ g, ml_I (pl_wI Z b g) (ml_R Z b 6) = ml_I Z (ml_R Z b 6) := fun g => by rw [pl_I_wI, if_neg k2]
  have he4 := pl_e4_n (e := e) (by omega)
  unfold pl_sgn
  by_cases h0 : e = 0
  · subst h0
    rw [if_pos rfl]
    have b4 : pl_bs g (p, 0) 4 = -9 := by rw [pl_bs_4]; rfl
    by_cases hp : p < L
    · by_cases hv : f p = c
      · rw [if_pos ⟨hp, hv⟩]
        simp (disch := omega) only [fX1_readSign, pl_K_wI, k1, if_true, iB, b4, pl_R_wI, k3, pl_ofN, pl_bs_7, nI_leI, show ¬ L ≤ p by omega, if_false, ↓pl_let, pl_b1, pl_b2, ↓reduceIte, pl_in, nI_clamp, hp, and_self, iX, k4 p hp, hv, nI_1, pl_wI_sI, pl_up_0, pl_bs_w7]
      · rw [if_neg (fun z => hv z.2)]
        simp (disch := omega) only [fX1_readSign, fX1_readSign_48, pl_K_wI, k1, if_true, iB, b4, pl_R_wI, k3, pl_ofN, pl_bs_7, nI_leI, show ¬ L ≤ p by omega, if_false, ↓pl_let, pl_b1, pl_b2, ↓reduceIte, pl_in, nI_clamp, hp, and_self, iX, k4 p hp, hv, pl_wI_sI, pl_up_0, pl_bs_w4]
    · rw [if_neg (fun z => hp z.1)]
      simp (disch := omega) only [fX1_readSign, fX1_readSign_48, pl_K_wI, k1, if_true, iB, b4, pl_R_wI, k3, pl_ofN, pl_bs_7, nI_leI, show L ≤ p by omega, ↓pl_let, pl_b1, pl_b2, ↓reduceIte, pl_wI_sI, pl_up_0, pl_bs_w4]
  · rw [if_neg h0]
    have b4 : ¬ pl_bs g (p, e) 4 = -9 := by rw [pl_bs_4, he4]; exact h0
    simp (disch := omega) only [fX1_readSign, pl_K_wI, k1, if_true, iB, b4, if_false]
theorem pl_yrC {Z : ml_M} {b L : Nat} {f : Nat → Int32} (h : pl_bz Z b f L) (g : Nat → Int32) {s : Nat × Nat} (hs : pl_so2 L s) : fX1_readYear b (pl_wI Z b (pl_bs g s)) = some (nI (pl_yrp f L s).1, pl_wI Z b (pl_bs g (pl_yrp f L s).2)) := by
  have h1 := pl_figC h (a := 0) (c := 10) (by decide) (by decide) g hs
  obtain ⟨o1, o2⟩ := pl_fg_ok (f := f) (a := 0) (b := 10) hs (by decide) (by decide)
  have h2 := pl_figC h (a := 0) (c := 10) (by decide) (by decide) g o1
  obtain ⟨o3, o4⟩ := pl_fg_ok (f := f) (a := 0) (b := 10) o1 (by decide) (by decide)
  have e9 : nI 10 - 1 = (9 : Int32) := by decide
  have e0 : nI 0 = (0 : Int32) := rfl
  rw [e9, e0] at h1 h2
  obtain ⟨k1, k2, k3, k4, k5, k6⟩ := h
  have iB : ∀ g, ml_I (pl_wI Z b g) b = g := fun g => by rw [pl_I_wI, if_pos rfl]
  have iX : ∀ g, ml_I (pl_wI Z b g) (ml_R Z b 6) = ml_I Z (ml_R Z b 6) := fun g => by rw [pl_I_wI, if_neg k2]
  unfold pl_yrp
  obtain ⟨v, s', hr⟩ : ∃ v s', pl_fg f L 0 10 s = (v, s') := ⟨_, _, rfl⟩
  rw [hr] at h1 h2 o1 o2 o3 o4 ⊢
  obtain ⟨p, e⟩ := s'
  have o11 : p ≤ L := o1.1
  have o12 : e ≤ L + 1 := o1.2
  have o2 : v ≤ 9 := o2
  have he4 := pl_e4_n (e := e) (by omega)
  have e48 : (48 : Int32) = nI 48 := rfl
  have e57 : (57 : Int32) = nI 57 := rfl
  have e10 : (10 : Int32) = nI 10 := rfl
  show fX1_readYear b (pl_wI Z b (pl_bs g s)) = _
  by_cases h0 : e = 0
  · subst h0
    have b4 : pl_bs g (p, 0) 4 = -9 := by rw [pl_bs_4]; rfl
    by_cases hv : pl_fgv f L 0 10 p = true
    · rw [if_pos ⟨rfl, hv⟩]
      obtain ⟨v1, v2, v3, v4, v5⟩ := pl_fgv_n hv (by decide) (by decide)
      have hin : (nI 48 ≤ f p ∧ f p ≤ nI 57) = True := by
        rw [v2, nI_leI (by omega) (by omega), nI_leI (by omega) (by omega)]
        exact eq_true ⟨by omega, by omega⟩
      simp (disch := omega) only [fX1_readYear, fX1_readYear_53, pl_K_wI, k1, if_true, h1, ↓pl_let, pl_b1, pl_b2, ↓reduceIte, iB, b4, pl_R_wI, k3, pl_ofN, pl_bs_7, nI_leI, show ¬ L ≤ p by omega, if_false, pl_in, nI_clamp, v1, and_self, iX, k4 p v1, pl_within, e48, e57, hin, pl_10, h2]
      rw [e10, pk_mul, nI_add]
    · rw [if_neg (fun z => hv z.2)]
      by_cases hp : p < L
      · have hin : ¬ (nI 48 ≤ f p ∧ f p ≤ nI 57) := fun z => hv (decide_eq_true ⟨hp, z.1, by
          rcases pk_ix (f p) (n := 58) (by omega) with hx | hx | ⟨j, hj, he⟩
          · exact Int32.lt_of_lt_of_le hx (nI_pos' (by omega))
          · exact absurd (Int32.le_trans hx z.2) (by decide)
          · rw [he]; exact nI_lt hj (by omega)⟩)
        simp (disch := omega) only [fX1_readYear, fX1_readYear_52, fX1_readYear_53, pl_K_wI, k1, if_true, h1, ↓pl_let, pl_b1, pl_b2, ↓reduceIte, iB, b4, pl_R_wI, k3, pl_ofN, pl_bs_7, nI_leI, show ¬ L ≤ p by omega, if_false, pl_in, nI_clamp, hp, and_self, iX, k4 p hp, pl_within, e48, e57, hin]
      · simp (disch := omega) only [fX1_readYear, fX1_readYear_52, fX1_readYear_53, pl_K_wI, k1, if_true, h1, ↓pl_let, pl_b1, pl_b2, ↓reduceIte, iB, b4, pl_R_wI, k3, pl_ofN, pl_bs_7, nI_leI, show L ≤ p by omega]
  · rw [if_neg (fun z => h0 z.1)]
    have b4 : ¬ pl_bs g (p, e) 4 = -9 := by rw [pl_bs_4, he4]; exact h0
    simp (disch := omega) only [fX1_readYear, fX1_readYear_52, fX1_readYear_53, pl_K_wI, k1, if_true, h1, ↓pl_let, pl_b1, pl_b2, ↓reduceIte, iB, b4, if_false]

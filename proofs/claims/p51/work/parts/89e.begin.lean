/-! THE LAW'S BEGINNING: the house by numbers, and told to both objects, to the second one back to front. -/
theorem pw_key_d (x : Nat) : pw_key x ≤ 2255 ∧ (1 ≤ pw_key x / 1000 % 10 ∧ pw_key x / 1000 % 10 < 6) ∧ (1 ≤ pw_key x / 100 % 10 ∧ pw_key x / 100 % 10 < 6) ∧ (1 ≤ pw_key x / 10 % 10 ∧ pw_key x / 10 % 10 < 6) ∧ (1 ≤ pw_key x % 10 ∧ pw_key x % 10 < 6) := by
  unfold pw_key
  have h1 : x % 5 < 5 := Nat.mod_lt _ (by decide)
  have h2 : x / 5 % 5 < 5 := Nat.mod_lt _ (by decide)
  have h3 : x / 25 % 2 < 2 := Nat.mod_lt _ (by decide)
  have h4 : x / 50 % 2 < 2 := Nat.mod_lt _ (by decide)
  generalize x % 5 = a at *
  generalize x / 5 % 5 = b at *
  generalize x / 25 % 2 = c at *
  generalize x / 50 % 2 = d at *
  omega
theorem pw_okN {L : Nat} (xs : Nat → Int32) {nl nt np : Nat} (hnl : nl ≤ 5) (hnt : 2 ≤ nt ∧ nt ≤ 4) (hnp : np ≤ 2) : pw_ok nl nt np (pw_l (pw_c L xs)) (pw_k (pw_c L xs)) (pw_u (pw_c L xs) nt) := by
  refine ⟨⟨hnl, hnt.2, hnp⟩, fun i hi => ⟨?_, ?_, fun j h2 h5 => ?_⟩, fun t ht => ?_, fun p hp => ⟨?_, ?_, ?_⟩⟩
  · show pw_c L xs (10 + 5 * i) % 30 ≤ pw_c L xs (10 + 5 * i) % 30 + _
    omega
  · show pw_c L xs (10 + 5 * i) % 30 + pw_c L xs (10 + 5 * i + 1) % 30 < 100
    omega
  · have : j = 2 ∨ j = 3 ∨ j = 4 := by omega
    rcases this with rfl | rfl | rfl
    · show 1 ≤ 1 + pw_c L xs (10 + 5 * i + 2) % 5 ∧ 1 + pw_c L xs (10 + 5 * i + 2) % 5 < 10
      omega
    · show 1 ≤ 1 + pw_c L xs (10 + 5 * i + 3) % 3 ∧ 1 + pw_c L xs (10 + 5 * i + 3) % 3 < 10
      omega
    · show 1 ≤ 1 + pw_c L xs (10 + 5 * i + 4) % 3 ∧ 1 + pw_c L xs (10 + 5 * i + 4) % 3 < 10
      omega
  · show pw_key (pw_c L xs (50 + t)) < 10000 ∧ pw_c L xs (50 + t) / 100 % 10 < 10 ∧ (1 ≤ pw_key (pw_c L xs (50 + t)) / 1000 % 10 ∧ pw_key (pw_c L xs (50 + t)) / 1000 % 10 < 6) ∧ (1 ≤ pw_key (pw_c L xs (50 + t)) / 100 % 10 ∧ pw_key (pw_c L xs (50 + t)) / 100 % 10 < 6) ∧ (1 ≤ pw_key (pw_c L xs (50 + t)) / 10 % 10 ∧ pw_key (pw_c L xs (50 + t)) / 10 % 10 < 6) ∧ (1 ≤ pw_key (pw_c L xs (50 + t)) % 10 ∧ pw_key (pw_c L xs (50 + t)) % 10 < 6)
    obtain ⟨k1, k2, k3, k4, k5⟩ := pw_key_d (pw_c L xs (50 + t))
    omega
  · show pw_c L xs (60 + p) % nt < nt
    exact Nat.mod_lt _ (by omega)
  · show (pw_c L xs (60 + p) % nt + 1 + pw_c L xs (60 + p) / 8 % (nt - 1)) % nt < nt
    exact Nat.mod_lt _ (by omega)
  · show pw_c L xs (60 + p) % nt ≠ (pw_c L xs (60 + p) % nt + 1 + pw_c L xs (60 + p) / 8 % (nt - 1)) % nt
    have h1 : pw_c L xs (60 + p) % nt < nt := Nat.mod_lt _ (by omega)
    have h2 : pw_c L xs (60 + p) / 8 % (nt - 1) < nt - 1 := Nat.mod_lt _ (by omega)
    generalize pw_c L xs (60 + p) % nt = u at *
    generalize pw_c L xs (60 + p) / 8 % (nt - 1) = w at *
    have h3 : nt = 2 ∨ nt = 3 ∨ nt = 4 := by omega
    rcases h3 with rfl | rfl | rfl <;> omega
/-- the lodgers back to front -/
def pw_rev (nl : Nat) (f : Nat → Nat → Nat) : Nat → Nat → Nat := fun i j => f (nl - 1 - i) j
theorem pw_okR {nl nt np : Nat} {lf kf uf : Nat → Nat → Nat} (h : pw_ok nl nt np lf kf uf) : pw_ok nl nt np (pw_rev nl lf) kf uf := ⟨h.1, fun i hi => h.2.1 (nl - 1 - i) (by omega), h.2.2.1, h.2.2.2⟩
/-- the two objects, the same but that lodgers are told back to front -/
def pm_R (A B : pl_A) (nl nt np n : Nat) : Prop :=
  ((pl_N A 0 0 0 = nl ∧ pl_N B 0 0 0 = nl) ∧ (pl_N A 0 1 0 = nt ∧ pl_N B 0 1 0 = nt) ∧ (pl_N A 0 2 0 = np ∧ pl_N B 0 2 0 = np) ∧ (pl_N A 0 3 0 = n ∧ pl_N B 0 3 0 = n) ∧ (pl_N A 0 7 0 = 1 ∧ pl_N B 0 7 0 = 1) ∧ (pl_N A 0 5 0 = 0 ∧ pl_N B 0 5 0 = 0)) ∧
  (∀ l k, l < nl → k < 5 → pl_N B 1 l k = pl_N A 1 (nl - 1 - l) k) ∧ (∀ t k, t < nt → k < 2 → pl_N B 2 t k = pl_N A 2 t k) ∧ (∀ p k, p < np → k < 2 → pl_N B 3 p k = pl_N A 3 p k) ∧ (∀ i k, k < 6 → pl_N B 4 i k = pl_N A 4 i k) ∧ ∀ i, i < n → pl_N A 4 i 0 = 3 → pl_N A 4 i 6 < nl ∧ pl_N B 4 i 6 = nl - 1 - pl_N A 4 i 6
theorem pm_F {A B : pl_A} {nl nt np : Nat} {lf kf uf : Nat → Nat → Nat} (hA : pw_F A nl nt np lf kf uf) (hB : pw_F B nl nt np (pw_rev nl lf) kf uf) : pm_R A B nl nt np 0 := by
  obtain ⟨⟨⟨a1, a2, a3⟩, a4, a5, a6⟩, ⟨a7, a8, a9⟩, a10⟩ := hA
  obtain ⟨⟨⟨b1, b2, b3⟩, b4, b5, b6⟩, ⟨b7, b8, b9⟩, b10⟩ := hB
  refine ⟨⟨⟨a1, b1⟩, ⟨a2, b2⟩, ⟨a3, b3⟩, ⟨a7, b7⟩, ⟨a9, b9⟩, ⟨a8, b8⟩⟩, fun l k hl hk => ?_, fun t k ht hk => ?_, fun p k hp hk => ?_, fun i k _ => (b10 4 i k (by decide) (by decide)).trans (a10 4 i k (by decide) (by decide)).symm, fun i hi => absurd hi (Nat.not_lt_zero i)⟩
  · rw [b4 l k hl hk, a4 _ k (by omega) hk]; rfl
  · rw [b5 t k ht hk, a5 t k ht hk]
  · rw [b6 p k hp hk, a6 p k hp hk]
/-- the law up to its things -/
theorem pw_law0 {L : Nat} (hL : L ≤ 1000) (xs : Nat → Int32) : ∃ nl nt np n A B r, (2 ≤ nl ∧ nl ≤ 5) ∧ (2 ≤ nt ∧ nt ≤ 4) ∧ np ≤ 2 ∧ n ≤ 7 ∧ fL_law L xs ml_E0 = fL_law_202 L xs ml_fu 1 33 69 (nI nl) (nI nt) (nI n) (nI 0) r ∧ ph_2 1 33 A B r ∧ pm_R A B nl nt np 0 ∧ (∀ q, pl_N A 8 q 0 = 0) ∧ ml_K r 69 = (20, 64) ∧ ml_n r ≤ 69 + 1000 * 198 ∧ ml_s r ≤ 52000 + 14000 * 198 := by
  obtain ⟨m2, i1, i2, i3, i4, i5, i6⟩ := pi_start
  obtain ⟨n1, s1⟩ := pi_2
  have nE : ml_n ml_E0 = 0 := by
    have h : ml_n ml_E0 = 0 := rfl
    exact h
  have c0 := pw_c_lt L xs (show 0 ≤ 1000 by decide)
  have c1 := pw_c_lt L xs (show 1 ≤ 1000 by decide)
  have c2 := pw_c_lt L xs (show 2 ≤ 1000 by decide)
  have c3 := pw_c_lt L xs (show 3 ≤ 1000 by decide)
  obtain ⟨nl, hnl⟩ : ∃ nl, nl = 2 + pw_c L xs 0 % 4 := ⟨_, rfl⟩
  obtain ⟨nt, hnt⟩ : ∃ nt, nt = 2 + pw_c L xs 1 % 3 := ⟨_, rfl⟩
  obtain ⟨np, hnp⟩ : ∃ np, np = pw_c L xs 2 % 3 := ⟨_, rfl⟩
  obtain ⟨x, hx⟩ : ∃ x, x = pw_c L xs 3 % 9 := ⟨_, rfl⟩
  obtain ⟨n, hn⟩ : ∃ n, n = if x ≤ 7 then x else 7 := ⟨_, rfl⟩
  have hn7 : n ≤ 7 := by rw [hn]; split <;> omega
  obtain ⟨m, hm⟩ : ∃ m, m = pi_rows m2 := ⟨_, rfl⟩
  have hrows : ml_al (ml_al (ml_al (ml_al (ml_al m2 20 64 64) 20 64 64) 20 16 16) 20 32 32) 20 64 64 = m := by rw [hm]; rfl
  rw [← hm] at i3 i4 i5 i6
  -- to the numbers
  have e1 : fL_law L xs ml_E0 = fL_law_100 L xs 1 33 65 66 67 68 69 (nI nl) (nI nt) (nI np) (nI n) m := by
    have a1 : fX10_init (ml_n ml_E0 + 1) (ml_al ml_E0 10 0 19) = some pi_m1 := by rw [nE]; exact pi_o1e
    have n2 : ml_n pi_m1 + 1 = 33 := by rw [n1]
    have n3 : ml_n m2 + 1 = 65 := by rw [i2]
    have t64 : (64 : Int32).toNatClampNeg = 64 := rfl
    have t16 : (16 : Int32).toNatClampNeg = 16 := rfl
    have t32 : (32 : Int32).toNatClampNeg = 32 := rfl
    have e0 : (0 : Int32) = nI 0 := rfl
    have cl : ∀ k Z, k ≤ 1000 → fL_cell L xs (nI k) Z = some (nI (pw_c L xs k)) := fun k Z hk => pw_cell hL xs hk Z
    have cl0 : ∀ Z, fL_cell L xs (0 : Int32) Z = some (nI (pw_c L xs 0)) := fun Z => cl 0 Z (by decide)
    have cl1 : ∀ Z, fL_cell L xs (1 : Int32) Z = some (nI (pw_c L xs 1)) := fun Z => cl 1 Z (by decide)
    have cl2 : ∀ Z, fL_cell L xs (2 : Int32) Z = some (nI (pw_c L xs 2)) := fun Z => cl 2 Z (by decide)
    have cl3 : ∀ Z, fL_cell L xs (3 : Int32) Z = some (nI (pw_c L xs 3)) := fun Z => cl 3 Z (by decide)
    unfold fL_law
    rw [pl_let, pl_let, a1, pl_b1, pl_let, pl_let, n2, i1, pl_b1, nE]
    simp only [pl_let, pl_n_al, i2, t64, t16, t32, hrows, cl0, cl1, cl2, cl3, pl_b1]
    have b0 : (2 : Int32) + (nI (pw_c L xs 0) - nI (pw_c L xs 0) / (4 : Int32) * (4 : Int32)) = nI nl := by
      rw [pl_l2, pl_l4, pk_rem (by omega) (by decide) (by decide), nI_add, hnl]
    have b1 : (2 : Int32) + (nI (pw_c L xs 1) - nI (pw_c L xs 1) / (3 : Int32) * (3 : Int32)) = nI nt := by
      rw [pl_l2, pl_l3, pk_rem (by omega) (by decide) (by decide), nI_add, hnt]
    have b2 : nI (pw_c L xs 2) - nI (pw_c L xs 2) / (3 : Int32) * (3 : Int32) = nI np := by
      rw [pl_l3, pk_rem (by omega) (by decide) (by decide), hnp]
    have b3 : nI (pw_c L xs 3) - nI (pw_c L xs 3) / (9 : Int32) * (9 : Int32) = nI x := by
      rw [pl_l9, pk_rem (by omega) (by decide) (by decide), hx]
    rw [b0, b1, b2, b3, hn]
    by_cases h7 : x ≤ 7
    · rw [if_pos h7, if_pos (by rw [pl_l7]; exact nI_le h7 (by decide))]
    · rw [if_neg h7, if_neg (by rw [pl_l7, nI_leI (by omega) (by decide)]; exact h7)]; rfl
  obtain ⟨k65, k66, k67, k68, k69⟩ := i4
  have hnum := pw_numbers hL xs (nl := nl) (nt := nt) (np := np) (by omega) (by omega) (by omega) m k65 k67 k68
  obtain ⟨m3, hm3⟩ : ∃ m3, m3 = pl_wI (pl_wI (pl_wI m 65 (pw_tab 5 (5 * nl) (pw_l (pw_c L xs)) (ml_I m 65))) 67 (pw_tab 2 (2 * nt) (pw_k (pw_c L xs)) (ml_I m 67))) 68 (pw_tab 2 (2 * np) (pw_u (pw_c L xs) nt) (ml_I m 68)) := ⟨_, rfl⟩
  rw [← hm3] at hnum
  have hwI : ∀ {a b : Nat} {A B : pl_A} {Z : ml_M} {q : Nat} {g : Nat → Int32}, ph_2 a b A B Z → 65 ≤ q ∧ q ≤ 69 → ph_2 a b A B (pl_wI Z q g) := fun {a b A B Z q g} h hq => by
    obtain ⟨h1, h2, f, g', v, w, h3, h4, h5, h6, h7, h8, h9, h10, h11⟩ := h
    have key : ∀ {f : Nat → Nat} {v : ml_M}, ph_R f v Z → ph_N f → ph_R f v (pl_wI Z q g) := fun {f v} hf hN => by
      obtain ⟨p1, p2, p3, p4⟩ := hf
      refine ⟨p1, p2, p3, fun y hy => ?_⟩
      obtain ⟨e1, e2⟩ := p4 y hy
      refine ⟨e1, fun hk => ?_⟩
      obtain ⟨e3, e4, e5⟩ := e2 hk
      refine ⟨?_, e4, e5⟩
      rw [← e3]
      have := hN y
      rw [pl_I_wI, if_neg (by omega)]
    exact ⟨h1, h2, f, g', v, w, h3, h4, h5, h6, key h7 h10, key h8 h11, h9, h10, h11⟩
  have p3 : ph_2 1 33 pl_A0 pl_A0 m3 := by rw [hm3]; exact hwI (hwI (hwI i3 (by decide)) (by decide)) (by decide)
  have K3 : ml_K m3 = ml_K m := by rw [hm3, pl_K_wI, pl_K_wI, pl_K_wI]
  have n3 : ml_n m3 = ml_n m := by rw [hm3, pl_n_wI, pl_n_wI, pl_n_wI]
  have s3 : ml_s m3 = ml_s m := by rw [hm3, pl_s_wI, pl_s_wI, pl_s_wI]
  have I65 : ml_I m3 65 = pw_tab 5 (5 * nl) (pw_l (pw_c L xs)) (ml_I m 65) := by rw [hm3, pl_I_wI, if_neg (by decide), pl_I_wI, if_neg (by decide), pl_I_wI, if_pos rfl]
  have I67 : ml_I m3 67 = pw_tab 2 (2 * nt) (pw_k (pw_c L xs)) (ml_I m 67) := by rw [hm3, pl_I_wI, if_neg (by decide), pl_I_wI, if_pos rfl]
  have I68 : ml_I m3 68 = pw_tab 2 (2 * np) (pw_u (pw_c L xs) nt) (ml_I m 68) := by rw [hm3, pl_I_wI, if_pos rfl]
  -- lodgers back to front
  obtain ⟨m4, hm4⟩ : ∃ m4, m4 = pl_wI m3 66 (pw_tab 5 (5 * nl) (pw_rev nl (pw_l (pw_c L xs))) (ml_I m3 66)) := ⟨_, rfl⟩
  have K366 : ml_K m3 66 = (20, 64) := by rw [K3]; exact k66
  have K365 : ml_K m3 65 = (20, 64) := by rw [K3]; exact k65
  have e2 : fL_law_122 L xs ml_fu 1 33 65 66 67 68 69 (nI nl) (nI nt) (nI np) (nI n) 0 m3 = fL_law_160 L xs 1 33 65 66 67 68 69 (nI nl) (nI nt) (nI np) (nI n) m4 := by
    have hh := pl_for (F := fun fu i (_ : Unit) => fL_law_122 L xs fu 1 33 65 66 67 68 69 (nI nl) (nI nt) (nI np) (nI n) (nI i) (pl_wI m3 66 (pw_tab 5 i (pw_rev nl (pw_l (pw_c L xs))) (ml_I m3 66)))) (R := fL_law_160 L xs 1 33 65 66 67 68 69 (nI nl) (nI nt) (nI np) (nI n) m4) (5 * nl) (fun _ => ()) (fun fu i hi => ?_) (fun fu => ?_) ml_fu (by rw [pl_fu]; omega)
    · rw [← hh]
      show fL_law_122 L xs ml_fu 1 33 65 66 67 68 69 (nI nl) (nI nt) (nI np) (nI n) 0 m3 = fL_law_122 L xs ml_fu 1 33 65 66 67 68 69 (nI nl) (nI nt) (nI np) (nI n) (nI 0) (pl_wI m3 66 (pw_tab 5 0 _ (ml_I m3 66)))
      rw [pw_tab0, pl_wI_0]; rfl
    · have q5 : i / 5 < nl := by omega
      have e5 : nI nl - nI 1 - nI (i / 5) = nI (nl - 1 - i / 5) := by rw [pl_sub (by omega), pl_sub (by omega)]
      have r5 : ml_I m3 65 (5 * (nl - 1 - i / 5) + i % 5) = nI (pw_rev nl (pw_l (pw_c L xs)) (i / 5) (i % 5)) := by
        rw [I65]; exact pw_tabv (w := 5) _ _ (Nat.mod_lt _ (by decide)) (by omega)
      have st := pw_st m3 66 5 i (pw_rev nl (pw_l (pw_c L xs))) (ml_I m3 66) (k := i) (v := nI (pw_rev nl (pw_l (pw_c L xs)) (i / 5) (i % 5))) rfl rfl
      have i65 : ∀ g, ml_I (pl_wI m3 66 g) 65 = ml_I m3 65 := fun g => by rw [pl_I_wI, if_neg (by decide)]
      simp (disch := omega) only [fL_law_122, ↓pl_let, pl_b1, pl_b2, ↓reduceIte, pl_l1, pl_l2, pl_l3, pl_l4, pl_l5, pl_l6, pl_l7, pl_l8, pl_l9, pl_l10, pl_l11, pl_l12, pl_l13, pl_l14, pl_l15, pl_l16, pl_l17, pl_l18, pl_l19, pl_l20, pl_l21, pl_l22, pl_l23, pl_l24, pl_l25, pl_l26, pl_l27, pl_l28, pl_l29, pl_l30, pl_l31, pl_l32, pl_l33, pl_l34, pl_l35, pl_l36, pl_l37, pl_l38, pl_l39, pl_l40, pl_l41, pl_l42, pl_l43, pl_l44, pl_l45, pl_l46, pl_l47, pl_l48, pl_l49, pl_l50, pl_l51, pl_l52, pl_l53, pl_l54, pl_l55, pl_l56, pl_l57, pl_l58, pl_l59, pl_l60, pl_l61, pl_l62, pl_l63, pl_l64, pl_l99, pl_l100, pl_l119, pl_l120, pl_l255, pl_l256, pl_l999, pl_l1000, pl_l1023, pl_l1024, pl_l1111, pl_l5555, pl_l10240, pk_mul, nI_leI, show ¬ 5 * nl ≤ i by omega, if_false, pk_div, pl_rem3, e5, nI_add, pl_in, pl_K_wI, K365, K366, nI_clamp, show 5 * (nl - 1 - i / 5) + i % 5 < 64 by omega, show i < 64 by omega, and_self, if_true, i65, r5, st]
    · rw [hm4]
      simp (disch := omega) only [fL_law_122, pl_l1, pl_l2, pl_l3, pl_l4, pl_l5, pl_l6, pl_l7, pl_l8, pl_l9, pl_l10, pl_l11, pl_l12, pl_l13, pl_l14, pl_l15, pl_l16, pl_l17, pl_l18, pl_l19, pl_l20, pl_l21, pl_l22, pl_l23, pl_l24, pl_l25, pl_l26, pl_l27, pl_l28, pl_l29, pl_l30, pl_l31, pl_l32, pl_l33, pl_l34, pl_l35, pl_l36, pl_l37, pl_l38, pl_l39, pl_l40, pl_l41, pl_l42, pl_l43, pl_l44, pl_l45, pl_l46, pl_l47, pl_l48, pl_l49, pl_l50, pl_l51, pl_l52, pl_l53, pl_l54, pl_l55, pl_l56, pl_l57, pl_l58, pl_l59, pl_l60, pl_l61, pl_l62, pl_l63, pl_l64, pl_l99, pl_l100, pl_l119, pl_l120, pl_l255, pl_l256, pl_l999, pl_l1000, pl_l1023, pl_l1024, pl_l1111, pl_l5555, pl_l10240, pk_mul, nI_leI, Nat.le_refl, if_true]
  have p4 : ph_2 1 33 pl_A0 pl_A0 m4 := by rw [hm4]; exact hwI p3 (by decide)
  have K4 : ml_K m4 = ml_K m := by rw [hm4, pl_K_wI, K3]
  have I4 : ∀ q, q ≠ 66 → ml_I m4 q = ml_I m3 q := fun q hq => by rw [hm4, pl_I_wI, if_neg hq]
  have hok := pw_okN (L := L) xs (nl := nl) (nt := nt) (np := np) (by omega) (by omega) (by omega)
  have h65 : pw_h m4 65 5 nl 64 (pw_l (pw_c L xs)) := ⟨by rw [K4]; exact k65, fun i j hi hj => by rw [I4 65 (by decide), I65]; exact pw_tabv _ _ hj (by omega)⟩
  have h66 : pw_h m4 66 5 nl 64 (pw_rev nl (pw_l (pw_c L xs))) := ⟨by rw [K4]; exact k66, fun i j hi hj => by rw [hm4, pl_I_wI, if_pos rfl]; exact pw_tabv _ _ hj (by omega)⟩
  have h67 : pw_h m4 67 2 nt 16 (pw_k (pw_c L xs)) := ⟨by rw [K4]; exact k67, fun i j hi hj => by rw [I4 67 (by decide), I67]; exact pw_tabv _ _ hj (by omega)⟩
  have h68 : pw_h m4 68 2 np 32 (pw_u (pw_c L xs) nt) := ⟨by rw [K4]; exact k68, fun i j hi hj => by rw [I4 68 (by decide), I68]; exact pw_tabv _ _ hj (by omega)⟩
  obtain ⟨A, r1, f1, f2, f3, f4⟩ := pw_book p4 (by decide) hok (q := 65) (by decide) h65 h67 h68
  obtain ⟨B, r2, g1, g2, g3, g4⟩ := pw_book f2.swap (by decide) (pw_okR hok) (q := 66) (by decide) (h66.c f4 (by decide)) (h67.c f4 (by decide)) (h68.c f4 (by decide))
  have g5 := g2.swap
  have hc := f4.trans g4
  refine ⟨nl, nt, np, n, A, B, r2, by omega, by omega, by omega, hn7, ?_, g5, pm_F f3 g3, fun q => f3.2.2 8 q 0 (by decide) (by decide), ?_, ?_, ?_⟩
  · rw [e1]
    unfold fL_law_100
    have e10 : (10 : Int32) = nI 10 := rfl
    rw [e10, hnum, pl_b1, e2]
    unfold fL_law_160
    rw [f1, pl_b2, if_neg (by decide), g1, pl_b2, if_neg (by decide)]; rfl
  · have := (hc.1 69 (by decide) (by decide)).1
    rw [this, K4]; exact k69
  · have := hc.2.1
    rw [hm4, pl_n_wI, n3] at this; omega
  · have := hc.2.2
    rw [hm4, pl_s_wI, s3] at this; omega

/-! READINGS: the pairs readings, lineOf. -/
theorem pl_wI_wI (m : ml_M) (a : Nat) (g h : Nat → Int32) : pl_wI (pl_wI m a g) a h = pl_wI m a h := by
  have : (fun b => if b = a then h else if b = a then g else ml_I m b) = fun b => if b = a then h else ml_I m b := by
    funext b
    by_cases hb : b = a
    · rw [if_pos hb, if_pos hb]
    · rw [if_neg hb, if_neg hb, if_neg hb]
  show (_, _, _, _, _, _) = (_, _, _, _, _, _)
  rw [show (fun b => if b = a then h else ml_I (pl_wI m a g) b) = _ from this]; rfl
theorem pl_wI_sw (m : ml_M) {a b : Nat} (g h : Nat → Int32) (hn : a ≠ b) : pl_wI (pl_wI m a g) b h = pl_wI (pl_wI m b h) a g := by
  have : (fun c => if c = b then h else if c = a then g else ml_I m c) = fun c => if c = a then g else if c = b then h else ml_I m c := by
    funext c
    by_cases h1 : c = b
    · by_cases h2 : c = a
      · omega
      · rw [if_pos h1, if_neg h2, if_pos h1]
    · rw [if_neg h1, if_neg h1]
  show (_, _, _, _, _, _) = (_, _, _, _, _, _)
  rw [show (fun c => if c = b then h else ml_I (pl_wI m a g) c) = _ from this]; rfl
def pl_fk (A : pl_A) (l t : Nat) : Nat → Int32 := fun x => if x < l then nI (pl_set (pl_lf A x) (pl_N A 0 1 0)) else if x = l then nI (pl_set (pl_lf A l) t) else 0
theorem pl_fk_n (A : pl_A) (l : Nat) : pl_fk A l (pl_N A 0 1 0) = pl_fk A (l + 1) 0 := by
  funext x
  unfold pl_fk
  by_cases h : x < l
  · rw [if_pos h, if_pos (show x < l + 1 by omega)]
  · by_cases h2 : x = l
    · rw [if_neg h, if_pos h2, if_pos (show x < l + 1 by omega), h2]
    · rw [if_neg h, if_neg h2, if_neg (show ¬ x < l + 1 by omega)]
      by_cases h3 : x = l + 1
      · rw [if_pos h3]; rfl
      · rw [if_neg h3]
theorem pl_trunksC {A : pl_A} {m : ml_M} (h : pl_Rel A m) : fX10_trunksForLines 1 m = some (ml_n m + 1, pl_wI (ml_al m 20 (pl_N A 0 4 0) (pl_N A 0 4 0)) (ml_n m + 1) (pl_fk A (pl_N A 0 4 0) 0)) := by
  obtain ⟨hS, hW, hM, hC⟩ := h
  have hw := hW.1
  unfold pl_Wc at hw
  have hn := hS.2.2
  obtain ⟨nt, hnt⟩ : ∃ nt, nt = pl_N A 0 1 0 := ⟨_, rfl⟩
  obtain ⟨L, hL⟩ : ∃ L, L = pl_N A 0 4 0 := ⟨_, rfl⟩
  rw [← hL]
  have hex : ∀ g, pl_ex [] m (pl_wI (ml_al m 20 L L) (ml_n m + 1) g) := fun g => ((pl_ex.refl [] m).al).wI (Or.inr (by omega))
  have hSg : ∀ g, pl_Sh (pl_wI (ml_al m 20 L L) (ml_n m + 1) g) := fun g => (hex g).sh hS (fun q _ hq => by simp at hq)
  have d : pl_dif [] [] [] A A := ⟨fun _ _ _ => rfl, fun _ _ => rfl, fun _ _ => rfl⟩
  have e : ∀ g a, a ≤ 60 → ml_I (pl_wI (ml_al m 20 L L) (ml_n m + 1) g) a = ml_I m a ∧ ml_R (pl_wI (ml_al m 20 L L) (ml_n m + 1) g) a = ml_R m a := fun g a ha => (hex g).2.2 a (by omega) (by simp)
  have hCg : ∀ g, pl_Ch A (pl_wI (ml_al m 20 L L) (ml_n m + 1) g) ∧ pl_Ci A (pl_wI (ml_al m 20 L L) (ml_n m + 1) g) ∧ pl_Cn A (pl_wI (ml_al m 20 L L) (ml_n m + 1) g) := fun g => by
    obtain ⟨fr, ft, fh, fi, fn, fk, fs, fy⟩ := pl_Cd d hS hC (hex g) (by simp) (by rw [(e g 1 (by decide)).2])
    exact ⟨fh (by decide), fi (by decide), fn (by decide)⟩
  have h5 : ∀ g, ml_I (pl_wI (ml_al m 20 L L) (ml_n m + 1) g) 1 5 = nI (pl_N A 0 3 0) := fun g => by rw [(e g 1 (by decide)).1]; exact hC.1.2.1
  have h7 : ∀ g, ml_I (pl_wI (ml_al m 20 L L) (ml_n m + 1) g) 1 7 = nI L := fun g => by rw [(e g 1 (by decide)).1, hL]; exact hC.1.2.2.1
  have hKg : ∀ g, ml_K (pl_wI (ml_al m 20 L L) (ml_n m + 1) g) (ml_n m + 1) = (20, L) := fun g => by rw [pl_K_wI, pl_K_aln]
  have hIg : ∀ g, ml_I (pl_wI (ml_al m 20 L L) (ml_n m + 1) g) (ml_n m + 1) = g := fun g => by rw [pl_I_wI, if_pos rfl]
  have e31 : (31 : Int32) = nI 31 := rfl
  have e1 : (1 : Int32) = nI 1 := rfl
  have ei : ∀ (K : Nat → Nat → Int32 → ml_M → Option (Nat × ml_M)) (l : Nat), l < L → fX10_trunksForLines_19 K ml_fu 1 (ml_n m + 1) (nI l) 0 (pl_wI (ml_al m 20 L L) (ml_n m + 1) (pl_fk A l 0)) = K 1 (ml_n m + 1) (nI (l + 1)) (pl_wI (ml_al m 20 L L) (ml_n m + 1) (pl_fk A (l + 1) 0)) := fun K l hl => by
    refine pl_for (F := fun fu t (_ : Unit) => fX10_trunksForLines_19 K fu 1 (ml_n m + 1) (nI l) (nI t) (pl_wI (ml_al m 20 L L) (ml_n m + 1) (pl_fk A l t))) (R := K 1 (ml_n m + 1) (nI (l + 1)) (pl_wI (ml_al m 20 L L) (ml_n m + 1) (pl_fk A (l + 1) 0))) nt (fun _ => ()) (fun fu t ht => ?_) (fun fu => ?_) ml_fu (by rw [pl_fu]; omega)
    · show fX10_trunksForLines_19 K (fu + 1) 1 (ml_n m + 1) (nI l) (nI t) (pl_wI (ml_al m 20 L L) (ml_n m + 1) (pl_fk A l t)) = fX10_trunksForLines_19 K fu 1 (ml_n m + 1) (nI l) (nI (t + 1)) (pl_wI (ml_al m 20 L L) (ml_n m + 1) (pl_fk A l (t + 1)))
      have hS' := hSg (pl_fk A l t)
      obtain ⟨hCh, hCi, hCn⟩ := hCg (pl_fk A l t)
      have hft := pl_fitsTrunk hS' hW hCi hCn (h5 _) (l := l) (t := t) (by omega) (by omega)
      have z1 := hCh.1.2.2
      have z3 := hCh.2.2.2.2.1
      rw [← hnt] at z3
      have k1 := pl_k1 hS'
      have k9 := pl_k9 hS'
      have r6 := pl_r1_6 hS'
      by_cases hf : pl_lf A l t = true
      · have hv : pl_fk A l t l = nI (pl_set (pl_lf A l) t) := by unfold pl_fk; rw [if_neg (by omega), if_pos rfl]
        have hst : (fun j => if j = l then nI (pl_set (pl_lf A l) t ||| 2 ^ t) else pl_fk A l t j) = pl_fk A l (t + 1) := by
          funext x
          unfold pl_fk
          rw [pl_set1, if_pos hf]
          by_cases h2 : x = l
          · rw [if_pos h2, if_neg (by omega), if_pos h2]
          · rw [if_neg h2, if_neg h2, if_neg h2]
        simp (disch := omega) only [fX10_trunksForLines_19, fX10_trunksForLines_53, ↓pl_let, pl_b1, pl_b2, ↓reduceIte, k1, k9, r6, z1, z3, if_true, nI_leI, show ¬ nt ≤ t by omega, if_false, pl_in, nI_clamp, show l < 8 by omega, and_self, hft, hf, e1, e31, pl_eq0, Nat.reduceEqDiff, hKg, hl, hIg, hv, pl_and, pl_shl2, pl_or, pl_wI_sI, hst, nI_add]
      · have hst : pl_fk A l (t + 1) = pl_fk A l t := by
          unfold pl_fk
          rw [pl_set1, if_neg hf]
        rw [hst]
        have hf : pl_lf A l t = false := by simpa using hf
        simp (disch := omega) only [fX10_trunksForLines_19, fX10_trunksForLines_53, ↓pl_let, pl_b1, pl_b2, ↓reduceIte, k1, k9, r6, z1, z3, if_true, nI_leI, show ¬ nt ≤ t by omega, if_false, pl_in, nI_clamp, show l < 8 by omega, and_self, hft, hf, Bool.false_eq_true, e1, nI_add]
    · have hS' := hSg (pl_fk A l nt)
      obtain ⟨hCh, hCi, hCn⟩ := hCg (pl_fk A l nt)
      have z1 := hCh.1.2.2
      have z3 := hCh.2.2.2.2.1
      rw [← hnt] at z3
      have hst := pl_fk_n A l
      rw [← hnt] at hst
      rw [← hst]
      simp (disch := omega) only [fX10_trunksForLines_19, fX10_trunksForLines_59, ↓pl_let, pl_b1, pl_b2, ↓reduceIte, pl_k1 hS', z1, z3, if_true, nI_leI, Nat.le_refl, e1, nI_add]
  have ho := pl_for (F := fun fu l (_ : Unit) => fX10_trunksForLines_9 fu 1 (ml_n m + 1) (nI l) (pl_wI (ml_al m 20 L L) (ml_n m + 1) (pl_fk A l 0))) (R := some (ml_n m + 1, pl_wI (ml_al m 20 L L) (ml_n m + 1) (pl_fk A L 0))) L (fun _ => ()) (fun fu l hl => ?_) (fun fu => ?_) ml_fu (by rw [pl_fu]; omega)
  · have hal : pl_wI (ml_al m 20 L L) (ml_n m + 1) (pl_fk A 0 0) = ml_al m 20 L L := by
      have e : pl_fk A 0 0 = ml_I (ml_al m 20 L L) (ml_n m + 1) := by
        funext x
        rw [pl_I_aln]
        unfold pl_fk
        rw [if_neg (by omega)]
        split
        · rfl
        · rfl
      rw [e, pl_wI_0]
    rw [hal] at ho
    have h7m : ml_I m 1 7 = nI L := by rw [hL]; exact hC.1.2.2.1
    have hlen := pl_len (n := L) (by omega)
    unfold fX10_trunksForLines
    rw [pl_k1 hS, if_pos rfl, h7m, if_pos hlen, pl_let, pl_let, nI_clamp (by omega)]
    exact ho
  · show fX10_trunksForLines_9 (fu + 1) 1 (ml_n m + 1) (nI l) (pl_wI (ml_al m 20 L L) (ml_n m + 1) (pl_fk A l 0)) = fX10_trunksForLines_9 fu 1 (ml_n m + 1) (nI (l + 1)) (pl_wI (ml_al m 20 L L) (ml_n m + 1) (pl_fk A (l + 1) 0))
    rw [← ei (fX10_trunksForLines_9 fu) l hl]
    simp (disch := omega) only [fX10_trunksForLines_9, ↓pl_let, pl_b1, pl_b2, ↓reduceIte, pl_k1 (hSg (pl_fk A l 0)), h7, if_true, nI_leI, show ¬ L ≤ l by omega, if_false]
  · simp (disch := omega) only [fX10_trunksForLines_9, ↓pl_let, pl_b1, pl_b2, ↓reduceIte, pl_k1 (hSg (pl_fk A L 0)), h7, if_true, nI_leI, Nat.le_refl]
theorem pl_fk_k {A : pl_A} {L k : Nat} (h : k < L) : pl_fk A L 0 k = nI (pl_set (pl_lf A k) (pl_N A 0 1 0)) := by
  unfold pl_fk; rw [if_pos h]
/-- the class with its two arrays -/
theorem pl_rdW {A : pl_A} {m : ml_M} (h : pl_Rel A m) {L N : Nat} (g1 g2 : Nat → Int32) : pl_Md A A (pl_wI (pl_wI (ml_al (ml_al m 20 L L) 20 N N) (ml_n m + 1) g1) (ml_n m + 2) g2) := by
  have hn := h.1.2.2
  refine h.md.gb ((((pl_ex.refl [] m).al).al).wI (Or.inr (by omega)) |>.wI (Or.inr (by omega))) (((((pl_co.refl m).al hn).al (by rw [pl_n_al]; omega)).wI (by omega)).wI (by omega)) ?_
  funext j
  rw [pl_J_wI, pl_J_wI, pl_J_al, if_neg (by rw [pl_n_al]; omega), pl_J_al, if_neg (by omega)]
theorem pl_alW (m : ml_M) (a kd ln sz : Nat) (g : Nat → Int32) (ha : a ≤ ml_n m) : ml_al (pl_wI m a g) kd ln sz = pl_wI (ml_al m kd ln sz) a g := by
  have : (fun b j => if b = ml_n m + 1 then (0 : Int32) else (if b = a then g else ml_I m b) j) = fun b => if b = a then g else fun j => if b = ml_n m + 1 then 0 else ml_I m b j := by
    funext b j
    by_cases h1 : b = a
    · rw [if_neg (by omega), if_pos h1, if_pos h1]
    · rw [if_neg h1, if_neg h1]
  have e1 : ml_al (pl_wI m a g) kd ln sz = ((ml_al (pl_wI m a g) kd ln sz).1, (ml_al (pl_wI m a g) kd ln sz).2.1, (ml_al (pl_wI m a g) kd ln sz).2.2.1, ml_I (ml_al (pl_wI m a g) kd ln sz), ml_R (ml_al (pl_wI m a g) kd ln sz), ml_J (ml_al (pl_wI m a g) kd ln sz)) := rfl
  have e2 : ml_I (ml_al (pl_wI m a g) kd ln sz) = fun b => if b = a then g else fun j => if b = ml_n m + 1 then 0 else ml_I m b j := by
    rw [← this]
    funext b j
    rw [pl_I_al, pl_I_wI, pl_n_wI]
  rw [e1, e2]
  rfl
theorem pl_op_readings : pl_Ok (fX10_readings 1) (fX11_readings 33) := by
  intro A m h
  obtain ⟨hS, hW, hM, hC⟩ := h
  have h : pl_Rel A m := ⟨hS, hW, hM, hC⟩
  have hw := hW.1
  unfold pl_Wc at hw
  have hn := hS.2.2
  obtain ⟨p1, p2⟩ := pl_pown (show pl_N A 0 1 0 ≤ 8 by omega)
  obtain ⟨N, hN⟩ : ∃ N, N = 2 ^ pl_N A 0 1 0 := ⟨_, rfl⟩
  rw [← hN] at p1 p2
  obtain ⟨L, hL⟩ : ∃ L, L = pl_N A 0 4 0 := ⟨_, rfl⟩
  have hl31 := pl_len (n := N) (by omega)
  have hal := pl_alW (ml_al m 20 L L) (ml_n m + 1) 20 N N (pl_fk A L 0) (by rw [pl_n_al]; exact Nat.le_refl _)
  obtain ⟨M0, hM0⟩ : ∃ M0, M0 = pl_wI (ml_al (ml_al m 20 L L) 20 N N) (ml_n m + 1) (pl_fk A L 0) := ⟨_, rfl⟩
  have hd0 : pl_Md A A M0 := by
    have := pl_rdW h (L := L) (N := N) (pl_fk A L 0) (ml_I M0 (ml_n m + 2))
    rw [← hM0, pl_wI_0] at this
    exact this
  obtain ⟨hS0, -, hMM0, hC0⟩ := hd0
  have hCh0 := hC0.2.2.2.1
  have hK1 : ml_K M0 (ml_n m + 1) = (20, L) := by rw [hM0, pl_K_wI, pl_K_alo (by rw [pl_n_al]; exact Nat.le_refl _), pl_K_aln]
  have hK2 : ml_K M0 (ml_n m + 2) = (20, N) := by
    have := pl_K_aln (ml_al m 20 L L) 20 N N
    rw [pl_n_al] at this
    rw [hM0, pl_K_wI]; exact this
  have hI1 : ml_I M0 (ml_n m + 1) = pl_fk A L 0 := by rw [hM0, pl_I_wI, if_pos rfl]
  have hnM : ml_n M0 = ml_n m + 2 := by rw [hM0, pl_n_wI, pl_n_al, pl_n_al]
  have hsM : ml_s M0 = ml_s m + L + N := by rw [hM0, pl_s_wI, pl_s_al, pl_s_al]
  obtain ⟨g, hg⟩ := pl_readsC hS0 hW hCh0 (fa := ml_n m + 1) (ta := ml_n m + 2) (L := L) (pl_lf A) (by omega) ⟨by omega, by omega, hK1⟩ ⟨by omega, by omega, by rw [← hN]; exact hK2⟩ (by omega) (fun k hk => by rw [hI1, pl_fk_k hk])
  have htr := pl_trunksC h
  rw [← hL] at htr
  have hC1 : fX10_readings 1 m = some (nI (pl_rg (pl_N A 0 1 0) L (pl_lf A) 0), pl_wI M0 (ml_n m + 2) g) := by
    have hex1 : pl_ex [] m (pl_wI (ml_al m 20 L L) (ml_n m + 1) (pl_fk A L 0)) := ((pl_ex.refl [] m).al).wI (Or.inr (by omega))
    have hS1 : pl_Sh (pl_wI (ml_al m 20 L L) (ml_n m + 1) (pl_fk A L 0)) := hex1.sh hS (fun q _ hq => by simp at hq)
    have hCh1 : pl_Ch A (pl_wI (ml_al m 20 L L) (ml_n m + 1) (pl_fk A L 0)) := hC.2.2.2.1.fr hex1 (by rw [(hex1.2.2 1 (by omega) (by simp)).2]) (fun k _ a ha => by simp at ha) (fun k _ a ha => by simp at ha) rfl rfl rfl rfl rfl rfl
    have z1 := hCh1.1.2.2
    have z3 := hCh1.2.2.2.2.1
    have hsh : (1 : Int32) <<< (nI (pl_N A 0 1 0) &&& 31) = nI N := by rw [pl_shl1 (by omega), hN]
    unfold fX10_readings
    rw [pl_k1 hS, if_pos rfl, htr, pl_b2, pl_k1 hS1, if_pos rfl, pl_let, z1, if_pos rfl, z3, hsh, if_pos hl31, pl_let, pl_let, nI_clamp (by omega), pl_n_wI, pl_n_al, hal, ← hM0, pl_k1 hS0, if_pos rfl]
    rw [show ml_n m + 1 + 1 = ml_n m + 2 from rfl, hg, pl_b2]
  have hdf := pl_rdW h (L := L) (N := N) (pl_fk A L 0) g
  rw [← hM0] at hdf
  refine pl_Ok.mk hdf hC1 (by rw [pl_n_wI]; omega) (by rw [pl_s_wI]; omega) hW fun M hSM hMM => ?_
  obtain ⟨g2, hg2⟩ := pl_readsM hSM hW hMM (-9) (-9) (pl_lf A) (fun l t hl ht => by
    rw [if_neg]
    rintro ⟨z, -⟩
    rw [pl_n9 (by omega)] at z
    exact z)
  refine ⟨pl_wI M 52 g2, ?_, (pl_mo.refl M).wI (by decide), ((pl_kp.refl M).wI (by decide)).M hMM⟩
  unfold fX11_readings
  rw [pl_k33 hSM, if_pos rfl, hg2, pl_b2, hL]

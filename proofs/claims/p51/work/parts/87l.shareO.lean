/-! SHARINGS: the pair share. -/
def pl_b49 (A : pl_A) (M : ml_M) (o : Option (Nat × List Nat)) : Nat → Int32 := match o with
  | none => ml_I M 49
  | some q => fun t => if t < pl_N A 0 1 0 then nI (q.2.getD t 0) else ml_I M 49 t
theorem pl_s4849 (m : ml_M) (g : Nat → Int32) (k : Nat) (v : Int32) : ml_sI (pl_wI m 48 g) 49 k v = pl_wI (ml_sI m 49 k v) 48 g := pl_sIsw m (by decide) g k v
/-- the reference while it looks for the fewest -/
def pl_fm2 (M : ml_M) (b : Int32) (o g : Nat → Int32) : ml_M := pl_so (pl_wI M 49 g) b o
theorem pl_fm2_49 (M : ml_M) (b : Int32) (o g : Nat → Int32) : ml_I (pl_fm2 M b o g) 49 = g := by
  unfold pl_fm2
  rw [pl_so_o _ _ _ (by decide), pl_I_wI, if_pos rfl]
theorem pl_fm2_s49 (M : ml_M) (b : Int32) (o g : Nat → Int32) (k : Nat) (v : Int32) : ml_sI (pl_fm2 M b o g) 49 k v = pl_fm2 M b o (pl_up g k v) := by
  unfold pl_fm2 pl_so
  rw [pl_s4849]
  have : ml_sI (ml_sI (pl_wI M 49 g) 33 28 b) 49 k v = ml_sI (pl_wI M 49 (pl_up g k v)) 33 28 b := by
    rw [pl_sIsw M (a := 49) (b := 33) (by decide) g 28 b, pl_wI_sI, pl_sIsw M (a := 49) (b := 33) (by decide) _ 28 b]; rfl
  rw [this]
theorem pl_of_20 {A : pl_A} (hW : pl_W A) : pl_of A 20 = pl_S A := by
  unfold pl_of
  rw [List.filter_eq_self]
  intro w _
  exact decide_eq_true (pl_moved_le hW w)
theorem pl_leastSh {A : pl_A} {M : ml_M} (hS : pl_Sh M) (hW : pl_W A) (hM : pl_M A M) {r : Nat} : ∃ o, fX11_share_16 ml_fu 33 (nI r) (-9) (pl_so M 0 (fun j => if j < 8 then -1 else ml_I M 48 j)) = fX11_share_75 33 (nI r) (pl_bv (pl_best A)) (pl_fm2 M 1 o (pl_b49 A M (pl_best A))) := by
  have hww := hW.1
  unfold pl_Wc at hww
  have k33 := pl_k33 hS
  have k48 := pl_k48 hS
  have k49 := pl_k49 hS
  have r27 := pl_r33_27 hS
  have r29 := pl_r33_29 hS
  have e20 : (20 : Int32) = nI 20 := rfl
  have hbest : pl_best A = pl_bst A (pl_S A) := rfl
  have hSg : ∀ g, pl_Sh (pl_wI M 49 g) := fun g => hS.wI 49 g
  have hMg : ∀ g, pl_M A (pl_wI M 49 g) := fun g => ((pl_kp.refl M).wI (by decide)).M hM
  -- the owners kept
  have hkeep : ∀ (K : Nat → Int32 → Int32 → ml_M → Option (Int32 × ml_M)) (w : List Nat) (o g : Nat → Int32) (x : Int32), pl_fr0 (pl_N A 0 0 0) (pl_N A 0 1 0) w o → (∀ t, pl_N A 0 1 0 ≤ t → g t = ml_I M 49 t) → fX11_share_46 K ml_fu 33 (nI r) x 0 (pl_fm2 M 1 o g) = K 33 (nI r) x (pl_fm2 M 1 o (fun t => if t < pl_N A 0 1 0 then nI (w.getD t 0) else ml_I M 49 t)) := fun K w o g x hf hg => by
    have hh := pl_for (F := fun fu t (_ : Unit) => fX11_share_46 K fu 33 (nI r) x (nI t) (pl_fm2 M 1 o (fun j => if j < t then nI (w.getD j 0) else g j))) (R := K 33 (nI r) x (pl_fm2 M 1 o (fun t => if t < pl_N A 0 1 0 then nI (w.getD t 0) else ml_I M 49 t))) (pl_N A 0 1 0) (fun _ => ()) (fun fu t ht => ?_) (fun fu => ?_) ml_fu (by rw [pl_fu]; omega)
    · have e0 : (fun j => if j < 0 then nI (w.getD j 0) else g j) = g := by funext j; rw [if_neg (Nat.not_lt_zero j)]
      rw [e0] at hh
      exact hh
    · show fX11_share_46 K (fu + 1) 33 (nI r) x (nI t) (pl_fm2 M 1 o (fun j => if j < t then nI (w.getD j 0) else g j)) = fX11_share_46 K fu 33 (nI r) x (nI (t + 1)) (pl_fm2 M 1 o (fun j => if j < t + 1 then nI (w.getD j 0) else g j))
      have i48 : ∀ g, ml_I (pl_fm2 M 1 o g) 48 t = nI (w.getD t 0) := fun g => by unfold pl_fm2; rw [pl_so_48]; exact hf.2.2.2.1 t ht
      have i10 : ∀ g, ml_I (pl_fm2 M 1 o g) 33 10 = nI (pl_N A 0 1 0) := fun g => by unfold pl_fm2; rw [pl_so_33 _ _ _ (by decide), pl_I_wI, if_neg (by decide)]; exact hM.1.2.1
      have kK : ∀ g, ml_K (pl_fm2 M 1 o g) = ml_K M := fun g => rfl
      have kR : ∀ g, ml_R (pl_fm2 M 1 o g) = ml_R M := fun g => rfl
      have e : pl_up (fun j => if j < t then nI (w.getD j 0) else g j) t (nI (w.getD t 0)) = fun j => if j < t + 1 then nI (w.getD j 0) else g j := by
        funext j
        unfold pl_up
        by_cases h : j = t
        · rw [if_pos h, if_pos (by omega), h]
        · rw [if_neg h]
          show (if j < t then nI (w.getD j 0) else g j) = _
          by_cases h2 : j < t
          · rw [if_pos h2, if_pos (by omega)]
          · rw [if_neg h2, if_neg (by omega)]
      rw [← e]
      simp (disch := omega) only [fX11_share_46, kK, k33, if_true, i10, nI_leI, show ¬ pl_N A 0 1 0 ≤ t by omega, if_false, ↓pl_let, pl_b1, pl_b2, ↓reduceIte, kR, r27, r29, pl_in, nI_clamp, k48, k49, show t < 8 by omega, and_self, i48, pl_fm2_s49, nI_1]
    · have e : (fun j => if j < pl_N A 0 1 0 then nI (w.getD j 0) else g j) = fun t => if t < pl_N A 0 1 0 then nI (w.getD t 0) else ml_I M 49 t := by
        funext j
        by_cases h : j < pl_N A 0 1 0
        · rw [if_pos h, if_pos h]
        · rw [if_neg h, if_neg h, hg j (by omega)]
      have i10 : ∀ g, ml_I (pl_fm2 M 1 o g) 33 10 = nI (pl_N A 0 1 0) := fun g => by unfold pl_fm2; rw [pl_so_33 _ _ _ (by decide), pl_I_wI, if_neg (by decide)]; exact hM.1.2.1
      have kK : ∀ g, ml_K (pl_fm2 M 1 o g) = ml_K M := fun g => rfl
      rw [← e]
      simp (disch := omega) only [fX11_share_46, fX11_share_72, kK, k33, if_true, i10, nI_leI, Nat.le_refl]
  have hloop := pl_loop (F := fun fu (s : (List (List Nat) × List (List Nat)) × Int32 × (Nat → Int32)) => fX11_share_16 fu 33 (nI r) (pl_bv (pl_bst A s.1.1)) (pl_fm2 M s.2.1 s.2.2 (pl_b49 A M (pl_bst A s.1.1)))) (μ := fun s => s.1.2.length)
    (Inv := fun s => s.1.1 ++ s.1.2.filter (pl_sf2 A 20) = pl_S A ∧ pl_rs2 (pl_N A 0 0 0) (pl_N A 0 1 0) s.2.1 s.2.2 s.1.2 ∧ s.1.2.length ≤ 200001)
    (Post := fun R => ∃ o, R = fX11_share_75 33 (nI r) (pl_bv (pl_best A)) (pl_fm2 M 1 o (pl_b49 A M (pl_best A)))) ?_ ml_fu (([], pl_gv (pl_N A 0 0 0) (pl_N A 0 1 0) []), 0, fun j => if j < 8 then -1 else ml_I M 48 j) (by have := pl_R_len hW; rw [pl_fu]; show (pl_gv (pl_N A 0 0 0) (pl_N A 0 1 0) []).length < _; omega) ⟨by rw [← pl_of_20 hW, ← pl_of_sf]; rfl, Or.inl ⟨rfl, fun i hi => if_pos hi, rfl⟩, pl_R_len hW⟩
  · obtain ⟨o, ho⟩ := hloop
    refine ⟨o, ?_⟩
    rw [← ho]
    have e0 : pl_fm2 M 0 (fun j => if j < 8 then -1 else ml_I M 48 j) (pl_b49 A M (pl_bst A [])) = pl_so M 0 (fun j => if j < 8 then -1 else ml_I M 48 j) := by
      have : pl_b49 A M (pl_bst A []) = ml_I M 49 := rfl
      unfold pl_fm2
      rw [this, pl_wI_0]
    show _ = fX11_share_16 ml_fu 33 (nI r) (pl_bv (pl_bst A [])) (pl_fm2 M 0 (fun j => if j < 8 then -1 else ml_I M 48 j) (pl_b49 A M (pl_bst A [])))
    rw [e0]; rfl
  · rintro fu ⟨⟨W, rem⟩, b, o⟩ ⟨h1, h2, h3⟩
    have h1 : W ++ rem.filter (pl_sf2 A 20) = pl_S A := h1
    have h2 : pl_rs2 (pl_N A 0 0 0) (pl_N A 0 1 0) b o rem := h2
    have h3 : rem.length ≤ 200001 := h3
    have hns := pl_nextSh (hSg (pl_b49 A M (pl_bst A W))) hW (hMg _) (n := 20) (by decide) h3 h2
    have hns : pl_nS A (pl_wI M 49 (pl_b49 A M (pl_bst A W))) 20 rem (fX11_nextSharing 33 (nI 20) (pl_fm2 M b o (pl_b49 A M (pl_bst A W)))) := hns
    have kq : ∀ b o, ml_K (pl_fm2 M b o (pl_b49 A M (pl_bst A W))) 33 = (11, 0) := fun b o => k33
    rcases hns with ⟨z1, o', z2⟩ | ⟨w, tl, o', z1, z2, z3, z4, z5, z6⟩
    · left
      rw [z1, List.append_nil] at h1
      refine ⟨o', ?_⟩
      have z2 : fX11_nextSharing 33 (nI 20) (pl_fm2 M b o (pl_b49 A M (pl_bst A W))) = some (0, pl_fm2 M 1 o' (pl_b49 A M (pl_bst A W))) := z2
      show fX11_share_16 (fu + 1) 33 (nI r) (pl_bv (pl_bst A W)) (pl_fm2 M b o (pl_b49 A M (pl_bst A W))) = _
      rw [hbest, ← h1]
      simp only [fX11_share_16, kq, if_true, e20, z2, ↓pl_let, pl_b1, pl_b2, ↓reduceIte]
    · right
      have z3 : fX11_nextSharing 33 (nI 20) (pl_fm2 M b o (pl_b49 A M (pl_bst A W))) = some (1, pl_fm2 M 1 o' (pl_b49 A M (pl_bst A W))) := z3
      have hS1 : pl_Sh (pl_fm2 M 1 o' (pl_b49 A M (pl_bst A W))) := pl_so_S (hSg _) 1 o'
      have hM1 : pl_M A (pl_fm2 M 1 o' (pl_b49 A M (pl_bst A W))) := (pl_so_kp _ 1 o').M (hMg _)
      have how : pl_ow2 A (pl_fm2 M 1 o' (pl_b49 A M (pl_bst A W))) w := ⟨z4.1, z4.2.2.1, fun i hi => by unfold pl_fm2; rw [pl_so_48]; exact z4.2.2.2.1 i hi⟩
      have hmv := pl_movedM hS1 hW hM1 how
      have hm20 := pl_moved_le hW w
      have hb20 := pl_bst_20 hW W
      have hg49 : ∀ t, pl_N A 0 1 0 ≤ t → pl_b49 A M (pl_bst A W) t = ml_I M 49 t := fun t ht => by
        cases pl_bst A W with
        | none => rfl
        | some q =>
          show (if t < pl_N A 0 1 0 then nI (q.2.getD t 0) else ml_I M 49 t) = _
          rw [if_neg (by omega)]
      have hk := hkeep (fX11_share_16 fu) w o' (pl_b49 A M (pl_bst A W)) (nI (pl_moved A w)) z4 hg49
      have h39 : fX11_share_39 (fX11_share_16 fu) 33 (nI r) (pl_fm2 M 1 o' (pl_b49 A M (pl_bst A W))) = fX11_share_16 fu 33 (nI r) (nI (pl_moved A w)) (pl_fm2 M 1 o' (fun t => if t < pl_N A 0 1 0 then nI (w.getD t 0) else ml_I M 49 t)) := by
        rw [← hk]
        simp only [fX11_share_39, kq, if_true, hmv, ↓pl_let, pl_b1, pl_b2, ↓reduceIte]
      refine ⟨((W ++ [w], tl), 1, o'), ?_, ⟨?_, z5, by show tl.length ≤ 200001; omega⟩, z2⟩
      · show fX11_share_16 (fu + 1) 33 (nI r) (pl_bv (pl_bst A W)) (pl_fm2 M b o (pl_b49 A M (pl_bst A W))) = fX11_share_16 fu 33 (nI r) (pl_bv (pl_bst A (W ++ [w]))) (pl_fm2 M 1 o' (pl_b49 A M (pl_bst A (W ++ [w]))))
        have hgo : fX11_share_16 (fu + 1) 33 (nI r) (pl_bv (pl_bst A W)) (pl_fm2 M b o (pl_b49 A M (pl_bst A W))) = if pl_bv (pl_bst A W) = -9 then fX11_share_39 (fX11_share_16 fu) 33 (nI r) (pl_fm2 M 1 o' (pl_b49 A M (pl_bst A W))) else if pl_bv (pl_bst A W) ≤ nI (pl_moved A w) then fX11_share_16 fu 33 (nI r) (pl_bv (pl_bst A W)) (pl_fm2 M 1 o' (pl_b49 A M (pl_bst A W))) else fX11_share_39 (fX11_share_16 fu) 33 (nI r) (pl_fm2 M 1 o' (pl_b49 A M (pl_bst A W))) := by
          simp only [fX11_share_16, kq, if_true, e20, z3, ↓pl_let, pl_b1, pl_b2, ↓reduceIte, pl_10, if_false, hmv]
        rw [hgo, h39, pl_bst_app]
        cases hb : pl_bst A W with
        | none =>
          have h9 : pl_bv none = -9 := rfl
          rw [h9, if_pos rfl]; rfl
        | some q =>
          have hq := hb20 q hb
          have hv : pl_bv (some q) = nI q.1 := rfl
          rw [hv, if_neg (by rw [pl_n9 (by omega)]; exact id)]
          show (if nI q.1 ≤ nI (pl_moved A w) then _ else _) = fX11_share_16 fu 33 (nI r) (pl_bv (if pl_moved A w < q.1 then some (pl_moved A w, w) else some q)) (pl_fm2 M 1 o' (pl_b49 A M (if pl_moved A w < q.1 then some (pl_moved A w, w) else some q)))
          by_cases hlt : pl_moved A w < q.1
          · rw [if_neg (by rw [nI_leI (by omega) (by omega)]; omega), if_pos hlt]; rfl
          · rw [if_pos (by rw [nI_leI (by omega) (by omega)]; omega), if_neg hlt]; rfl
      · show W ++ [w] ++ tl.filter (pl_sf2 A 20) = pl_S A
        rw [← h1, z1, List.append_assoc]; rfl
theorem pl_op_share (x0 : Int32) : pl_Ok (fX10_share 1 x0) (fX11_share 33 x0) := by
  intro A m h
  have hS := h.1
  have hW := h.2.1
  have hww := hW.1
  unfold pl_Wc at hww
  rcases pl_rng0 (x := x0) 5 (by decide) with hr | ⟨r, hr, rfl⟩
  · refine pl_Ok.same h (-1) ?_ ?_ <;> simp [fX10_share, fX11_share, ↓pl_let, pl_b1, pl_b2, ↓reduceIte, pl_isRow, pl_isRowM, hr]
  · have hr5 : 0 ≤ nI r ∧ nI r ≤ nI 5 := ⟨nI_pos' (by omega), nI_le (by omega) (by decide)⟩
    obtain ⟨m1, c1, c2, c3, c4, c5⟩ := pl_refrS h
    have hS1 := c2.1
    have hn60 := hS1.2.2
    have hrr := pl_CsR c2 c5
    have hCh := c2.2.2.2.2.2.2.1
    have z1 := hCh.1.2.2
    have z3 := hCh.2.2.2.2.1
    have i1 := hrr.2.2.2.1
    cases hb : pl_best A with
    | none =>
      rw [hb] at i1
      have i1 : ml_I m1 12 1 = -9 := i1
      have hC1 : fX10_share 1 (nI r) m = some (-9, m1) := by
        simp (disch := omega) only [fX10_share, ↓pl_let, pl_b1, pl_b2, ↓reduceIte, pl_isRow, hr5, and_self, if_true, pl_10, if_false, pl_k1 hS, c1, pl_k1 hS1, pl_r1_12 hS1, pl_k12 hS1, i1]
      refine pl_Ok.mk c2.md hC1 (by omega) (by omega) hW fun M hSM hMM => ?_
      obtain ⟨o, ho⟩ := pl_leastSh hSM hW hMM (r := r)
      rw [hb] at ho
      have hv : pl_bv none = -9 := rfl
      rw [hv] at ho
      refine ⟨pl_fm2 M 1 o (pl_b49 A M none), ?_, ((pl_mo.refl M).wI (by decide)).trans (pl_so_mo _ 1 o), (pl_so_kp _ 1 o).M (((pl_kp.refl M).wI (by decide)).M hMM)⟩
      have hbg := pl_beginM hSM
      simp (disch := omega) only [fX11_share, ↓pl_let, pl_b1, pl_b2, ↓reduceIte, pl_isRowM, hr5, and_self, if_true, pl_10, if_false, pl_k33 hSM, hbg, ho, fX11_share_75]
    | some q =>
      have hq20 : q.1 ≤ 20 := pl_bst_20 hW (pl_S A) q hb
      rw [hb] at i1
      have i1 : ml_I m1 12 1 = nI q.1 := i1
      have i13 := hrr.2.2.2.2.1 q hb
      have hn9 : ¬ nI q.1 = -9 := by rw [pl_n9 (by omega)]; exact id
      obtain ⟨m2, d1, d2, d3, d4, d5, d6, d7, d8⟩ := pl_copyOf (m := m1) (a := 13) (L := 8) (n := pl_N A 0 1 0) (pl_k13 hS1) (by omega) (by omega) (by decide) hn60
      have hd := pl_rowC c2 (r := r) (f := fun t => nI (q.2.getD t 0)) (by omega) d6 d7 d8 (c := ml_n m1 + 1) ⟨by omega, by omega⟩ d4 (fun j hj => by rw [d5 j hj, i13 j hj])
      have hS2 : pl_Sh m2 := d6.sh hS1 (fun q _ hq => by simp at hq)
      have hS3 := hd.1
      have i12 : ml_I (ml_sR m2 2 r (ml_n m1 + 1)) 12 1 = nI q.1 := by
        rw [pl_I_sR, (d6.2.2 12 (by omega) (by simp)).1, i1]
      have hC1 : fX10_share 1 (nI r) m = some (nI q.1, ml_sR m2 2 r (ml_n m1 + 1)) := by
        have k2 := pl_k2 hS2
        simp (disch := omega) only [fX10_share, ↓pl_let, pl_b1, pl_b2, ↓reduceIte, pl_isRow, hr5, and_self, if_true, pl_10, if_false, pl_k1 hS, c1, pl_k1 hS1, pl_r1_12 hS1, pl_k12 hS1, i1, hn9, pl_r1_0 hS1, pl_r12_2 hS1, z1, z3, d1, d4, pl_in, nI_clamp, k2, show r < 6 by omega, pl_k1 hS3, pl_r1_12 hS3, pl_k12 hS3, i12]
      refine pl_Ok.mk hd hC1 (by rw [pl_n_sR]; omega) (by rw [pl_s_sR]; omega) (pl_rW hW (by omega)) fun M hSM hMM => ?_
      obtain ⟨o, ho⟩ := pl_leastSh hSM hW hMM (r := r)
      rw [hb] at ho
      have hv : pl_bv (some q) = nI q.1 := rfl
      rw [hv] at ho
      obtain ⟨Q, hQ⟩ : ∃ Q, Q = pl_fm2 M 1 o (pl_b49 A M (some q)) := ⟨_, rfl⟩
      rw [← hQ] at ho
      have hmoQ : pl_mo M Q := by rw [hQ]; exact ((pl_mo.refl M).wI (by decide)).trans (pl_so_mo _ 1 o)
      have hkpM : pl_kp M (pl_wI M 49 (pl_b49 A M (some q))) := (pl_kp.refl M).wI (by decide)
      have hMQ : pl_M A Q := by rw [hQ]; exact (pl_so_kp _ 1 o).M (hkpM.M hMM)
      have hSQ := hmoQ.sh hSM
      have h10 := hMQ.1.2.1
      have i49 : ml_I Q 49 = pl_b49 A M (some q) := by rw [hQ]; exact pl_fm2_49 _ _ _ _
      obtain ⟨Y, hY⟩ : ∃ Y, Y = pl_cM Q r (nI (pl_N A 0 1 0)) := ⟨_, rfl⟩
      have hmoY : pl_mo M Y := by rw [hY]; exact hmoQ.trans (pl_cM_mo Q r _)
      have hSY := hmoY.sh hSM
      have hYI : ∀ a, a ≠ 35 → a ≠ 36 → ml_I Y a = ml_I Q a := fun a h1 h2 => by
        rw [hY]; unfold pl_cM
        rw [pl_I_wI, if_neg h2]; funext j; rw [pl_I_sI, if_neg (fun z => h1 z.1)]
      have hY36 : ml_I Y 36 = pl_z Q r 48 := by rw [hY]; unfold pl_cM; rw [pl_I_wI, if_pos rfl]
      have hY35 : ml_I Y 35 = ml_I (pl_cM Q r (nI (pl_N A 0 1 0))) 35 := by rw [hY]
      have hYJ : ml_J Y = ml_J Q := by rw [hY]; rfl
      have hg36 : ∀ t, pl_up (fun x => if 48 * r ≤ x ∧ x < 48 * r + t then nI (q.2.getD (x - 48 * r) 0) else ml_I Y 36 x) (48 * r + t) (nI (q.2.getD t 0)) = fun x => if 48 * r ≤ x ∧ x < 48 * r + (t + 1) then nI (q.2.getD (x - 48 * r) 0) else ml_I Y 36 x := fun t => by
        funext x
        unfold pl_up
        by_cases hx : x = 48 * r + t
        · rw [if_pos hx, if_pos (by omega), show x - 48 * r = t by omega]
        · rw [if_neg hx]
          show (if 48 * r ≤ x ∧ x < 48 * r + t then nI (q.2.getD (x - 48 * r) 0) else ml_I Y 36 x) = _
          by_cases h2 : 48 * r ≤ x ∧ x < 48 * r + t
          · rw [if_pos h2, if_pos (by omega)]
          · rw [if_neg h2, if_neg (by omega)]
      have e48 : (48 : Int32) = nI 48 := rfl
      have hrow := pl_for (F := fun fu t (_ : Unit) => fX11_share_95 fu 33 (nI r) (nI q.1) (nI t) (pl_wI Y 36 (fun x => if 48 * r ≤ x ∧ x < 48 * r + t then nI (q.2.getD (x - 48 * r) 0) else ml_I Y 36 x))) (R := some (nI q.1, pl_wI Y 36 (fun x => if 48 * r ≤ x ∧ x < 48 * r + pl_N A 0 1 0 then nI (q.2.getD (x - 48 * r) 0) else ml_I Y 36 x))) (pl_N A 0 1 0) (fun _ => ()) (fun fu t ht => ?_) (fun fu => ?_) ml_fu (by rw [pl_fu]; omega)
      · have e0 : pl_wI Y 36 (fun x => if 48 * r ≤ x ∧ x < 48 * r + 0 then nI (q.2.getD (x - 48 * r) 0) else ml_I Y 36 x) = Y := by
          have : (fun x => if 48 * r ≤ x ∧ x < 48 * r + 0 then nI (q.2.getD (x - 48 * r) 0) else ml_I Y 36 x) = ml_I Y 36 := by funext x; rw [if_neg (by omega)]
          rw [this, pl_wI_0]
        rw [e0] at hrow
        have hrow' : fX11_share_95 ml_fu 33 (nI r) (nI q.1) 0 Y = some (nI q.1, pl_wI Y 36 (fun x => if 48 * r ≤ x ∧ x < 48 * r + pl_N A 0 1 0 then nI (q.2.getD (x - 48 * r) 0) else ml_I Y 36 x)) := hrow
        refine ⟨pl_wI Y 36 (fun x => if 48 * r ≤ x ∧ x < 48 * r + pl_N A 0 1 0 then nI (q.2.getD (x - 48 * r) 0) else ml_I Y 36 x), ?_, hmoY.wI (a := 36) (by decide), ?_⟩
        · rw [← hrow']
          have hbg := pl_beginM hSM
          have hcl := pl_clear hSQ r (show r < 6 by omega) (nI (pl_N A 0 1 0))
          rw [← hY] at hcl
          simp (disch := omega) only [fX11_share, ↓pl_let, pl_b1, pl_b2, ↓reduceIte, pl_isRowM, hr5, and_self, if_true, pl_10, if_false, pl_k33 hSM, hbg, ho, fX11_share_75, hn9, pl_k33 hSQ, h10, hcl]
        · have hkk : (∀ a ∈ [34, 38, 39, 40, 41, 42, 46, 51, 53, 60], ml_I (pl_wI Y 36 (fun x => if 48 * r ≤ x ∧ x < 48 * r + pl_N A 0 1 0 then nI (q.2.getD (x - 48 * r) 0) else ml_I Y 36 x)) a = ml_I Q a) ∧ (∀ k ∈ [0, 2, 9, 10, 11, 23, 24, 34, 37, 46], ml_I (pl_wI Y 36 (fun x => if 48 * r ≤ x ∧ x < 48 * r + pl_N A 0 1 0 then nI (q.2.getD (x - 48 * r) 0) else ml_I Y 36 x)) 33 k = ml_I Q 33 k) ∧ ml_J (pl_wI Y 36 (fun x => if 48 * r ≤ x ∧ x < 48 * r + pl_N A 0 1 0 then nI (q.2.getD (x - 48 * r) 0) else ml_I Y 36 x)) 33 3 = ml_J Q 33 3 := ⟨fun a ha => by
            have h9 : a ≠ 35 ∧ a ≠ 36 := by revert ha; revert a; decide
            rw [pl_I_wI, if_neg h9.2, hYI a h9.1 h9.2], fun k _ => by rw [pl_I_wI, if_neg (by decide), hYI 33 (by decide) (by decide)], by rw [pl_J_wI, hYJ]⟩
          refine pl_rowMM hMQ hW (by omega) (by rw [pl_I_wI, if_neg (by decide), hY35]) (g := fun x => if 48 * r ≤ x ∧ x < 48 * r + pl_N A 0 1 0 then nI (q.2.getD (x - 48 * r) 0) else ml_I Y 36 x) (by rw [pl_I_wI, if_pos rfl]) (fun y hy => ?_) (fun j hj => ?_) hkk
          · show (if 48 * r ≤ y ∧ y < 48 * r + pl_N A 0 1 0 then _ else ml_I Y 36 y) = _
            rw [if_neg (by omega), hY36]
            unfold pl_z
            rw [if_neg hy]
          · show (if 48 * r ≤ 48 * r + j ∧ 48 * r + j < 48 * r + pl_N A 0 1 0 then _ else _) = _
            rw [if_pos (by omega), show 48 * r + j - 48 * r = j by omega]
      · show fX11_share_95 (fu + 1) 33 (nI r) (nI q.1) (nI t) (pl_wI Y 36 (fun x => if 48 * r ≤ x ∧ x < 48 * r + t then nI (q.2.getD (x - 48 * r) 0) else ml_I Y 36 x)) = fX11_share_95 fu 33 (nI r) (nI q.1) (nI (t + 1)) (pl_wI Y 36 (fun x => if 48 * r ≤ x ∧ x < 48 * r + (t + 1) then nI (q.2.getD (x - 48 * r) 0) else ml_I Y 36 x))
        have i49t : ml_I Y 49 t = nI (q.2.getD t 0) := by
          rw [hYI 49 (by decide) (by decide), i49]
          show (if t < pl_N A 0 1 0 then nI (q.2.getD t 0) else ml_I M 49 t) = _
          rw [if_pos ht]
        have i10 : ml_I Y 33 10 = nI (pl_N A 0 1 0) := by rw [hYI 33 (by decide) (by decide), h10]
        have w33 : ∀ g, ml_I (pl_wI Y 36 g) 33 = ml_I Y 33 := fun g => by rw [pl_I_wI, if_neg (by decide)]
        have w49 : ∀ g, ml_I (pl_wI Y 36 g) 49 = ml_I Y 49 := fun g => by rw [pl_I_wI, if_neg (by decide)]
        rw [← hg36 t]
        simp (disch := omega) only [fX11_share_95, pl_K_wI, pl_k33 hSY, if_true, w33, i10, nI_leI, show ¬ pl_N A 0 1 0 ≤ t by omega, if_false, ↓pl_let, pl_b1, pl_b2, ↓reduceIte, pl_R_wI, pl_r33_5 hSY, pl_r33_29 hSY, pl_in, nI_clamp, pl_k49 hSY, pl_k36 hSY, show t < 8 by omega, and_self, w49, i49t, e48, pk_mul, nI_add, show 48 * r + t < 288 by omega, pl_wI_sI, pl_up_0, nI_1]
      · have i10 : ml_I Y 33 10 = nI (pl_N A 0 1 0) := by rw [hYI 33 (by decide) (by decide), h10]
        have w33 : ∀ g, ml_I (pl_wI Y 36 g) 33 = ml_I Y 33 := fun g => by rw [pl_I_wI, if_neg (by decide)]
        simp (disch := omega) only [fX11_share_95, pl_K_wI, pl_k33 hSY, if_true, w33, i10, nI_leI, Nat.le_refl]

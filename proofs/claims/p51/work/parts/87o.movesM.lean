/-! MOVES: the reference. -/
def pl_oo (M : ml_M) (f : Nat → Int32) (t : Nat) : Nat → Int32 := fun j => if j < t then f j else ml_I M 48 j
theorem pl_oo_up (M : ml_M) (f : Nat → Int32) (t : Nat) : pl_up (pl_oo M f t) t (f t) = pl_oo M f (t + 1) := by
  funext j
  unfold pl_up
  by_cases h : j = t
  · rw [if_pos h]
    show f t = if j < t + 1 then f j else ml_I M 48 j
    rw [if_pos (by omega), h]
  · rw [if_neg h]
    show (if j < t then f j else ml_I M 48 j) = if j < t + 1 then f j else ml_I M 48 j
    by_cases h2 : j < t
    · rw [if_pos h2, if_pos (by omega)]
    · rw [if_neg h2, if_neg (by omega)]
def pl_mvP (A : pl_A) (M : ml_M) (f : Nat → Int32) (l2 : Int32) (R : Option (Int32 × ml_M)) : Prop := (∃ w, w.length = pl_N A 0 1 0 ∧ pl_fit A f w ∧ R = fX11_moves_124 33 l2 1 (pl_wI M 48 (pl_oo M f (pl_N A 0 1 0)))) ∨ ((∀ w, ¬ (w.length = pl_N A 0 1 0 ∧ pl_fit A f w)) ∧ ∃ o, R = fX11_moves_124 33 l2 0 (pl_wI M 48 o))
theorem pl_moves55 {A : pl_A} {M : ml_M} (hS : pl_Sh M) (hW : pl_W A) (hM : pl_M A M) {r : Nat} (hr : r < 6) (hn : pl_N A 0 1 0 + 1 = pl_N A 8 r 0) (l2 : Int32) : pl_mvP A M (pl_V A 0 r) l2 (fX11_moves_55 ml_fu 33 (nI r) l2 1 0 M) := by
  have hww := hW.1
  unfold pl_Wc at hww
  have k33 := pl_k33 hS
  have k36 := pl_k36 hS
  have k48 := pl_k48 hS
  have r5 := pl_r33_5 hS
  have r27 := pl_r33_27 hS
  have e48 : (48 : Int32) = nI 48 := rfl
  obtain ⟨f, hf⟩ : ∃ f, f = pl_V A 0 r := ⟨_, rfl⟩
  have h36 : ∀ t, t < pl_N A 0 1 0 → ml_I M 36 (48 * r + t) = f t := fun t ht => by rw [hf]; exact (hM.2.1 r hr).2 t (by omega)
  have hSo : ∀ o, pl_Sh (pl_wI M 48 o) := fun o => hS.wI 48 o
  have hMo : ∀ o, pl_M A (pl_wI M 48 o) := fun o => ((pl_kp.refl M).wI (by decide)).M hM
  have i10 : ∀ o, ml_I (pl_wI M 48 o) 33 10 = nI (pl_N A 0 1 0) := fun o => (hMo o).1.2.1
  have i36 : ∀ o, ml_I (pl_wI M 48 o) 36 = ml_I M 36 := fun o => by rw [pl_I_wI, if_neg (by decide)]
  have i48 : ∀ o, ml_I (pl_wI M 48 o) 48 = o := fun o => by rw [pl_I_wI, if_pos rfl]
  rw [← hf]
  have hrow : ∀ o t, t < pl_N A 0 1 0 → fX11_rowAt 33 (nI r) (nI t) (pl_wI M 48 o) = some (f t) := fun o t ht => by
    have := h36 t ht
    simp (disch := omega) only [fX11_rowAt, ↓pl_let, pl_b1, pl_b2, ↓reduceIte, pl_K_wI, k33, if_true, pl_R_wI, r5, e48, pk_mul, nI_add, pl_in, nI_clamp, k36, show 48 * r + t < 288 by omega, and_self, i36, this]
  -- the end when one is refused
  have hend : ∀ fu t o, fX11_moves_55 (fu + 1) 33 (nI r) l2 0 (nI t) (pl_wI M 48 o) = fX11_moves_124 33 l2 0 (pl_wI M 48 o) := fun fu t o => by
    have : fX11_moves_55 (fu + 1) 33 (nI r) l2 0 (nI t) (pl_wI M 48 o) = if nI (pl_N A 0 1 0) ≤ nI t then fX11_moves_124 33 l2 0 (pl_wI M 48 o) else fX11_moves_124 33 l2 0 (pl_wI M 48 o) := by
      simp only [fX11_moves_55, pl_K_wI, k33, if_true, i10]
    rw [this]
    split <;> rfl
  have hmain : ∀ k w fu, w.length + k = pl_N A 0 1 0 → k + 1 < fu → pl_fit A f w → pl_mvP A M f l2 (fX11_moves_55 fu 33 (nI r) l2 1 (nI w.length) (pl_wI M 48 (pl_oo M f w.length))) := by
    intro k
    induction k with
    | zero =>
      intro w fu hl hfu hfit
      obtain ⟨fu, rfl⟩ : ∃ q, fu = q + 1 := ⟨fu - 1, by omega⟩
      left
      refine ⟨w, by omega, hfit, ?_⟩
      rw [Nat.add_zero] at hl
      rw [hl]
      simp (disch := omega) only [fX11_moves_55, pl_K_wI, k33, if_true, i10, nI_leI, Nat.le_refl]
    | succ k ih =>
      intro w fu hl hfu hfit
      obtain ⟨fu, rfl⟩ : ∃ q, fu = q + 1 := ⟨fu - 1, by omega⟩
      obtain ⟨fu', rfl⟩ : ∃ q, fu = q + 1 := ⟨fu - 1, by omega⟩
      have hlen : w.length < pl_N A 0 1 0 := by omega
      have hgo : ∀ w', w'.length = pl_N A 0 1 0 → pl_fit A f w' → ∃ l v, w' = w ++ l :: v ∧ f w.length = nI l ∧ l < pl_N A 0 0 0 := fun w' hw1 hw2 => by
        obtain ⟨v, hv⟩ := pl_fit_app hW hfit hw2 (by omega)
        cases v with
        | nil =>
          exfalso
          rw [hv, List.append_nil] at hw1
          omega
        | cons l v =>
          refine ⟨l, v, hv, ?_, ?_⟩
          · rw [hw2.2.2 w.length (by omega), hv, pl_getD_len]
          · exact hw2.2.1 l (by rw [hv]; exact List.mem_append_right _ List.mem_cons_self)
      have hro := hrow (pl_oo M f w.length) w.length hlen
      have o1t : pl_oo M f (w.length + 1) w.length = f w.length := if_pos (Nat.lt_succ_self _)
      have hlod := pl_isLodM (hSo (pl_oo M f (w.length + 1))) hW (hMo _) (f w.length)
      rcases pl_rng1 (f w.length) (pl_N A 0 0 0) (by omega) with hno | ⟨l, hln, hx⟩
      · right
        refine ⟨fun w' hw' => ?_, pl_oo M f (w.length + 1), ?_⟩
        · obtain ⟨l, v, -, hx, hln⟩ := hgo w' hw'.1 hw'.2
          exact hno (by rw [hx]; exact ⟨nI_pos' (by omega), nI_lt hln (by omega)⟩)
        · rw [if_neg hno] at hlod
          refine Eq.trans (b := fX11_moves_55 (fu' + 1) 33 (nI r) l2 0 (nI (w.length + 1)) (pl_wI M 48 (pl_oo M f (w.length + 1)))) ?_ (hend fu' (w.length + 1) _)
          rw [fX11_moves_55]
          simp (disch := omega) only [fX11_moves_116, fX11_moves_117, pl_K_wI, k33, if_true, i10, nI_leI, show ¬ pl_N A 0 1 0 ≤ w.length by omega, if_false, pl_10, ↓pl_let, pl_b1, pl_b2, ↓reduceIte, pl_R_wI, r27, hro, pl_in, nI_clamp, k48, show w.length < 8 by omega, and_self, pl_wI_sI, pl_up_0, pl_oo_up, i48, o1t, hlod, nI_1]
      · have hyes : 0 ≤ nI l ∧ nI l < nI (pl_N A 0 0 0) := ⟨nI_pos' (by omega), nI_lt hln (by omega)⟩
        rw [hx, if_pos hyes] at hlod
        have htk := pl_takenM (hSo (pl_oo M f (w.length + 1))) (nI l) (t := w.length) (by omega)
        have hany : pl_any (fun i => decide (ml_I (pl_wI M 48 (pl_oo M f (w.length + 1))) 48 i = nI l)) w.length = decide (l ∈ w) := by
          rw [← pl_any_mem]
          have he : ∀ n, n ≤ w.length → pl_any (fun i => decide (ml_I (pl_wI M 48 (pl_oo M f (w.length + 1))) 48 i = nI l)) n = pl_any (fun t => decide (w.getD t 0 = l)) n := by
            intro n
            induction n with
            | zero => intro _; rfl
            | succ n ihn =>
              intro hn
              rw [pl_any1, pl_any1, ihn (by omega), i48]
              congr 1
              have h1 : pl_oo M f (w.length + 1) n = nI (w.getD n 0) := by
                have : pl_oo M f (w.length + 1) n = f n := if_pos (by omega)
                rw [this, hfit.2.2 n (by omega)]
              have gl := pl_get_lt hfit.2.1 (t := n) (by omega)
              rw [h1]
              by_cases hc : w.getD n 0 = l
              · rw [hc, decide_eq_true rfl, decide_eq_true rfl]
              · rw [decide_eq_false hc, decide_eq_false (by rw [nI_eq (by omega) (by omega)]; exact hc)]
          exact he _ (Nat.le_refl _)
        rw [hany] at htk
        have o1t' : pl_oo M f (w.length + 1) w.length = nI l := by rw [o1t, hx]
        by_cases hlw : l ∈ w
        · rw [if_pos (decide_eq_true hlw)] at htk
          right
          refine ⟨fun w' hw' => ?_, pl_oo M f (w.length + 1), ?_⟩
          · obtain ⟨l', v, hv, hx', hln'⟩ := hgo w' hw'.1 hw'.2
            rw [hx, nI_eq (by omega) (by omega)] at hx'
            rw [← hx'] at hv
            have hnd := hw'.2.1
            rw [hv, List.nodup_append] at hnd
            exact hnd.2.2 l hlw l List.mem_cons_self rfl
          · refine Eq.trans (b := fX11_moves_55 (fu' + 1) 33 (nI r) l2 0 (nI (w.length + 1)) (pl_wI M 48 (pl_oo M f (w.length + 1)))) ?_ (hend fu' (w.length + 1) _)
            rw [fX11_moves_55]
            simp (disch := omega) only [fX11_moves_116, fX11_moves_117, pl_K_wI, k33, if_true, i10, nI_leI, show ¬ pl_N A 0 1 0 ≤ w.length by omega, if_false, pl_10, ↓pl_let, pl_b1, pl_b2, ↓reduceIte, pl_R_wI, r27, hro, pl_in, nI_clamp, k48, show w.length < 8 by omega, and_self, pl_wI_sI, pl_up_0, pl_oo_up, i48, o1t', hlod, htk, nI_1]
        · rw [if_neg (by rw [decide_eq_false hlw]; decide)] at htk
          have hlen1 : (w ++ [l]).length = w.length + 1 := by rw [List.length_append, List.length_singleton]
          have hih := ih (w ++ [l]) (fu' + 1) (by rw [hlen1]; omega) (by omega) ⟨?_, fun x hx => ?_, fun i hi => ?_⟩
          · rw [hlen1] at hih
            have e : fX11_moves_55 (fu' + 1 + 1) 33 (nI r) l2 1 (nI w.length) (pl_wI M 48 (pl_oo M f w.length)) = fX11_moves_55 (fu' + 1) 33 (nI r) l2 1 (nI (w.length + 1)) (pl_wI M 48 (pl_oo M f (w.length + 1))) := by
              rw [fX11_moves_55]
              simp (disch := omega) only [fX11_moves_117, pl_K_wI, k33, if_true, i10, nI_leI, show ¬ pl_N A 0 1 0 ≤ w.length by omega, if_false, pl_10, ↓pl_let, pl_b1, pl_b2, ↓reduceIte, pl_R_wI, r27, hro, pl_in, nI_clamp, k48, show w.length < 8 by omega, and_self, pl_wI_sI, pl_up_0, pl_oo_up, i48, o1t', hlod, htk, nI_1]
            rw [e]; exact hih
          · rw [List.nodup_append]
            refine ⟨hfit.1, List.nodup_cons.mpr ⟨by simp, List.nodup_nil⟩, fun x hx y hy => ?_⟩
            rw [List.mem_singleton] at hy
            rw [hy]
            exact fun z => hlw (by rw [← z]; exact hx)
          · rcases List.mem_append.mp hx with hx | hx
            · exact hfit.2.1 x hx
            · rw [List.mem_singleton] at hx; rw [hx]; exact hln
          · rw [hlen1] at hi
            by_cases hi2 : i = w.length
            · rw [hi2, pl_getD_len, hx]
            · rw [pl_getD_app _ _ (by omega), hfit.2.2 i (by omega)]
  have hm := hmain (pl_N A 0 1 0) [] ml_fu (by rw [List.length_nil]; omega) (by rw [pl_fu]; omega) ⟨List.nodup_nil, fun x hx => by simp at hx, fun i hi => by simp at hi⟩
  have e0 : pl_oo M f ([] : List Nat).length = ml_I M 48 := by
    funext j; exact if_neg (Nat.not_lt_zero j)
  rw [e0, pl_wI_0] at hm
  exact hm

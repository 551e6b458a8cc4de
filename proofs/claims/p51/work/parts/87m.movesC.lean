/-! MOVES: the class's question whether a row is a sharing. -/
def pl_fit (A : pl_A) (f : Nat → Int32) (w : List Nat) : Prop := w.Nodup ∧ (∀ x ∈ w, x < pl_N A 0 0 0) ∧ ∀ i, i < w.length → f i = nI (w.getD i 0)
def pl_isS (A : pl_A) (f : Nat → Int32) (w : List Nat) : Prop := w.length = pl_N A 0 1 0 ∧ pl_fit A f w ∧ pl_good A w = true
theorem pl_getD_e {w : List Nat} {i : Nat} (h : i < w.length) : w.getD i 0 = w[i] := by
  rw [List.getD_eq_getElem?_getD, List.getElem?_eq_getElem h]; rfl
theorem pl_fit_app {A : pl_A} (hW : pl_W A) {f : Nat → Int32} {w w' : List Nat} (h : pl_fit A f w) (h' : pl_fit A f w') (hl : w.length ≤ w'.length) : ∃ v, w' = w ++ v := by
  have hww := hW.1
  unfold pl_Wc at hww
  refine ⟨w'.drop w.length, ?_⟩
  have ht : w'.take w.length = w := by
    refine List.ext_getElem (by rw [List.length_take]; omega) fun i h1 h2 => ?_
    rw [List.getElem_take]
    have e1 := h.2.2 i h2
    have e2 := h'.2.2 i (by omega)
    have b1 := h.2.1 _ (List.getElem_mem h2)
    have b2 := h'.2.1 _ (List.getElem_mem (show i < w'.length by omega))
    rw [pl_getD_e h2] at e1
    rw [pl_getD_e (by omega), e1, nI_eq (by omega) (by omega)] at e2
    exact e2.symm
  have h3 := List.take_append_drop w.length w'
  rw [ht] at h3
  exact h3.symm
def pl_shP (A : pl_A) (m : ml_M) (f : Nat → Int32) (R : Option (Int32 × ml_M)) : Prop := (∃ w c, pl_isS A f w ∧ R = some (1, pl_wI m 20 c)) ∨ ((∀ w, ¬ pl_isS A f w) ∧ ∃ c, R = some (0, pl_wI m 20 c))
theorem pl_isShC {A : pl_A} {m : ml_M} (h : pl_Rel A m) (h0 : ml_I m 12 0 = 0) {a : Nat} (ha : 60 < a) (hK : ml_K m a = (20, pl_N A 0 1 0)) : pl_shP A m (ml_I m a) (fX7_isSharing 12 a m) := by
  have hS := h.1
  have hW := h.2.1
  have hww := hW.1
  unfold pl_Wc at hww
  obtain ⟨r1, r6, r7, -, -, -, r17, r18⟩ := pl_CsR h h0
  obtain ⟨c1, c2, c3, c4, c5, c6, c7⟩ := h.2.2.2.2.2.2.1
  have hx0 : pl_sx0 A m := ⟨hS, r7, ⟨by rw [r1]; exact c3.2.2, fun t ht => by rw [r1]; exact ⟨(c7 t ht).1.1, (c7 t ht).1.2.2, (c7 t ht).2.2.2.1, (c7 t ht).2.2.2.2⟩⟩, r18⟩
  have hsy : ∀ c, pl_sy m (ml_I m 12 1) (ml_I m 13) (ml_I m 14) (ml_I m 15) c = pl_wI m 20 c := fun c => by
    unfold pl_sy
    have e : pl_up (ml_I m 12) 1 (ml_I m 12 1) = ml_I m 12 := by
      funext j; unfold pl_up
      by_cases hj : j = 1
      · rw [if_pos hj, hj]
      · rw [if_neg hj]
    rw [e, pl_wI_0, pl_wI_0, pl_wI_0, pl_wI_0]
  have iA : ∀ c, ml_I (pl_wI m 20 c) a = ml_I m a := fun c => by rw [pl_I_wI, if_neg (by omega)]
  have i12 : ∀ c, ml_I (pl_wI m 20 c) 12 = ml_I m 12 := fun c => by rw [pl_I_wI, if_neg (by decide)]
  have i17 : ∀ c, ml_I (pl_wI m 20 c) 17 = ml_I m 17 := fun c => by rw [pl_I_wI, if_neg (by decide)]
  have hwi : ∀ x M, fX10_within x 0 (nI (pl_N A 0 0 0) - 1) M = some (if 0 ≤ x ∧ x < nI (pl_N A 0 0 0) then 1 else 0) := fun x M => by
    rw [pl_within]; simp (disch := omega) only [pl_l1, pl_le1]
  have k12 := pl_k12 hS
  have k17 := pl_k17 hS
  have k20 := pl_k20 hS
  have q9 := pl_r12_9 hS
  have q12 := pl_r12_12 hS
  have hmain : ∀ r w c fu, w.length + r = pl_N A 0 1 0 → r < fu → pl_fit A (ml_I m a) w → pl_okp A w → (∀ i, i < w.length → c i = nI (w.getD i 0)) → pl_shP A m (ml_I m a) (fX7_isSharing_15 fu 12 a (nI (pl_us w)) (nI w.length) (pl_wI m 20 c)) := by
    intro r
    induction r with
    | zero =>
      intro w c fu hl hfu hfit hok hc
      obtain ⟨fu, rfl⟩ : ∃ q, fu = q + 1 := ⟨fu - 1, by omega⟩
      have hus := pl_us_lt hfit.2.1
      have p8 : 2 ^ pl_N A 0 0 0 ≤ 2 ^ 8 := Nat.pow_le_pow_right (by decide) (by omega)
      have hus2 : pl_us w < 256 := Nat.lt_of_lt_of_le hus p8
      have hcv := r17 _ hus
      have hall : pl_all (fun k => decide (pl_N A 1 (w.getD (pl_N A 3 k 0) 0) 1 ≤ pl_N A 1 (w.getD (pl_N A 3 k 1) 0) 1)) (pl_N A 0 2 0) = true := by
        rw [pl_all_iff]
        intro k hk
        have hp := hW.2.2.2.1 k hk
        exact decide_eq_true (hok k hk (by omega) (by omega))
      have hg : pl_good A w = pl_cov A (pl_us w) := by
        unfold pl_good
        rw [hall, Bool.true_and]; rfl
      by_cases hcov : pl_cov A (pl_us w) = true
      · left
        refine ⟨w, c, ⟨by omega, hfit, by rw [hg, hcov]⟩, ?_⟩
        rw [if_pos hcov] at hcv
        simp (disch := omega) only [fX7_isSharing_15, fX7_isSharing_80, pl_K_wI, k12, if_true, i12, r6, nI_leI, show pl_N A 0 1 0 ≤ w.length by omega, ↓pl_let, pl_b1, pl_b2, ↓reduceIte, pl_R_wI, q9, pl_in, nI_clamp, k17, hus2, and_self, i17, hcv, or_true]
      · right
        refine ⟨fun w' hw' => hcov ?_, c, ?_⟩
        · obtain ⟨v, hv⟩ := pl_fit_app hW hfit hw'.2.1 (by rw [hw'.1]; omega)
          have hv0 : v = [] := by
            have hlen := hw'.1
            rw [hv, List.length_append] at hlen
            exact List.eq_nil_of_length_eq_zero (by omega)
          rw [hv0, List.append_nil] at hv
          have := hw'.2.2
          rw [hv, hg] at this
          exact this
        · rw [if_neg hcov] at hcv
          simp (disch := omega) only [fX7_isSharing_15, fX7_isSharing_80, pl_K_wI, k12, if_true, i12, r6, nI_leI, show pl_N A 0 1 0 ≤ w.length by omega, ↓pl_let, pl_b1, pl_b2, ↓reduceIte, pl_R_wI, q9, pl_in, nI_clamp, k17, hus2, and_self, i17, hcv, true_or]
    | succ r ih =>
      intro w c fu hl hfu hfit hok hc
      obtain ⟨fu, rfl⟩ : ∃ q, fu = q + 1 := ⟨fu - 1, by omega⟩
      have hlen : w.length < pl_N A 0 1 0 := by omega
      -- any sharing goes on from this row
      have hgo : ∀ w', pl_isS A (ml_I m a) w' → ∃ l v, w' = w ++ l :: v ∧ ml_I m a w.length = nI l ∧ l < pl_N A 0 0 0 := fun w' hw' => by
        obtain ⟨v, hv⟩ := pl_fit_app hW hfit hw'.2.1 (by rw [hw'.1]; omega)
        cases v with
        | nil =>
          exfalso
          have hlen2 := hw'.1
          rw [hv, List.append_nil] at hlen2
          omega
        | cons l v =>
          refine ⟨l, v, hv, ?_, ?_⟩
          · rw [hw'.2.1.2.2 w.length (by rw [hw'.1]; exact hlen), hv, pl_getD_len]
          · exact hw'.2.1.2.1 l (by rw [hv]; exact List.mem_append_right _ List.mem_cons_self)
      rcases pl_rng1 (ml_I m a w.length) (pl_N A 0 0 0) (by omega) with hno | ⟨l, hln, hx⟩
      · right
        refine ⟨fun w' hw' => ?_, c, ?_⟩
        · obtain ⟨l, v, -, hx, hln⟩ := hgo w' hw'
          exact hno (by rw [hx]; exact ⟨nI_pos' (by omega), nI_lt hln (by omega)⟩)
        · simp (disch := omega) only [fX7_isSharing_15, pl_K_wI, k12, if_true, i12, r6, nI_leI, show ¬ pl_N A 0 1 0 ≤ w.length by omega, if_false, pl_in, nI_clamp, hK, hlen, and_self, ↓pl_let, pl_b1, pl_b2, ↓reduceIte, iA, r7, hwi, hno]
      · have hyes : 0 ≤ nI l ∧ nI l < nI (pl_N A 0 0 0) := ⟨nI_pos' (by omega), nI_lt hln (by omega)⟩
        have hop := pl_openC0 hW hx0 (v := ml_I m 12 1) (a := ml_I m 13) (b := ml_I m 14) (d := ml_I m 15) (c := c) hlen hfit.2.1 hc
        rw [hsy] at hop
        have hob := pl_opi_lt A hfit.2.1 w.length
        have p8 : 2 ^ pl_N A 0 0 0 ≤ 2 ^ 8 := Nat.pow_le_pow_right (by decide) (by omega)
        have htb := pl_opi_tb A hfit.2.1 l w.length
        rw [decide_eq_true hln, Bool.true_and] at htb
        have hhas := fun M => (pl_has (s := pl_opi A w w.length) (t := l) (by omega) (by omega) M).1
        by_cases hb : (pl_opi A w w.length).testBit l = true
        · have hz : ∀ (M : ml_M) (f : Int32 → Option (Int32 × ml_M)), ml_b1 (fX10_has (nI (pl_opi A w w.length)) (nI l) M) f = f 1 := fun M f => by rw [hhas, hb]; rfl
          rw [hb] at htb
          have hlw : ¬ l ∈ w := fun z => by rw [decide_eq_true z] at htb; simp at htb
          have hopn : pl_opn A w l w.length = true := by
            rw [decide_eq_false hlw] at htb
            simpa using htb.symm
          have hnd : (w ++ [l]).Nodup := by
            rw [List.nodup_append]
            refine ⟨hfit.1, List.nodup_cons.mpr ⟨by simp, List.nodup_nil⟩, fun x hx y hy => ?_⟩
            rw [List.mem_singleton] at hy
            rw [hy]
            exact fun z => hlw (by rw [← z]; exact hx)
          have hlen1 : (w ++ [l]).length = w.length + 1 := by rw [List.length_append, List.length_singleton]
          have hih := ih (w ++ [l]) (pl_up c w.length (nI l)) fu (by rw [hlen1]; omega) (by omega) ⟨hnd, fun x hx => ?_, fun i hi => ?_⟩ (pl_okp_app hW hok hopn) (fun i hi => ?_)
          · have hor : nI (pl_us w) ||| (1 : Int32) <<< (nI l &&& 31) = nI (pl_us (w ++ [l])) := by rw [pl_us_app, pl_shl1 (by omega), pl_or]
            rw [hlen1] at hih
            have e : fX7_isSharing_15 (fu + 1) 12 a (nI (pl_us w)) (nI w.length) (pl_wI m 20 c) = fX7_isSharing_15 fu 12 a (nI (pl_us (w ++ [l]))) (nI (w.length + 1)) (pl_wI m 20 (pl_up c w.length (nI l))) := by
              simp (disch := omega) only [fX7_isSharing_15, pl_K_wI, k12, if_true, i12, r6, nI_leI, show ¬ pl_N A 0 1 0 ≤ w.length by omega, if_false, pl_in, nI_clamp, hK, hlen, and_self, ↓pl_let, pl_b1, pl_b2, ↓reduceIte, iA, r7, hwi, hx, hyes, pl_10, hop, ↓hz, pl_R_wI, q12, k20, show w.length < 8 by omega, pl_wI_sI, pl_up_0, hor, nI_1]
            rw [e]; exact hih
          · rcases List.mem_append.mp hx with hx | hx
            · exact hfit.2.1 x hx
            · rw [List.mem_singleton] at hx; rw [hx]; exact hln
          · rw [hlen1] at hi
            by_cases hi2 : i = w.length
            · rw [hi2, pl_getD_len, hx]
            · rw [pl_getD_app _ _ (by omega), hfit.2.2 i (by omega)]
          · rw [hlen1] at hi
            by_cases hi2 : i = w.length
            · rw [hi2, pl_getD_len, pl_up_k]
            · rw [pl_up_n _ _ hi2, pl_getD_app _ _ (by omega), hc i (by omega)]
        · right
          have hb0 : (pl_opi A w w.length).testBit l = false := by simpa using hb
          have hz : ∀ (M : ml_M) (f : Int32 → Option (Int32 × ml_M)), ml_b1 (fX10_has (nI (pl_opi A w w.length)) (nI l) M) f = f 0 := fun M f => by rw [hhas, hb0]; rfl
          refine ⟨fun w' hw' => ?_, c, ?_⟩
          · obtain ⟨l', v, hv, hx', hln'⟩ := hgo w' hw'
            rw [hx, nI_eq (by omega) (by omega)] at hx'
            rw [← hx'] at hv
            rw [hb0] at htb
            by_cases hlw : l ∈ w
            · have hnd := hw'.2.1.1
              rw [hv, List.nodup_append] at hnd
              exact hnd.2.2 l hlw l List.mem_cons_self rfl
            · rw [decide_eq_false hlw] at htb
              have hopn : pl_opn A w l w.length = false := by simpa using htb.symm
              have := pl_good_not (v := v) hopn
              rw [← hv, hw'.2.2] at this
              exact absurd this (by decide)
          · simp (disch := omega) only [fX7_isSharing_15, pl_K_wI, k12, if_true, i12, r6, nI_leI, show ¬ pl_N A 0 1 0 ≤ w.length by omega, if_false, pl_in, nI_clamp, hK, hlen, and_self, ↓pl_let, pl_b1, pl_b2, ↓reduceIte, iA, r7, hwi, hx, hyes, pl_10, hop, ↓hz]
  have hm := hmain (pl_N A 0 1 0) [] (ml_I m 20) ml_fu (by rw [List.length_nil]; omega) (by rw [pl_fu]; omega) ⟨List.nodup_nil, fun x hx => by simp at hx, fun i hi => by simp at hi⟩ (fun k _ h => by simp at h) (fun i hi => by simp at hi)
  rw [pl_wI_0] at hm
  have hK1 : (ml_K m a).1 = 20 := by rw [hK]
  have hK2 : (ml_K m a).2 = pl_N A 0 1 0 := by rw [hK]
  unfold fX7_isSharing
  rw [if_pos hK1, k12, if_pos rfl, hK2, pl_ofN, r6, if_pos rfl]
  exact hm
/-- only the chosen changed -/
theorem pl_Rel.c20 {A : pl_A} {m : ml_M} (h : pl_Rel A m) (c : Nat → Int32) : pl_Rel A (pl_wI m 20 c) := by
  have hx : pl_ex [20] m (pl_wI m 20 c) := by
    refine ⟨Nat.le_refl _, fun _ _ => rfl, fun b _ hb => ⟨?_, rfl⟩⟩
    rw [pl_I_wI, if_neg (fun z => hb (by rw [z]; exact List.mem_cons_self))]
  have d : pl_dif [] [] [] A A := ⟨fun _ _ _ => rfl, fun _ _ => rfl, fun _ _ => rfl⟩
  obtain ⟨fr, ft, fh, fi, fn, fk, fs, fy⟩ := pl_Cd d h.1 h.2.2.2 hx (by decide) rfl
  refine h.sg ⟨hx.1, hx.2.1, fun b hb hn => hx.2.2 b hb (fun z => hn ?_)⟩ (fun b h1 h2 => ⟨by rw [pl_I_wI, if_neg (by omega)], rfl⟩) rfl (fun _ _ => rfl) (fs (by decide))
  rw [List.mem_singleton] at z
  rw [z]; decide

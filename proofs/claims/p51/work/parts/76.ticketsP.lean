/-! TICKETS: the class's fewest travellers, its answers. -/
theorem pl_pp_st (L : Nat → Nat) {s s' x : Nat} (hx : x < s) (h : s ≤ s') : pl_pp L s' x = pl_pp L s x := by
  induction s' with
  | zero => omega
  | succ s' ih =>
    by_cases hs : s = s' + 1
    · rw [hs]
    · rw [pl_pp1, if_neg (by omega), ih (by omega)]
def pl_ft2 (L : Nat → Nat) (s : Nat) : Int32 := nI (pl_pp L (s + 1) s)
theorem pl_peopleC {m : ml_M} (hS : pl_Sh m) {n N : Nat} (hn : n ≤ 10) (hN : N = 2 ^ n) (h26 : ml_I m 26 1 = nI n) {L : Nat → Nat} (hL : ∀ k, k < n → L (2 ^ k) ≠ 0) (hL1 : ∀ s, L s < 2 ^ n) (h29 : ∀ s, 1 ≤ s → s < N → ml_I m 29 s = nI (L s)) (h31 : ml_I m 31 0 = 0) :
    fX3_fewestPeople_6 ml_fu 26 1 m = some (nI (pl_pp L N (N - 1)), pl_wI m 31 (pl_tw (ml_I m 31) (pl_ft2 L) 1 N)) := by
  have p1 : 1 ≤ N := by rw [hN]; exact Nat.one_le_two_pow
  have p2 : 2 ^ n ≤ 1024 := Nat.le_trans (Nat.pow_le_pow_right (by decide) hn) (by decide)
  have e1 : (1 : Int32) = nI 1 := rfl
  have e31 : (31 : Int32) = nI 31 := rfl
  have hI26 : ∀ g, ml_I (pl_wI m 31 g) 26 = ml_I m 26 := fun g => by rw [pl_I_wI, if_neg (by decide)]
  have hI29 : ∀ g, ml_I (pl_wI m 31 g) 29 = ml_I m 29 := fun g => by rw [pl_I_wI, if_neg (by decide)]
  have hI31 : ∀ g, ml_I (pl_wI m 31 g) 31 = g := fun g => by rw [pl_I_wI, if_pos rfl]
  have k26 := pl_k26 hS
  have k29 := pl_k29 hS
  have k31 := pl_k31 hS
  have r3 := pl_r26_3 hS
  have r5 := pl_r26_5 hS
  have ei : ∀ (K : Nat → Int32 → ml_M → Option (Int32 × ml_M)) (s : Nat) (G : Nat → Int32), 1 ≤ s → s < N → (∀ y, y < s → G y = nI (pl_pp L s y)) → ∀ f p v fu, p < f → f ≤ fu → p &&& s = p → v ≤ 100 → fX3_fewestPeople_28 K fu 26 (nI s) (nI p) (pl_wI m 31 (fun y => if y = s then nI v else G y)) = K 26 (nI (s + 1)) (pl_wI m 31 (fun y => if y = s then nI (pl_pf (pl_gp L (pl_pp L s) s) s f p v) else G y)) := by
    intro K s G hs1 hs hG f
    induction f with
    | zero => intro p v fu hp; omega
    | succ f ih =>
      intro p v fu hp hfu hsub hv
      obtain ⟨fu, rfl⟩ : ∃ k, fu = k + 1 := ⟨fu - 1, by omega⟩
      have hps : p ≤ s := by rw [← hsub]; exact Nat.and_le_right
      rw [pl_pf1]
      by_cases h0 : p = 0
      · rw [if_pos h0]
        simp (disch := omega) only [fX3_fewestPeople_28, fX3_fewestPeople_77, pl_leZ, eq_true h0, if_true, e1, nI_add]
      · rw [if_neg h0]
        have hlt := pl_part_lt (s := s) (p := p) (by omega)
        have hgv : pl_gp L (pl_pp L s) s p v ≤ v := by unfold pl_gp; split <;> omega
        rw [← ih ((p - 1) &&& s) (pl_gp L (pl_pp L s) s p v) fu (by omega) (by omega) (pl_part_sub p s) (by omega)]
        have hnx : nI p - nI 1 = nI (p - 1) := pl_sub (by omega)
        have hlp := hL1 p
        have h29p := h29 p (by omega) (by omega)
        by_cases hl : L p = 0
        · have hg : pl_gp L (pl_pp L s) s p v = v := by unfold pl_gp; rw [if_neg (fun z => z.1 hl)]
          rw [hg]
          simp (disch := omega) only [fX3_fewestPeople_28, fX3_fewestPeople_68, ↓pl_let, pl_b1, pl_b2, ↓reduceIte, pl_leZ, h0, if_false, pl_K_wI, k26, k29, if_true, pl_R_wI, r3, pl_in, nI_clamp, show p < 1024 by omega, and_self, hI29, h29p, hl, pl_eq0, e1, hnx, pl_and]
        · have hxl := pl_xor_lt hsub (by omega)
          have hdn := pl_andn hsub
          rw [e1] at hdn
          have hFx := hG (s ^^^ p) hxl
          have hF100 := pl_pp_100 L s (s ^^^ p)
          have hsx : ¬ s ^^^ p = s := by omega
          have hv' : (if nI (pl_pp L s (s ^^^ p) + 1) < nI v then nI (pl_pp L s (s ^^^ p) + 1) else nI v) = nI (pl_gp L (pl_pp L s) s p v) := by
            unfold pl_gp
            by_cases hc : pl_pp L s (s ^^^ p) + 1 < v
            · rw [if_pos ((nI_ltI (by omega) (by omega)).mpr hc), if_pos ⟨hl, hc⟩]
            · rw [if_neg (fun z => hc ((nI_ltI (by omega) (by omega)).mp z)), if_neg (fun z => hc z.2)]
          have hu := pl_upd2 G s (nI v) (nI (pl_gp L (pl_pp L s) s p v))
          simp (disch := omega) only [fX3_fewestPeople_28, fX3_fewestPeople_68, ↓pl_let, pl_b1, pl_b2, ↓reduceIte, pl_leZ, h0, if_false, pl_K_wI, k26, k29, k31, if_true, pl_R_wI, r3, r5, pl_in, nI_clamp, show p < 1024 by omega, show s < 1024 by omega, and_self, hI29, h29p, hl, pl_eq0, hdn, show s ^^^ p < 1024 by omega, hI31, hsx, hFx, e1, nI_add, hv', pl_wI_sI, hu, hnx, pl_and]
  have hsh : (1 : Int32) <<< (nI n &&& 31) = nI N := by rw [pl_shl1 (by omega), hN]
  have ho := pl_for (F := fun fu j (_ : Unit) => fX3_fewestPeople_6 fu 26 (nI (1 + j)) (pl_wI m 31 (pl_tw (ml_I m 31) (pl_ft2 L) 1 (1 + j)))) (R := some (nI (pl_pp L N (N - 1)), pl_wI m 31 (pl_tw (ml_I m 31) (pl_ft2 L) 1 N))) (N - 1) (fun _ => ()) (fun fu j hj => ?_) (fun fu => ?_) ml_fu (by rw [pl_fu]; omega)
  · rw [Nat.add_zero, pl_tw_0, pl_wI_0] at ho
    exact ho
  · show fX3_fewestPeople_6 (fu + 1) 26 (nI (1 + j)) (pl_wI m 31 (pl_tw (ml_I m 31) (pl_ft2 L) 1 (1 + j))) = fX3_fewestPeople_6 fu 26 (nI (1 + (j + 1))) (pl_wI m 31 (pl_tw (ml_I m 31) (pl_ft2 L) 1 (1 + (j + 1))))
    obtain ⟨s, hs⟩ : ∃ s, s = 1 + j := ⟨_, rfl⟩
    rw [show 1 + (j + 1) = s + 1 by omega, ← hs]
    have h := ei (fX3_fewestPeople_6 fu) s (pl_tw (ml_I m 31) (pl_ft2 L) 1 s) (by omega) (by omega) (fun y hy => by
      by_cases h0 : y = 0
      · have e : pl_pp L s 0 = 0 := by
          rw [pl_pp_st L (show 0 < 1 by omega) (show 1 ≤ s by omega)]; rfl
        unfold pl_tw
        rw [if_neg (by omega), h0, h31, e]; rfl
      · rw [pl_tw_i (by omega), pl_pp_st L (show y < y + 1 by omega) (show y + 1 ≤ s by omega)]; rfl) (s + 1) s n ml_fu (by omega) (by rw [pl_fu]; omega) (Nat.and_self s) (by omega)
    rw [pl_pp_n L hn hL (by omega) (by omega), pl_tw_1 (ml_I m 31) (pl_ft2 L) (show 1 ≤ s by omega) (nI (pl_pf (pl_gp L (pl_pp L s) s) s (s + 1) s 100)) (by unfold pl_ft2; rw [pl_pp1, if_pos rfl, if_neg (by omega)])] at h
    rw [← h]
    simp (disch := omega) only [fX3_fewestPeople_6, ↓pl_let, pl_b1, pl_b2, ↓reduceIte, pl_K_wI, k26, k31, if_true, hI26, h26, hsh, nI_leI, show ¬ N ≤ s by omega, if_false, pl_R_wI, r5, pl_in, nI_clamp, show s < 1024 by omega, and_self, pl_wI_sI]
  · rw [show 1 + (N - 1) = N by omega]
    have hv : pl_tw (ml_I m 31) (pl_ft2 L) 1 N (N - 1) = nI (pl_pp L N (N - 1)) := by
      by_cases h1 : N = 1
      · unfold pl_tw
        rw [if_neg (by omega), h1, h31]; rfl
      · rw [pl_tw_i (by omega)]; unfold pl_ft2; rw [show N - 1 + 1 = N by omega]
    have hm1 : nI N - nI 1 = nI (N - 1) := pl_sub p1
    have hsh' : nI 1 <<< (nI n &&& 31) = nI N := hsh
    simp (disch := omega) only [fX3_fewestPeople_6, fX3_fewestPeople_83, ↓pl_let, pl_b1, pl_b2, ↓reduceIte, pl_K_wI, k26, k31, if_true, hI26, h26, hsh', nI_leI, Nat.le_refl, pl_R_wI, r5, e1, hm1, pl_in, nI_clamp, show N - 1 < 1024 by omega, and_self, hI31, hv]
/-- only the journeys' own cells changed -/
theorem pl_Rel.jn {A : pl_A} {m m1 : ml_M} (h : pl_Rel A m) (hx : pl_ex [26, 27, 28, 29, 30, 31] m m1) (hco : pl_co m m1) (hJ : ml_J m1 1 = ml_J m 1) (h26 : ml_R m1 26 = ml_R m 26) (h31 : ml_I m1 31 0 = 0) : pl_Md A A m1 := by
  obtain ⟨hS, hW, hM, hC⟩ := h
  have hn := hS.2.2
  have d : pl_dif [] [] [] A A := ⟨fun _ _ _ => rfl, fun _ _ => rfl, fun _ _ => rfl⟩
  have e : ∀ a, a ≤ 60 → a ∉ [26, 27, 28, 29, 30, 31] → ml_I m1 a = ml_I m a ∧ ml_R m1 a = ml_R m a := fun a ha hn => hx.2.2 a (by omega) hn
  obtain ⟨fr, ft, fh, fi, fn, fk, fs, -⟩ := pl_Cd d hS hC hx (by decide) (by rw [(e 1 (by decide) (by decide)).2])
  refine ⟨hx.sh hS (fun q hq hm => ?_), hW, hco.m hM, ?_, fr (by decide), ft (by decide), fh (by decide), fi (by decide), fn (by decide), fk (by decide), fs (by decide), ?_, h31⟩
  · have h0 : ∀ q ∈ pl_rt, q.1 ∈ [26, 27, 28, 29, 30, 31] → q.1 = 26 := by decide
    rw [h0 q hq hm, h26]
  · have hb := hC.1
    unfold pl_Cb at *
    rw [(e 1 (by decide) (by decide)).1, (e 32 (by decide) (by decide)).1, hJ]
    exact hb
  · have hy := hC.2.2.2.2.2.2.2.2.1
    rw [(e 21 (by decide) (by decide)).1, (e 22 (by decide) (by decide)).1]
    exact hy
/-- what of the tickets is asked -/
def pl_ta (A : pl_A) (S k : Nat) : Nat := pl_N A 4 (pl_rnk (pl_tq A S) (pl_N A 0 3 0) k) 1
def pl_tb2 (A : pl_A) (S k : Nat) : Nat := pl_N A 4 (pl_rnk (pl_tq A S) (pl_N A 0 3 0) k) 2
def pl_tx (A : pl_A) (S k : Nat) : Nat := pl_N A 4 (pl_rnk (pl_tq A S) (pl_N A 0 3 0) k) 5
def pl_tn (A : pl_A) (S : Nat) : Nat := pl_cnt (pl_tq A S) (pl_N A 0 3 0)
def pl_tL (A : pl_A) (S s : Nat) : Nat := pl_tl (pl_tn A S) (pl_ta A S) (pl_tb2 A S) (pl_on (pl_tx A S)) (s + 1) s
theorem pl_tk_b {A : pl_A} (hW : pl_W A) {S k : Nat} (hk : k < pl_tn A S) : pl_rnk (pl_tq A S) (pl_N A 0 3 0) k < pl_N A 0 3 0 ∧ pl_ta A S k ≤ pl_tb2 A S k ∧ pl_tb2 A S k ≤ 99 ∧ pl_tx A S k ≤ 9999 := by
  obtain ⟨h1, -⟩ := pl_rnk_ok (pl_tq A S) (pl_N A 0 3 0) k hk
  have h2 := hW.2.2.2.2.1 _ h1
  exact ⟨h1, h2.2.1, h2.2.2.1, h2.2.2.2.2.2.1⟩
theorem pl_gathered {A : pl_A} {m : ml_M} (hr : pl_Rel A m) {S : Nat} (hS31 : S < 2 ^ 31) : ∃ m1, fX3_gather 26 8 (nI (pl_N A 0 3 0)) (nI S) m = some (nI (pl_tn A S), m1) ∧ pl_Md A A m1 ∧ ml_n m1 = ml_n m ∧ ml_s m1 = ml_s m ∧ (pl_tn A S ≤ 10 → pl_tkC m1 (pl_tn A S) (pl_ta A S) (pl_tb2 A S) (pl_tx A S)) := by
  obtain ⟨hS, hW, hM, hC⟩ := hr
  have hr : pl_Rel A m := ⟨hS, hW, hM, hC⟩
  have hn := hS.2.2
  refine ⟨_, pl_gatherC hS hW hC hS31, ?_, rfl, rfl, fun h10 => ?_⟩
  · have hx : pl_ex [26, 27, 28, 29, 30, 31] m (ml_sI (pl_wR m 27 (pl_gt A m S (pl_N A 0 3 0))) 26 1 (nI (min (pl_cnt (pl_tq A S) (pl_N A 0 3 0)) 10))) := by
      refine ⟨Nat.le_refl _, fun _ _ => rfl, fun a _ ha => ?_⟩
      simp only [List.mem_cons, List.not_mem_nil, or_false, not_or] at ha
      constructor
      · funext j; rw [pl_I_sI, if_neg (fun z => ha.1 z.1), pl_I_wR]
      · funext j; rw [pl_R_sI, pl_R_wR, if_neg ha.2.1]
    refine hr.jn hx ?_ rfl ?_ ?_
    · intro a h1 h2
      exact ⟨by funext j; rw [pl_I_sI, if_neg (by omega), pl_I_wR], by funext j; rw [pl_J_sI, pl_J_wR]⟩
    · funext j; rw [pl_R_sI, pl_R_wR, if_neg (by decide)]
    · rw [pl_I_sI, if_neg (by decide), pl_I_wR]; exact hC.2.2.2.2.2.2.2.2.2
  · have h10' : pl_cnt (pl_tq A S) (pl_N A 0 3 0) ≤ 10 := h10
    refine ⟨?_, h10, fun k hk => ?_⟩
    · rw [pl_I_sI, if_pos ⟨rfl, rfl⟩, show min (pl_cnt (pl_tq A S) (pl_N A 0 3 0)) 10 = pl_cnt (pl_tq A S) (pl_N A 0 3 0) by omega]; rfl
    · have hk' : k < pl_cnt (pl_tq A S) (pl_N A 0 3 0) := hk
      obtain ⟨h1, h2, h3, h4⟩ := pl_tk_b hW hk
      have z := hC.2.2.2.2.1.1 _ h1
      have hg : ml_R (ml_sI (pl_wR m 27 (pl_gt A m S (pl_N A 0 3 0))) 26 1 (nI (min (pl_cnt (pl_tq A S) (pl_N A 0 3 0)) 10))) 27 k = ml_R m 8 (pl_rnk (pl_tq A S) (pl_N A 0 3 0) k) := by
        rw [pl_R_sI, pl_R_wR, if_pos rfl]
        unfold pl_gt
        rw [if_pos ⟨hk', by omega⟩]
      have hz := z.1.1
      rw [hg, pl_K_sI, pl_K_wR, pl_I_sI, if_neg (by omega), pl_I_sI, if_neg (by omega), pl_I_sI, if_neg (by omega), pl_I_wR]
      exact ⟨z.1.1, z.1.2.2, z.2.2.1, z.2.2.2.1, z.2.2.2.2.1, h2, h3, h4⟩
theorem pl_lastsAll {m : ml_M} (hS : pl_Sh m) {n : Nat} {a b x : Nat → Nat} (ht : pl_tkC m n a b x) : fX3_findLasts 26 m = some (pl_fl (pl_wI m 28 (pl_tw (ml_I m 28) (pl_ah x n) 0 n)) n a b x (2 ^ n)) := by
  have hl := pl_lastsC (hS.wI 28 (pl_tw (ml_I m 28) (pl_ah x n) 0 n)) (ht.wI _ (by decide)) (fun k hk => by rw [pl_I_wI, if_pos rfl, pl_tw_i (by omega)])
  unfold fX3_findLasts
  rw [pl_k26 hS, if_pos rfl, pl_aheadC hS ht, pl_b1]
  exact hl
/-- the class's own cells behind findLasts -/
theorem pl_flMd {A : pl_A} {m : ml_M} (hd : pl_Md A A m) (g28 g29 g30 g31 : Nat → Int32) (h31 : g31 0 = 0) : pl_Md A A (pl_wI (pl_wI (pl_wI (pl_wI m 28 g28) 29 g29) 30 g30) 31 g31) := by
  have hr : pl_Rel A m := hd
  have hx : pl_ex [26, 27, 28, 29, 30, 31] m (pl_wI (pl_wI (pl_wI (pl_wI m 28 g28) 29 g29) 30 g30) 31 g31) := ((((pl_ex.refl _ m).wI (Or.inl (by decide))).wI (Or.inl (by decide))).wI (Or.inl (by decide))).wI (Or.inl (by decide))
  refine hr.jn hx ?_ rfl rfl (by rw [pl_I_wI, if_pos rfl]; exact h31)
  exact ((((pl_co.refl m).wI (by decide)).wI (by decide)).wI (by decide)).wI (by decide)
theorem pl_isOneC {A : pl_A} {m : ml_M} (hd : pl_Md A A m) {n N : Nat} {a b x : Nat → Nat} (ht : pl_tkC m n a b x) (hN : N = 2 ^ n) : ∃ m1, fX3_isOne 26 m = some (if n = 0 ∨ pl_tl n a b (pl_on x) N (N - 1) ≠ 0 then 1 else 0, m1) ∧ pl_Md A A m1 ∧ ml_n m1 = ml_n m ∧ ml_s m1 = ml_s m := by
  have hS := hd.1
  have p1 : 1 ≤ N := by rw [hN]; exact Nat.one_le_two_pow
  have hn10 := ht.2.1
  have p2 : 2 ^ n ≤ 1024 := Nat.le_trans (Nat.pow_le_pow_right (by decide) hn10) (by decide)
  have h31 := hd.2.2.2.2.2.2.2.2.2.2.2.2
  have hmd := pl_flMd hd (pl_tw (ml_I m 28) (pl_ah x n) 0 n) (pl_tw (ml_I m 29) (pl_lt n a b x) 1 N) (pl_tw (ml_I m 30) (pl_ot2 n a) 1 N) (ml_I m 31) h31
  have e31 : pl_wI (pl_wI (pl_wI (pl_wI m 28 (pl_tw (ml_I m 28) (pl_ah x n) 0 n)) 29 (pl_tw (ml_I m 29) (pl_lt n a b x) 1 N)) 30 (pl_tw (ml_I m 30) (pl_ot2 n a) 1 N)) 31 (ml_I m 31) = pl_fl (pl_wI m 28 (pl_tw (ml_I m 28) (pl_ah x n) 0 n)) n a b x N := by
    unfold pl_fl
    rw [pl_I_wI, if_neg (by decide), pl_I_wI, if_neg (by decide)]
    have : ml_I m 31 = ml_I (pl_wI (pl_wI (pl_wI m 28 (pl_tw (ml_I m 28) (pl_ah x n) 0 n)) 29 (pl_tw (ml_I m 29) (pl_lt n a b x) 1 N)) 30 (pl_tw (ml_I m 30) (pl_ot2 n a) 1 N)) 31 := by
      rw [pl_I_wI, if_neg (by decide), pl_I_wI, if_neg (by decide), pl_I_wI, if_neg (by decide)]
    rw [this, pl_wI_0]
  rw [e31] at hmd
  refine ⟨_, ?_, hmd, rfl, rfl⟩
  have hla := pl_lastsAll hS ht
  rw [← hN] at hla
  have hS1 := hmd.1
  have hi26 : ml_I (pl_fl (pl_wI m 28 (pl_tw (ml_I m 28) (pl_ah x n) 0 n)) n a b x N) 26 1 = nI n := by
    unfold pl_fl
    rw [pl_I_wI, if_neg (by decide), pl_I_wI, if_neg (by decide), pl_I_wI, if_neg (by decide)]; exact ht.1
  have hi29 : 1 ≤ N - 1 → ml_I (pl_fl (pl_wI m 28 (pl_tw (ml_I m 28) (pl_ah x n) 0 n)) n a b x N) 29 (N - 1) = nI (pl_tl n a b (pl_on x) N (N - 1)) := fun h => by
    unfold pl_fl
    rw [pl_I_wI, if_neg (by decide), pl_I_wI, if_pos rfl, pl_tw_i (by omega)]
    unfold pl_lt
    rw [show N - 1 + 1 = N by omega]
  have k26 := pl_k26 hS1
  have k29 := pl_k29 hS1
  have r3 := pl_r26_3 hS1
  have e1 : (1 : Int32) = nI 1 := rfl
  have hsh : nI 1 <<< (nI n &&& 31) = nI N := by rw [← e1, pl_shl1 (by omega), hN]
  have hm1 : nI N - nI 1 = nI (N - 1) := pl_sub p1
  have hlt := pl_tl_lt n a b (pl_on x) N (N - 1)
  unfold fX3_isOne
  rw [pl_k26 hS, if_pos rfl, hla, pl_b1]
  generalize pl_fl (pl_wI m 28 (pl_tw (ml_I m 28) (pl_ah x n) 0 n)) n a b x N = Z at *
  by_cases h0 : n = 0
  · have hv : (if n = 0 ∨ pl_tl n a b (pl_on x) N (N - 1) ≠ 0 then (1 : Int32) else 0) = 1 := if_pos (Or.inl h0)
    rw [hv]
    simp (disch := omega) only [fX3_isOne_27, k26, if_true, hi26, pl_eq0, eq_true h0]
  · have hN2 : 1 ≤ N - 1 := by
      have : 2 ^ 1 ≤ 2 ^ n := Nat.pow_le_pow_right (by decide) (by omega)
      omega
    have h29 := hi29 hN2
    by_cases hz : pl_tl n a b (pl_on x) N (N - 1) = 0
    · have hv : (if n = 0 ∨ pl_tl n a b (pl_on x) N (N - 1) ≠ 0 then (1 : Int32) else 0) = 0 := if_neg (fun z => z.elim h0 (fun w => w hz))
      rw [hv]
      simp (disch := omega) only [fX3_isOne_27, ↓pl_let, pl_b1, pl_b2, ↓reduceIte, k26, if_true, hi26, pl_eq0, h0, if_false, r3, hsh, e1, hm1, pl_in, nI_clamp, k29, show N - 1 < 1024 by omega, and_self, h29, hz]
    · have hv : (if n = 0 ∨ pl_tl n a b (pl_on x) N (N - 1) ≠ 0 then (1 : Int32) else 0) = 1 := if_pos (Or.inr hz)
      rw [hv]
      simp (disch := omega) only [fX3_isOne_27, ↓pl_let, pl_b1, pl_b2, ↓reduceIte, k26, if_true, hi26, pl_eq0, h0, if_false, r3, hsh, e1, hm1, pl_in, nI_clamp, k29, show N - 1 < 1024 by omega, and_self, h29, hz]
theorem pl_fewPC {A : pl_A} {m : ml_M} (hd : pl_Md A A m) {n N : Nat} {a b x : Nat → Nat} (ht : pl_tkC m n a b x) (hN : N = 2 ^ n) : ∃ m1, fX3_fewestPeople 26 m = some (nI (pl_pp (pl_tl n a b (pl_on x) N) N (N - 1)), m1) ∧ pl_Md A A m1 ∧ ml_n m1 = ml_n m ∧ ml_s m1 = ml_s m := by
  have hS := hd.1
  have p1 : 1 ≤ N := by rw [hN]; exact Nat.one_le_two_pow
  have hn10 := ht.2.1
  have p2 : 2 ^ n ≤ 1024 := Nat.le_trans (Nat.pow_le_pow_right (by decide) hn10) (by decide)
  have h31 := hd.2.2.2.2.2.2.2.2.2.2.2.2
  obtain ⟨Z, hZ⟩ : ∃ Z, Z = pl_fl (pl_wI m 28 (pl_tw (ml_I m 28) (pl_ah x n) 0 n)) n a b x N := ⟨_, rfl⟩
  have hi31 : ml_I Z 31 = ml_I m 31 := by
    rw [hZ]; unfold pl_fl
    rw [pl_I_wI, if_neg (by decide), pl_I_wI, if_neg (by decide), pl_I_wI, if_neg (by decide)]
  have hi26 : ml_I Z 26 1 = nI n := by
    rw [hZ]; unfold pl_fl
    rw [pl_I_wI, if_neg (by decide), pl_I_wI, if_neg (by decide), pl_I_wI, if_neg (by decide)]; exact ht.1
  have hi29 : ∀ s, 1 ≤ s → s < N → ml_I Z 29 s = nI (pl_tl n a b (pl_on x) N s) := fun s h1 h2 => by
    rw [hZ]; unfold pl_fl
    rw [pl_I_wI, if_neg (by decide), pl_I_wI, if_pos rfl, pl_tw_i (by omega)]
    unfold pl_lt
    rw [pl_tl_st n a b (pl_on x) (show s < s + 1 by omega) (show s + 1 ≤ N by omega)]
  have hSZ : pl_Sh Z := by rw [hZ]; exact ((hS.wI 28 _).wI 29 _).wI 30 _
  have hpe := pl_peopleC hSZ hn10 hN hi26 (L := pl_tl n a b (pl_on x) N) (fun k hk => pl_tl_one n a b (pl_on x) (by rw [hN]; exact Nat.pow_lt_pow_right (by decide) hk) hk) (fun s => pl_tl_lt n a b (pl_on x) N s) hi29 (by rw [hi31]; exact h31)
  have hmd := pl_flMd hd (pl_tw (ml_I m 28) (pl_ah x n) 0 n) (pl_tw (ml_I m 29) (pl_lt n a b x) 1 N) (pl_tw (ml_I m 30) (pl_ot2 n a) 1 N) (pl_tw (ml_I m 31) (pl_ft2 (pl_tl n a b (pl_on x) N)) 1 N) (by unfold pl_tw; rw [if_neg (by omega)]; exact h31)
  have eZ : pl_wI (pl_wI (pl_wI m 28 (pl_tw (ml_I m 28) (pl_ah x n) 0 n)) 29 (pl_tw (ml_I m 29) (pl_lt n a b x) 1 N)) 30 (pl_tw (ml_I m 30) (pl_ot2 n a) 1 N) = Z := by
    rw [hZ]; unfold pl_fl
    rw [pl_I_wI, if_neg (by decide), pl_I_wI, if_neg (by decide)]
  rw [eZ] at hmd
  rw [hi31] at hpe
  refine ⟨_, ?_, hmd, by rw [hZ]; rfl, by rw [hZ]; rfl⟩
  unfold fX3_fewestPeople
  have hla := pl_lastsAll hS ht
  rw [← hN, ← hZ] at hla
  rw [pl_k26 hS, if_pos rfl, hla, pl_b1]
  exact hpe

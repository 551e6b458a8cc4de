/-! PILING: the class's side. -/
/-- a search whose turns know that nothing was found before -/
theorem pl_srchH {α : Type} {F : Nat → Nat → Option α} {R0 : Option α} {R1 : Nat → Option α} (N : Nat) (p : Nat → Bool) (hs : ∀ fu i, i < N → (∀ j, j ≤ i → p j = false) → F (fu + 1) i = F fu (i + 1)) (hp : ∀ fu i, i < N → (∀ j, j < i → p j = false) → p i = true → F (fu + 1) i = R1 i) (he : ∀ fu, (∀ j, j < N → p j = false) → F (fu + 1) N = R0) (fu : Nat) (hf : N < fu) : F fu 0 = if pl_lst p N < N then R1 (pl_lst p N) else R0 := by
  have hl := pl_lst_p p N
  have hle := pl_lst_le p N
  have : ∀ d i fu, i + d = pl_lst p N → d + (N - pl_lst p N) < fu → F fu i = F (fu - d) (pl_lst p N) := by
    intro d
    induction d with
    | zero => intro i fu hi hf; rw [show i = pl_lst p N by omega]; rfl
    | succ d ih =>
      intro i fu hi hf
      obtain ⟨fu, rfl⟩ : ∃ k, fu = k + 1 := ⟨fu - 1, by omega⟩
      rw [hs fu i (by omega) (fun j hj => hl.2 j (by omega)), ih (i + 1) fu (by omega) (by omega), show fu + 1 - (d + 1) = fu - d by omega]
  rw [this (pl_lst p N) 0 fu (by omega) (by omega)]
  obtain ⟨k, hk⟩ : ∃ k, fu - pl_lst p N = k + 1 := ⟨fu - pl_lst p N - 1, by omega⟩
  rw [hk]
  by_cases h : pl_lst p N < N
  · rw [if_pos h, hp k _ h hl.2 (hl.1 h)]
  · rw [if_neg h]
    have he' := he k (fun j hj => hl.2 j (by omega))
    rw [show pl_lst p N = N by omega]
    exact he'
theorem pl_firstTo {A : pl_A} {m : ml_M} (hS : pl_Sh m) (hW : pl_W A) (hCh : pl_Ch A m) {S : Nat} (hSl : S < 2 ^ pl_N A 0 1 0) : fX10_firstToFollow 1 (nI S) m = some (if pl_ft A S < pl_N A 0 1 0 then nI (pl_ft A S) else -9) := by
  have hw := hW.1
  unfold pl_Wc at hw
  have z1 := hCh.1.2.2
  have z3 := hCh.2.2.2.2.1
  unfold fX10_firstToFollow
  have hsr := pl_srch (F := fun fu t => fX10_firstToFollow_2 fu 1 (nI S) (nI t) m) (R0 := some (-9)) (R1 := fun t => some (nI t)) (pl_N A 0 1 0) (pl_cf A S) (fun fu t ht hp => ?_) (fun fu t ht hp => ?_) (fun fu => ?_) ml_fu (by rw [pl_fu]; omega)
  · refine hsr.trans ?_
    unfold pl_ft
    split <;> rfl
  · simp (disch := omega) only [fX10_firstToFollow_2, ↓pl_let, pl_b1, pl_b2, ↓reduceIte, pl_k1 hS, pl_k2 hS, pl_k3 hS, pl_k8 hS, pl_k9 hS, pl_k10 hS, pl_k11 hS, pl_k12 hS, pl_k13 hS, pl_k14 hS, pl_k15 hS, pl_k16 hS, pl_k17 hS, pl_k18 hS, pl_k19 hS, pl_k20 hS, pl_k21 hS, pl_k22 hS, pl_k23 hS, pl_k24 hS, pl_k25 hS, pl_k26 hS, pl_k27 hS, pl_k28 hS, pl_k29 hS, pl_k30 hS, pl_k31 hS, pl_k32 hS, pl_r1_0 hS, pl_r1_1 hS, pl_r1_4 hS, pl_r1_6 hS, pl_r1_8 hS, pl_r1_10 hS, pl_r1_12 hS, pl_r1_13 hS, pl_r1_14 hS, pl_r1_18 hS, pl_r12_2 hS, pl_r12_3 hS, pl_r12_4 hS, pl_r12_8 hS, pl_r12_9 hS, pl_r12_10 hS, pl_r12_11 hS, pl_r12_12 hS, pl_r21_3 hS, pl_r21_5 hS, pl_r21_6 hS, pl_r21_7 hS, pl_r26_0 hS, pl_r26_2 hS, pl_r26_3 hS, pl_r26_4 hS, pl_r26_5 hS, z1, z3, nI_leI, show ¬ pl_N A 0 1 0 ≤ t by omega, if_false, if_true, pl_canFollow hS hW hCh ht hSl, hp, Bool.false_eq_true, pl_l1, nI_add]
  · simp (disch := omega) only [fX10_firstToFollow_2, ↓pl_let, pl_b1, pl_b2, ↓reduceIte, pl_k1 hS, pl_k2 hS, pl_k3 hS, pl_k8 hS, pl_k9 hS, pl_k10 hS, pl_k11 hS, pl_k12 hS, pl_k13 hS, pl_k14 hS, pl_k15 hS, pl_k16 hS, pl_k17 hS, pl_k18 hS, pl_k19 hS, pl_k20 hS, pl_k21 hS, pl_k22 hS, pl_k23 hS, pl_k24 hS, pl_k25 hS, pl_k26 hS, pl_k27 hS, pl_k28 hS, pl_k29 hS, pl_k30 hS, pl_k31 hS, pl_k32 hS, pl_r1_0 hS, pl_r1_1 hS, pl_r1_4 hS, pl_r1_6 hS, pl_r1_8 hS, pl_r1_10 hS, pl_r1_12 hS, pl_r1_13 hS, pl_r1_14 hS, pl_r1_18 hS, pl_r12_2 hS, pl_r12_3 hS, pl_r12_4 hS, pl_r12_8 hS, pl_r12_9 hS, pl_r12_10 hS, pl_r12_11 hS, pl_r12_12 hS, pl_r21_3 hS, pl_r21_5 hS, pl_r21_6 hS, pl_r21_7 hS, pl_r26_0 hS, pl_r26_2 hS, pl_r26_3 hS, pl_r26_4 hS, pl_r26_5 hS, z1, z3, nI_leI, show ¬ pl_N A 0 1 0 ≤ t by omega, if_false, if_true, pl_canFollow hS hW hCh ht hSl, hp, pl_l1, pl_eq0, Nat.reduceEqDiff]
  · simp (disch := omega) only [fX10_firstToFollow_2, ↓pl_let, pl_b1, pl_b2, ↓reduceIte, pl_k1 hS, pl_k2 hS, pl_k3 hS, pl_k8 hS, pl_k9 hS, pl_k10 hS, pl_k11 hS, pl_k12 hS, pl_k13 hS, pl_k14 hS, pl_k15 hS, pl_k16 hS, pl_k17 hS, pl_k18 hS, pl_k19 hS, pl_k20 hS, pl_k21 hS, pl_k22 hS, pl_k23 hS, pl_k24 hS, pl_k25 hS, pl_k26 hS, pl_k27 hS, pl_k28 hS, pl_k29 hS, pl_k30 hS, pl_k31 hS, pl_k32 hS, pl_r1_0 hS, pl_r1_1 hS, pl_r1_4 hS, pl_r1_6 hS, pl_r1_8 hS, pl_r1_10 hS, pl_r1_12 hS, pl_r1_13 hS, pl_r1_14 hS, pl_r1_18 hS, pl_r12_2 hS, pl_r12_3 hS, pl_r12_4 hS, pl_r12_8 hS, pl_r12_9 hS, pl_r12_10 hS, pl_r12_11 hS, pl_r12_12 hS, pl_r21_3 hS, pl_r21_5 hS, pl_r21_6 hS, pl_r21_7 hS, pl_r26_0 hS, pl_r26_2 hS, pl_r26_3 hS, pl_r26_4 hS, pl_r26_5 hS, z1, z3, nI_leI, Nat.le_refl, if_true]
/-- the table of orders, from set s on -/
def pl_ot (A : pl_A) (s : Nat) : Nat → Int32 := fun x => if s ≤ x ∧ x < 2 ^ pl_N A 0 1 0 then nI (pl_po A x) else 0
def pl_ps (A : pl_A) (s t : Nat) : Nat := pl_sum (fun t => if pl_cf A s t = true then pl_po A (s ||| 2 ^ t) else 0) t
def pl_oi (A : pl_A) (s t : Nat) : Nat → Int32 := fun x => if x = s then nI (pl_ps A s t) else pl_ot A (s + 1) x
theorem pl_oi0 (A : pl_A) (s : Nat) : pl_oi A s 0 = pl_ot A (s + 1) := by
  funext x
  unfold pl_oi
  by_cases h : x = s
  · rw [if_pos h]; unfold pl_ot; rw [if_neg (by omega)]; rfl
  · rw [if_neg h]
theorem pl_oin {A : pl_A} {s : Nat} (hs : s + 1 < 2 ^ pl_N A 0 1 0) : pl_oi A s (pl_N A 0 1 0) = pl_ot A s := by
  funext x
  unfold pl_oi pl_ot
  by_cases h : x = s
  · rw [if_pos h, if_pos (by omega), h, pl_po_eq A (by omega) (by omega)]; rfl
  · rw [if_neg h]
    by_cases h2 : s + 1 ≤ x ∧ x < 2 ^ pl_N A 0 1 0
    · rw [if_pos h2, if_pos (by omega)]
    · rw [if_neg h2, if_neg (by omega)]
theorem pl_len {n : Nat} (h : n ≤ 20000) : ml_len (nI n) := ⟨nI_pos (by omega), by rw [nI_clamp (by omega)]; exact h⟩
theorem pl_orders {A : pl_A} {m : ml_M} (hS : pl_Sh m) (hW : pl_W A) (hCh : pl_Ch A m) : ∃ g, fX10_ordersOfAll 1 m = some (nI (pl_po A 0), pl_wI (ml_al m 20 (2 ^ pl_N A 0 1 0) (2 ^ pl_N A 0 1 0)) (ml_n m + 1) g) := by
  have hw := hW.1
  unfold pl_Wc at hw
  have hn := hS.2.2
  obtain ⟨p1, p2⟩ := pl_pown (show pl_N A 0 1 0 ≤ 8 by omega)
  obtain ⟨N, hN⟩ : ∃ N, N = 2 ^ pl_N A 0 1 0 := ⟨_, rfl⟩
  have hex : ∀ g, pl_ex [] m (pl_wI (ml_al m 20 N N) (ml_n m + 1) g) := fun g => ((pl_ex.refl [] m).al).wI (Or.inr (by omega))
  have hSg : ∀ g, pl_Sh (pl_wI (ml_al m 20 N N) (ml_n m + 1) g) := fun g => (hex g).sh hS (fun q _ hq => by simp at hq)
  have hChg : ∀ g, pl_Ch A (pl_wI (ml_al m 20 N N) (ml_n m + 1) g) := fun g => hCh.fr (hex g) (by rw [((hex g).2.2 1 (by omega) (by simp)).2]) (fun k _ a ha => by simp at ha) (fun k _ a ha => by simp at ha) rfl rfl rfl rfl rfl rfl
  have hKg : ∀ g, ml_K (pl_wI (ml_al m 20 N N) (ml_n m + 1) g) (ml_n m + 1) = (20, N) := fun g => by rw [pl_K_wI, pl_K_aln]
  have hIg : ∀ g, ml_I (pl_wI (ml_al m 20 N N) (ml_n m + 1) g) (ml_n m + 1) = g := fun g => by rw [pl_I_wI, if_pos rfl]
  rw [← hN] at p1 p2 ⊢
  refine ⟨pl_ot A 0, ?_⟩
  -- one set
  have ei : ∀ (K : Nat → Int32 → Nat → Int32 → ml_M → Option (Int32 × ml_M)) (s : Nat), s + 1 < N → fX10_ordersOfAll_33 K ml_fu 1 (nI (pl_N A 0 1 0)) (ml_n m + 1) (nI s) 0 (pl_wI (ml_al m 20 N N) (ml_n m + 1) (pl_ot A (s + 1))) = K 1 (nI (pl_N A 0 1 0)) (ml_n m + 1) (pl_sz s) (pl_wI (ml_al m 20 N N) (ml_n m + 1) (pl_ot A s)) := fun K s hs => by
    have hh := pl_for (F := fun fu t g => fX10_ordersOfAll_33 K fu 1 (nI (pl_N A 0 1 0)) (ml_n m + 1) (nI s) (nI t) (pl_wI (ml_al m 20 N N) (ml_n m + 1) g)) (R := K 1 (nI (pl_N A 0 1 0)) (ml_n m + 1) (pl_sz s) (pl_wI (ml_al m 20 N N) (ml_n m + 1) (pl_ot A s))) (pl_N A 0 1 0) (pl_oi A s) (fun fu t ht => ?_) (fun fu => ?_) ml_fu (by rw [pl_fu]; omega)
    · rw [pl_oi0] at hh; exact hh
    · have hcf := pl_canFollow (hSg (pl_oi A s t)) hW (hChg (pl_oi A s t)) ht (show s < 2 ^ pl_N A 0 1 0 by omega)
      have hlt : s ||| 2 ^ t < N := by rw [hN]; exact pl_ins_lt (by omega) ht
      have hps : pl_ps A s (t + 1) = pl_ps A s t + (if pl_cf A s t = true then pl_po A (s ||| 2 ^ t) else 0) := rfl
      have e31 : (31 : Int32) = nI 31 := rfl
      have e1 : (1 : Int32) = nI 1 := rfl
      by_cases hc : pl_cf A s t = true
      · have hgt := pl_ins_gt (pl_cf_tb hc)
        rw [if_pos hc] at hps hcf
        have hst : (fun j => if j = s then nI (pl_ps A s t + pl_po A (s ||| 2 ^ t)) else pl_oi A s t j) = pl_oi A s (t + 1) := by
          funext j
          unfold pl_oi
          by_cases hj : j = s
          · rw [if_pos hj, if_pos hj, hps]
          · rw [if_neg hj, if_neg hj, if_neg hj]
        have hv1 : pl_oi A s t s = nI (pl_ps A s t) := by unfold pl_oi; rw [if_pos rfl]
        have hv2 : pl_oi A s t (s ||| 2 ^ t) = nI (pl_po A (s ||| 2 ^ t)) := by unfold pl_oi pl_ot; rw [if_neg (by omega), if_pos (by omega)]
        simp (disch := omega) only [fX10_ordersOfAll_33, fX10_ordersOfAll_63, ↓pl_let, pl_b1, pl_b2, ↓reduceIte, nI_leI, show ¬ pl_N A 0 1 0 ≤ t by omega, if_false, if_true, pl_k1 (hSg (pl_oi A s t)), hcf, e1, e31, pl_eq0, Nat.reduceEqDiff, pl_and, pl_shl2, pl_or, pl_in, nI_clamp, hKg, show s < N by omega, hlt, and_self, hIg, hv1, hv2, pl_wI_sI, nI_add]
        rw [hst]
      · rw [if_neg hc] at hps hcf
        have hst : pl_oi A s (t + 1) = pl_oi A s t := by
          funext j; unfold pl_oi; rw [hps, Nat.add_zero]
        rw [hst]
        simp (disch := omega) only [fX10_ordersOfAll_33, fX10_ordersOfAll_63, ↓pl_let, pl_b1, pl_b2, ↓reduceIte, nI_leI, show ¬ pl_N A 0 1 0 ≤ t by omega, if_false, if_true, pl_k1 (hSg (pl_oi A s t)), hcf, e1, nI_add]
    · have hm1 : nI s + (-1) = pl_sz s := by
        unfold pl_sz
        cases s with
        | zero => rfl
        | succ s => rw [pk_m1, if_neg (by omega), Nat.add_sub_cancel]
      rw [pl_oin (by omega)]
      simp (disch := omega) only [fX10_ordersOfAll_33, fX10_ordersOfAll_69, nI_leI, Nat.le_refl, if_true, hm1]
  have ho := pl_for (F := fun fu j (_ : Unit) => fX10_ordersOfAll_26 fu 1 (nI (pl_N A 0 1 0)) (ml_n m + 1) (pl_sz (N - 1 - j)) (pl_wI (ml_al m 20 N N) (ml_n m + 1) (pl_ot A (N - 1 - j)))) (R := some (nI (pl_po A 0), pl_wI (ml_al m 20 N N) (ml_n m + 1) (pl_ot A 0))) (N - 1) (fun _ => ()) (fun fu j hj => ?_) (fun fu => ?_) ml_fu (by rw [pl_fu]; omega)
  · have hz : nI N - nI 2 = pl_sz (N - 1) := by
      unfold pl_sz
      by_cases h1 : N = 1
      · rw [h1]; rfl
      · rw [if_neg (by omega), pl_sub (by omega), show N - 2 = N - 1 - 1 by omega]
    have hfull : (fun j => if j = N - 1 then (1 : Int32) else 0) = pl_ot A (N - 1) := by
      funext x
      unfold pl_ot
      by_cases hx : x = N - 1
      · rw [if_pos hx, if_pos (by omega), hx, hN, pl_po_full]; rfl
      · rw [if_neg hx, if_neg (by omega)]
    have z1 := hCh.1.2.2
    have z3 := hCh.2.2.2.2.1
    have hshl : (1 : Int32) <<< (nI (pl_N A 0 1 0) &&& 31) = nI N := by rw [pl_shl1 (by omega), hN]
    have hal : ml_sI (ml_al m 20 N N) (ml_n m + 1) (N - 1) 1 = pl_wI (ml_al m 20 N N) (ml_n m + 1) (pl_ot A (N - 1)) := by
      rw [pl_sI_w, ← hfull]
      congr 1
      funext j
      rw [pl_I_aln]
    have hsub1 : nI N - (1 : Int32) = nI (N - 1) := pl_sub p1
    rw [Nat.sub_zero] at ho
    have h20 : N ≤ 20000 := by omega
    simp (disch := omega) only [fX10_ordersOfAll, ↓pl_let, pl_b1, pl_b2, ↓reduceIte, pl_k1 hS, pl_k2 hS, pl_k3 hS, pl_k8 hS, pl_k9 hS, pl_k10 hS, pl_k11 hS, pl_k12 hS, pl_k13 hS, pl_k14 hS, pl_k15 hS, pl_k16 hS, pl_k17 hS, pl_k18 hS, pl_k19 hS, pl_k20 hS, pl_k21 hS, pl_k22 hS, pl_k23 hS, pl_k24 hS, pl_k25 hS, pl_k26 hS, pl_k27 hS, pl_k28 hS, pl_k29 hS, pl_k30 hS, pl_k31 hS, pl_k32 hS, pl_r1_0 hS, pl_r1_1 hS, pl_r1_4 hS, pl_r1_6 hS, pl_r1_8 hS, pl_r1_10 hS, pl_r1_12 hS, pl_r1_13 hS, pl_r1_14 hS, pl_r1_18 hS, pl_r12_2 hS, pl_r12_3 hS, pl_r12_4 hS, pl_r12_8 hS, pl_r12_9 hS, pl_r12_10 hS, pl_r12_11 hS, pl_r12_12 hS, pl_r21_3 hS, pl_r21_5 hS, pl_r21_6 hS, pl_r21_7 hS, pl_r26_0 hS, pl_r26_2 hS, pl_r26_3 hS, pl_r26_4 hS, pl_r26_5 hS, z1, z3, if_true, hshl, pl_lt0, nI_clamp, h20, not_false_iff, and_self, pl_K_aln, pl_ofN, hsub1, pl_in, show N - 1 < N by omega, hal, hKg]
    rw [show (2 : Int32) = nI 2 from rfl, hz, if_pos (pl_len h20)]
    exact ho
  · obtain ⟨s, hs⟩ : ∃ s, N - 1 - j = s + 1 := ⟨N - 1 - j - 1, by omega⟩
    have hs2 : N - 1 - (j + 1) = s := by omega
    rw [hs, hs2, pl_sz1]
    simp (disch := omega) only [fX10_ordersOfAll_26, pl_lt0, if_false]
    exact ei _ s (by omega)
  · rw [Nat.sub_self]
    have hneg : pl_sz 0 < 0 := by decide
    have hv : pl_ot A 0 0 = nI (pl_po A 0) := by unfold pl_ot; rw [if_pos (by omega)]
    have hin : ml_in (pl_wI (ml_al m 20 N N) (ml_n m + 1) (pl_ot A 0)) (ml_n m + 1) 20 0 := by
      rw [← nI_0, pl_in (by decide), hKg]
      exact ⟨rfl, by show 0 < N; omega⟩
    have hc0 : (0 : Int32).toNatClampNeg = 0 := rfl
    simp only [fX10_ordersOfAll_26, fX10_ordersOfAll_75, hneg, if_true, hIg, hc0, hv]
    rw [if_pos hin]
/-- the first k trunks of the first order -/
def pl_gk (A : pl_A) (k : Nat) : Nat → Int32 := fun j => if j < k then nI (pl_ft A (pl_gS A j)) else 0
theorem pl_pileC {A : pl_A} {m : ml_M} (hr : pl_Rel A m) {r : Nat} (hr6 : r < 6) :
    (pl_po A 0 = 0 → ∃ m1, fX10_piling 1 (nI r) m = some (-9, m1) ∧ ml_n m1 ≤ ml_n m + 1000 ∧ ml_s m1 ≤ ml_s m + 14000 ∧ pl_Md A A m1) ∧
    (pl_po A 0 ≠ 0 → ∃ m1, fX10_piling 1 (nI r) m = some (nI (pl_po A 0), m1) ∧ ml_n m1 ≤ ml_n m + 1000 ∧ ml_s m1 ≤ ml_s m + 14000 ∧ pl_Md A (pl_rA A r (pl_N A 0 1 0 + 1) (pl_gk A (pl_N A 0 1 0))) m1) := by
  have hS := hr.1
  have hW := hr.2.1
  have hw := hW.1
  unfold pl_Wc at hw
  have hC := hr.2.2.2
  have hCh := hC.2.2.2.1
  have hn := hS.2.2
  obtain ⟨p1, p2⟩ := pl_pown (show pl_N A 0 1 0 ≤ 8 by omega)
  obtain ⟨n, hnn⟩ : ∃ n, n = pl_N A 0 1 0 := ⟨_, rfl⟩
  have hex : ∀ g, pl_ex [] m (pl_wI (ml_al m 20 n n) (ml_n m + 1) g) := fun g => ((pl_ex.refl [] m).al).wI (Or.inr (by omega))
  have hSg : ∀ g, pl_Sh (pl_wI (ml_al m 20 n n) (ml_n m + 1) g) := fun g => (hex g).sh hS (fun q _ hq => by simp at hq)
  have hChg : ∀ g, pl_Ch A (pl_wI (ml_al m 20 n n) (ml_n m + 1) g) := fun g => hCh.fr (hex g) (by rw [((hex g).2.2 1 (by omega) (by simp)).2]) (fun k _ a ha => by simp at ha) (fun k _ a ha => by simp at ha) rfl rfl rfl rfl rfl rfl
  have hKg : ∀ g, ml_K (pl_wI (ml_al m 20 n n) (ml_n m + 1) g) (ml_n m + 1) = (20, n) := fun g => by rw [pl_K_wI, pl_K_aln]
  have hJg : ∀ g, ml_J (pl_wI (ml_al m 20 n n) (ml_n m + 1) g) 1 = ml_J m 1 := fun g => by
    funext j; rw [pl_J_wI, pl_J_al, if_neg (by omega)]
  have hcog : ∀ g, pl_co m (pl_wI (ml_al m 20 n n) (ml_n m + 1) g) := fun g => ((pl_co.refl m).al hn).wI (by omega)
  have hbase : fX10_piling 1 (nI r) m = fX10_piling_24 ml_fu 1 (nI r) (ml_n m + 1) (nI (pl_gS A 0)) (nI 0) (pl_wI (ml_al m 20 n n) (ml_n m + 1) (pl_gk A 0)) := by
    have hr5 : 0 ≤ nI r ∧ nI r ≤ nI 5 := ⟨nI_pos' (by omega), nI_le (by omega) (by decide)⟩
    have e0 : pl_wI (ml_al m 20 n n) (ml_n m + 1) (pl_gk A 0) = ml_al m 20 n n := by
      have : pl_gk A 0 = ml_I (ml_al m 20 n n) (ml_n m + 1) := by
        funext j; rw [pl_I_aln]; unfold pl_gk; rw [if_neg (by omega)]
      rw [this, pl_wI_0]
    have z1 := hCh.1.2.2
    have z3 := hCh.2.2.2.2.1
    rw [← hnn] at z3
    rw [e0]
    unfold fX10_piling
    rw [pl_isRow, if_pos hr5, pl_b1, if_neg (by decide)]
    simp (disch := omega) only [↓pl_let, pl_b1, pl_b2, ↓reduceIte, pl_k1 hS, pl_k2 hS, pl_k3 hS, pl_k8 hS, pl_k9 hS, pl_k10 hS, pl_k11 hS, pl_k12 hS, pl_k13 hS, pl_k14 hS, pl_k15 hS, pl_k16 hS, pl_k17 hS, pl_k18 hS, pl_k19 hS, pl_k20 hS, pl_k21 hS, pl_k22 hS, pl_k23 hS, pl_k24 hS, pl_k25 hS, pl_k26 hS, pl_k27 hS, pl_k28 hS, pl_k29 hS, pl_k30 hS, pl_k31 hS, pl_k32 hS, pl_r1_0 hS, pl_r1_1 hS, pl_r1_4 hS, pl_r1_6 hS, pl_r1_8 hS, pl_r1_10 hS, pl_r1_12 hS, pl_r1_13 hS, pl_r1_14 hS, pl_r1_18 hS, pl_r12_2 hS, pl_r12_3 hS, pl_r12_4 hS, pl_r12_8 hS, pl_r12_9 hS, pl_r12_10 hS, pl_r12_11 hS, pl_r12_12 hS, pl_r21_3 hS, pl_r21_5 hS, pl_r21_6 hS, pl_r21_7 hS, pl_r26_0 hS, pl_r26_2 hS, pl_r26_3 hS, pl_r26_4 hS, pl_r26_5 hS, z1, z3, if_true, nI_clamp]
    rw [if_pos (pl_len (by omega))]
    rfl
  have hsr := pl_srchH (F := fun fu k => fX10_piling_24 fu 1 (nI r) (ml_n m + 1) (nI (pl_gS A k)) (nI k) (pl_wI (ml_al m 20 n n) (ml_n m + 1) (pl_gk A k))) (R0 := fX10_piling_67 1 (nI r) (ml_n m + 1) (pl_wI (ml_al m 20 n n) (ml_n m + 1) (pl_gk A n))) (R1 := fun k => some (-9, pl_wI (ml_al m 20 n n) (ml_n m + 1) (pl_gk A k))) n (fun k => decide (¬ pl_ft A (pl_gS A k) < pl_N A 0 1 0)) (fun fu k hk hh => ?_) (fun fu k hk hh hp => ?_) (fun fu hh => ?_) ml_fu (by rw [pl_fu]; omega)
  · have hsr' := hbase.trans hsr
    refine ⟨fun h0 => ?_, fun h0 => ?_⟩
    · obtain ⟨k, hk, hst⟩ := pl_stop h0
      have hlt := pl_lst_ex (p := fun k => decide (¬ pl_ft A (pl_gS A k) < pl_N A 0 1 0)) (n := n) (t := k) (by omega) (decide_eq_true hst)
      rw [if_pos hlt] at hsr'
      exact ⟨_, hsr', by rw [pl_n_wI, pl_n_al]; omega, by rw [pl_s_wI, pl_s_al]; omega, hr.md.gb (hex _) (hcog _) (hJg _)⟩
    · have hgo := pl_go h0
      have hnl : ¬ pl_lst (fun k => decide (¬ pl_ft A (pl_gS A k) < pl_N A 0 1 0)) n < n := fun z => by
        have := (pl_lst_p (fun k => decide (¬ pl_ft A (pl_gS A k) < pl_N A 0 1 0)) n).1 z
        exact (of_decide_eq_true this) (hgo _ (by omega))
      rw [if_neg hnl] at hsr'
      obtain ⟨M0, hM0⟩ : ∃ M0, M0 = pl_wI (ml_al m 20 n n) (ml_n m + 1) (pl_gk A n) := ⟨_, rfl⟩
      have hd : pl_Md A (pl_rA A r (n + 1) (pl_gk A n)) (ml_sR M0 2 r (ml_n m + 1)) := by
        have hnew : ml_R (ml_sR M0 2 r (ml_n m + 1)) 2 r = ml_n m + 1 := by rw [pl_R_sR, if_pos ⟨rfl, rfl⟩]
        have hex2 : pl_ex [2, 0] m M0 := by rw [hM0]; exact ((pl_ex.refl [2, 0] m).al).wI (Or.inr (by omega))
        refine hr.rC (b := 0) hr6 (Or.inl rfl) (hex2.sR (by simp)) (by rw [hM0]; exact (hcog _).sR) ?_ (fun q _ hq => ?_) (Or.inr ⟨by omega, ?_, fun j hj => ?_⟩) (Or.inr (Or.inr ?_))
        · rw [pl_J_sR, hM0, hJg]
        · rw [pl_R_sR, if_neg (by omega), hM0, pl_R_wI, pl_R_alo (by omega)]
        · rw [hnew]
          exact ⟨by omega, by rw [pl_n_sR, hM0, pl_n_wI, pl_n_al]; exact Nat.le_refl _, by rw [pl_K_sR, hM0, hKg]; rfl⟩
        · rw [hnew, pl_I_sR, hM0, pl_I_wI, if_pos rfl]
        · rw [hnew]; omega
      have hn2 : ml_n (ml_sR M0 2 r (ml_n m + 1)) = ml_n m + 1 := by rw [pl_n_sR, hM0, pl_n_wI, pl_n_al]
      have hs2 : ml_s (ml_sR M0 2 r (ml_n m + 1)) = ml_s m + n := by rw [pl_s_sR, hM0, pl_s_wI, pl_s_al]
      have hr67 : fX10_piling_67 1 (nI r) (ml_n m + 1) M0 = ml_b2 (fX10_ordersOfAll 1 (ml_sR M0 2 r (ml_n m + 1))) fun v M => some (v, M) := by
        have hSM : pl_Sh M0 := by rw [hM0]; exact hSg _
        have hKM : ml_K M0 (ml_n m + 1) = (20, n) := by rw [hM0]; exact hKg _
        have hS := hSM
        simp (disch := omega) only [fX10_piling_67, pl_k1 hS, pl_k2 hS, pl_k3 hS, pl_k8 hS, pl_k9 hS, pl_k10 hS, pl_k11 hS, pl_k12 hS, pl_k13 hS, pl_k14 hS, pl_k15 hS, pl_k16 hS, pl_k17 hS, pl_k18 hS, pl_k19 hS, pl_k20 hS, pl_k21 hS, pl_k22 hS, pl_k23 hS, pl_k24 hS, pl_k25 hS, pl_k26 hS, pl_k27 hS, pl_k28 hS, pl_k29 hS, pl_k30 hS, pl_k31 hS, pl_k32 hS, pl_r1_0 hS, pl_r1_1 hS, pl_r1_4 hS, pl_r1_6 hS, pl_r1_8 hS, pl_r1_10 hS, pl_r1_12 hS, pl_r1_13 hS, pl_r1_14 hS, pl_r1_18 hS, pl_r12_2 hS, pl_r12_3 hS, pl_r12_4 hS, pl_r12_8 hS, pl_r12_9 hS, pl_r12_10 hS, pl_r12_11 hS, pl_r12_12 hS, pl_r21_3 hS, pl_r21_5 hS, pl_r21_6 hS, pl_r21_7 hS, pl_r26_0 hS, pl_r26_2 hS, pl_r26_3 hS, pl_r26_4 hS, pl_r26_5 hS, ↓pl_let, ↓reduceIte, hKM, if_true, pl_in, nI_clamp, hr6, and_self]
      rw [← hM0, hr67] at hsr'
      obtain ⟨hS1, hW1, hM1, hC1⟩ := hd
      have hCh1 : pl_Ch A (ml_sR M0 2 r (ml_n m + 1)) := by
        have hexx : pl_ex [2] m (ml_sR M0 2 r (ml_n m + 1)) := by rw [hM0]; exact (((pl_ex.refl [2] m).al).wI (Or.inr (by omega))).sR (by simp)
        exact hCh.fr hexx (by rw [(hexx.2.2 1 (by omega) (by simp)).2]) (fun k hk a ha => by
          simp only [List.mem_cons, List.not_mem_nil, or_false] at ha hk
          rw [ha, pl_k2 hS]
          show (23 : Nat) ≠ k
          omega) (fun k _ a ha => Or.inl (by simp at ha; omega)) rfl rfl rfl rfl rfl rfl
      obtain ⟨g, hg⟩ := pl_orders hS1 hW hCh1
      rw [hg, pl_b2] at hsr'
      generalize ml_sR M0 2 r (ml_n m + 1) = Z at *
      have hd2 : pl_Md A (pl_rA A r (n + 1) (pl_gk A n)) Z := ⟨hS1, hW1, hM1, hC1⟩
      have hz := hS1.2.2
      refine ⟨_, hsr', by rw [pl_n_wI, pl_n_al]; omega, by rw [pl_s_wI, pl_s_al]; omega, ?_⟩
      rw [← hnn]
      exact hd2.gb (((pl_ex.refl [] Z).al).wI (Or.inr (by omega))) (((pl_co.refl Z).al hz).wI (by omega)) (by funext j; rw [pl_J_wI, pl_J_al, if_neg (by omega)])
  · have hft : pl_ft A (pl_gS A k) < pl_N A 0 1 0 := by
      have := hh k (Nat.le_refl _)
      simpa using this
    have hall : ∀ j, j < k → pl_ft A (pl_gS A j) < pl_N A 0 1 0 := fun j hj => by
      have := hh j (by omega)
      simpa using this
    have hgl := (pl_gS_ok (A := A) k (by omega) hall).1
    have hf1 := pl_firstTo (hSg (pl_gk A k)) hW (hChg (pl_gk A k)) hgl
    rw [if_pos hft] at hf1
    have hgk : (fun j => if j = k then nI (pl_ft A (pl_gS A k)) else pl_gk A k j) = pl_gk A (k + 1) := by
      funext j; unfold pl_gk
      by_cases hj : j = k
      · rw [if_pos hj, if_pos (show j < k + 1 by omega), hj]
      · rw [if_neg hj]
        by_cases hj2 : j < k
        · rw [if_pos hj2, if_pos (show j < k + 1 by omega)]
        · rw [if_neg hj2, if_neg (show ¬ j < k + 1 by omega)]
    simp (disch := omega) only [fX10_piling_24, ↓pl_let, pl_b1, pl_b2, ↓reduceIte, hKg, if_true, pl_ofN, nI_leI, show ¬ n ≤ k by omega, if_false, pl_k1 (hSg (pl_gk A k)), hf1, pl_n9, pl_in, nI_clamp, hk, and_self, pl_wI_sI, hgk, pl_shl1, pl_or, ← pl_gS1]
    rw [show (1 : Int32) = nI 1 from rfl, nI_add]
  · have hft : ¬ pl_ft A (pl_gS A k) < pl_N A 0 1 0 := of_decide_eq_true hp
    have hall : ∀ j, j < k → pl_ft A (pl_gS A j) < pl_N A 0 1 0 := fun j hj => by
      have := hh j (by omega)
      simpa using this
    have hgl := (pl_gS_ok (A := A) k (by omega) hall).1
    have hf1 := pl_firstTo (hSg (pl_gk A k)) hW (hChg (pl_gk A k)) hgl
    rw [if_neg hft] at hf1
    simp (disch := omega) only [fX10_piling_24, ↓pl_let, pl_b1, pl_b2, ↓reduceIte, hKg, if_true, pl_ofN, nI_leI, show ¬ n ≤ k by omega, if_false, pl_k1 (hSg (pl_gk A k)), hf1]
  · simp (disch := omega) only [fX10_piling_24, ↓pl_let, pl_b1, pl_b2, ↓reduceIte, hKg, if_true, pl_ofN, nI_leI, Nat.le_refl]

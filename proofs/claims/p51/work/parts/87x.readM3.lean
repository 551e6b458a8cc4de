/-! A BOOK READ: the reference's trunk, pile. -/
theorem pl_trq_st {f : Nat → Int32} {L : Nat} {s : Nat × Nat} {i : Nat} (h : (pl_trq f L s i).2.2 ≠ 0) : ∀ j, (pl_trq f L s (i + j)).2 = (pl_trq f L s i).2 := by
  intro j
  induction j with
  | zero => rfl
  | succ j ih =>
    show (pl_fg f L 1 6 (pl_trq f L s (i + j)).2).2 = _
    rw [ih, pl_fg_st f L 1 6 h]
theorem pl_trnkM {M : ml_M} {t L : Nat} {f : Nat → Int32} (h : pl_txM M t L f) {p nt : Nat} (hp : p < L) (hnt : nt < 8) (v n1 n3 : Int32) (x y z : Nat → Int32) {r : (Nat × Nat) × (Nat × Nat)} (hr : r = pl_trkq f L p) :
    (r.2.2 = 0 ∧ ∃ v' y', fX11_readsTrunk 33 (nI t) (pl_rf M (nI p) v n1 (nI nt) n3 x y z) = some (1, pl_rf M (nI r.2.1) v' n1 (nI (nt + 1)) n3 x y' z) ∧ y' (2 * nt) = nI r.1.1 ∧ y' (2 * nt + 1) = nI r.1.2 ∧ ∀ j, j < 2 * nt → y' j = y j) ∨
    (∃ q, r.2.2 = q + 1 ∧ ∃ v' y', fX11_readsTrunk 33 (nI t) (pl_rf M (nI p) v n1 (nI nt) n3 x y z) = some (0, pl_rf M (nI q) v' n1 (nI nt) n3 x y' z)) := by
  have hS := h.1
  have k33 := pl_k33 hS
  have k330 : ∀ p v a b c x y z, (ml_K (pl_rf M p v a b c x y z) 33).1 = 11 := fun p v a b c x y z => by rw [pl_rf_K, k33]
  have k44 := pl_k44 hS
  have r21 := pl_r33_21 hS
  have hL := h.2.2.1
  have e8 : (8 : Int32) = nI 8 := rfl
  have e2 : (2 : Int32) = nI 2 := rfl
  have e4 : (4 : Int32) = nI 4 := rfl
  have e10 : (10 : Int32) = nI 10 := rfl
  have e1 : nI 1 = (1 : Int32) := rfl
  have e0 : nI 0 = (0 : Int32) := rfl
  have e9 : nI 10 - 1 = (9 : Int32) := by decide
  have e5 : nI 6 - 1 = (5 : Int32) := by decide
  have o0 : pl_so2 L (p + 1, 0) := ⟨hp, Nat.zero_le _⟩
  obtain ⟨q, hq⟩ : ∃ q, q = pl_trq f L (p + 1, 0) := ⟨_, rfl⟩
  have oq := pl_trq_ok (f := f) o0
  have st : ∀ i, (q i).2.2 ≠ 0 → ∀ j, (q (i + j)).2 = (q i).2 := fun i hi => by rw [hq] at hi ⊢; exact pl_trq_st hi
  have hq1 : ∀ i, q (i + 1) = (10 * (q i).1 + (pl_fg f L 1 6 (q i).2).1, (pl_fg f L 1 6 (q i).2).2) := fun i => by rw [hq]; rfl
  have hq0 : q 0 = (0, (p + 1, 0)) := by rw [hq]; rfl
  rw [← hq] at oq
  obtain ⟨s2, hs2⟩ : ∃ s, s = pl_sgn f L 94 (q 4).2 := ⟨_, rfl⟩
  obtain ⟨w, hw⟩ : ∃ x, x = pl_fg f L 0 10 s2 := ⟨_, rfl⟩
  have hqq : r = (((q 4).1, w.1), w.2) := by rw [hr, hw, hs2, hq]; rfl
  have o2 : pl_so2 L s2 := by rw [hs2]; exact pl_sgn_ok (oq 4).1
  have hP : ∀ k i fu v, i + k = 4 → k < fu → (q i).2.2 = 0 →
      (r.2.2 = 0 ∧ ∃ v' y', fX11_readsTrunk_25 fu 33 (nI t) (nI (q i).1) (nI i) (pl_rf M (nI (q i).2.1) v n1 (nI nt) n3 x y z) = some (1, pl_rf M (nI r.2.1) v' n1 (nI (nt + 1)) n3 x y' z) ∧ y' (2 * nt) = nI r.1.1 ∧ y' (2 * nt + 1) = nI r.1.2 ∧ ∀ j, j < 2 * nt → y' j = y j) ∨
      (∃ q', r.2.2 = q' + 1 ∧ ∃ v' y', fX11_readsTrunk_25 fu 33 (nI t) (nI (q i).1) (nI i) (pl_rf M (nI (q i).2.1) v n1 (nI nt) n3 x y z) = some (0, pl_rf M (nI q') v' n1 (nI nt) n3 x y' z)) := by
    intro k
    induction k with
    | zero =>
      intro i fu v hi hfu h0
      obtain ⟨fu, rfl⟩ : ∃ q, fu = q + 1 := ⟨fu - 1, by omega⟩
      have hi4 : i = 4 := by omega
      subst hi4
      obtain ⟨y1, hy1⟩ : ∃ y1, y1 = pl_up y (2 * nt) (nI (q 4).1) := ⟨_, rfl⟩
      have hgo : ∀ {R : Option (Int32 × ml_M)}, fX11_sign 33 (nI t) 94 (pl_rf M (nI (q 4).2.1) v n1 (nI nt) n3 x y1 z) = R → fX11_readsTrunk_25 (fu + 1) 33 (nI t) (nI (q 4).1) (nI 4) (pl_rf M (nI (q 4).2.1) v n1 (nI nt) n3 x y z) = ml_b2 R fun r1148 m1149 => if r1148 = 0 then some ((0 : Int32), m1149) else if (ml_K m1149 33).1 = 11 then ml_b2 (fX11_figure 33 (nI t) (0 : Int32) (9 : Int32) m1149) fun r1152 m1153 => if r1152 = 0 then some ((0 : Int32), m1153) else if (ml_K m1153 33).1 = 11 then ml_let (ml_R m1153 33 21) fun a1155 => if ml_in m1153 a1155 20 (((2 : Int32) * (ml_I m1153 33 18)) + (1 : Int32)) then ml_let (ml_sI m1153 a1155 (((2 : Int32) * (ml_I m1153 33 18)) + (1 : Int32)).toNatClampNeg (ml_I m1153 33 16)) fun m1157 => ml_let (ml_sI m1157 33 18 ((ml_I m1157 33 18) + (1 : Int32))) fun m1159 => some ((1 : Int32), m1159) else none else none else none := fun {R} hR => by
        rw [fX11_readsTrunk_25, e4, if_pos (by decide)]
        unfold fX11_readsTrunk_58
        rw [← hR, if_pos (k330 _ _ _ _ _ _ _ _), pl_rf_R, r21, pl_let, pl_rf_33, pl_hh_18, e2, pk_mul, if_pos (by rw [pl_in (by omega), pl_rf_K, k44]; exact ⟨rfl, by show 2 * nt < 16; omega⟩), nI_clamp (by omega), pl_rf_s44, pl_let, ← hy1]
      have s1 := pl_sgnM h (c := 94) (by decide) (oq 4).1.1 v n1 (nI nt) n3 x y1 z
      rw [← pl_pe h0, ← hs2] at s1
      rcases s1 with ⟨z1, z2⟩ | ⟨z1, z2⟩
      · have s2' := pl_figM h (a := 0) (c := 10) (by decide) (by decide) o2.1 v n1 (nI nt) n3 x y1 z
        rw [← pl_pe z1, ← hw, e0, e9] at s2'
        rcases s2' with ⟨z3, z4⟩ | ⟨z3, v', z4⟩
        · left
          rw [hqq]
          refine ⟨z3, nI w.1, pl_up y1 (2 * nt + 1) (nI w.1), ?_, ?_, ?_, fun j hj => ?_⟩
          · rw [hgo z2, pl_b2, if_neg (show ¬ (1 : Int32) = 0 by decide), if_pos (k330 _ _ _ _ _ _ _ _), z4, pl_b2, if_neg (show ¬ (1 : Int32) = 0 by decide), if_pos (k330 _ _ _ _ _ _ _ _)]
            simp (disch := omega) only [↓pl_let, pl_b1, pl_b2, ↓reduceIte, pl_rf_R, pl_rf_K, r21, pl_rf_33, pl_hh_18, pl_hh_16, e2, pk_mul, nI_1, pl_in, nI_clamp, k44, show 2 * nt + 1 < 16 by omega, and_self, if_true, pl_rf_s44, pl_rf_s18]
          · rw [pl_up_n _ _ (by omega), hy1, pl_up_k]
          · rw [pl_up_k]
          · rw [pl_up_n _ _ (by omega), hy1, pl_up_n _ _ (by omega)]
        · right
          rw [hqq]
          refine ⟨s2.1, by rw [z3], v', y1, ?_⟩
          rw [hgo z2, pl_b2, if_neg (show ¬ (1 : Int32) = 0 by decide), if_pos (k330 _ _ _ _ _ _ _ _), z4, pl_b2, if_pos rfl]
      · right
        have hw2 : w = (0, s2) := by rw [hw, pl_fg_st f L 0 10 (by rw [z1]; exact Nat.succ_ne_zero _)]
        rw [hqq]
        refine ⟨(q 4).2.1, by rw [hw2, z1], v, y1, ?_⟩
        rw [hgo z2, pl_b2, if_pos rfl]
    | succ k ih =>
      intro i fu v hi hfu h0
      obtain ⟨fu, rfl⟩ : ∃ q, fu = q + 1 := ⟨fu - 1, by omega⟩
      have hlt : ¬ nI 4 ≤ nI i := by rw [nI_leI (by omega) (by omega)]; omega
      have s1 := pl_figM h (a := 1) (c := 6) (by decide) (by decide) (oq i).1.1 v n1 (nI nt) n3 x y z
      rw [← pl_pe h0, e1, e5] at s1
      rcases s1 with ⟨z1, z2⟩ | ⟨z1, v', z2⟩
      · have hih := ih (i + 1) fu (nI (pl_fg f L 1 6 (q i).2).1) (by omega) (by omega) (by rw [hq1]; exact z1)
        have e : fX11_readsTrunk_25 (fu + 1) 33 (nI t) (nI (q i).1) (nI i) (pl_rf M (nI (q i).2.1) v n1 (nI nt) n3 x y z) = fX11_readsTrunk_25 fu 33 (nI t) (nI (q (i + 1)).1) (nI (i + 1)) (pl_rf M (nI (q (i + 1)).2.1) (nI (pl_fg f L 1 6 (q i).2).1) n1 (nI nt) n3 x y z) := by
          rw [hq1]
          rw [fX11_readsTrunk_25, e4, if_neg hlt, if_pos (k330 _ _ _ _ _ _ _ _), z2, pl_b2, if_neg (show ¬ (1 : Int32) = 0 by decide), if_pos (k330 _ _ _ _ _ _ _ _), pl_rf_33, pl_hh_16, e10, pk_mul, nI_add, nI_1, pl_let]
        rw [e]; exact hih
      · right
        have h5 : (q (i + 1)).2 = ((q i).2.1, (q i).2.1 + 1) := by rw [hq1]; exact z1
        have h6 := st (i + 1) (by rw [h5]; exact Nat.succ_ne_zero _) k
        rw [show i + 1 + k = 4 by omega, h5] at h6
        have hs2' : s2 = ((q i).2.1, (q i).2.1 + 1) := by rw [hs2, pl_sgn_st f L 94 (by rw [h6]; exact Nat.succ_ne_zero _), h6]
        have hw2 : w = (0, s2) := by rw [hw, pl_fg_st f L 0 10 (by rw [hs2']; exact Nat.succ_ne_zero _)]
        rw [hqq]
        refine ⟨(q i).2.1, by rw [hw2, hs2'], v', y, ?_⟩
        rw [fX11_readsTrunk_25, e4, if_neg hlt, if_pos (k330 _ _ _ _ _ _ _ _), z2, pl_b2, if_pos rfl]
  have h0 := hP 4 0 ml_fu v (by decide) (by rw [pl_fu]; omega) (by rw [hq0])
  rw [hq0] at h0
  have hnt8 : ¬ nI nt = (8 : Int32) := by rw [e8, nI_eq (by omega) (by omega)]; omega
  have e : fX11_readsTrunk 33 (nI t) (pl_rf M (nI p) v n1 (nI nt) n3 x y z) = fX11_readsTrunk_25 ml_fu 33 (nI t) (nI 0) (nI 0) (pl_rf M (nI (p + 1)) v n1 (nI nt) n3 x y z) := by
    unfold fX11_readsTrunk
    rw [if_pos (k330 _ _ _ _ _ _ _ _), pl_rf_33, pl_hh_18, if_neg hnt8, pl_hh_15, nI_1, pl_rf_s15, pl_let]; rfl
  rw [e]
  exact h0
theorem pl_plM {M : ml_M} {t L : Nat} {f : Nat → Int32} (h : pl_txM M t L f) {p nt np : Nat} (hp : p < L) (hnt : nt ≤ 8) (hnp : np < 12) (v n1 : Int32) (x y z : Nat → Int32) {r : (Nat × Nat) × (Nat × Nat)} (hr : r = pl_plq f L nt p) :
    (r.2.2 = 0 ∧ ∃ v' z', fX11_readsPile 33 (nI t) (pl_rf M (nI p) v n1 (nI nt) (nI np) x y z) = some (1, pl_rf M (nI r.2.1) v' n1 (nI nt) (nI (np + 1)) x y z') ∧ z' (2 * np) = nI r.1.1 ∧ z' (2 * np + 1) = nI r.1.2 ∧ ∀ j, j < 2 * np → z' j = z j) ∨
    (∃ q, r.2.2 = q + 1 ∧ ∃ v', fX11_readsPile 33 (nI t) (pl_rf M (nI p) v n1 (nI nt) (nI np) x y z) = some (0, pl_rf M (nI q) v' n1 (nI nt) (nI np) x y z)) := by
  have hS := h.1
  have k33 := pl_k33 hS
  have k330 : ∀ p v a b c x y z, (ml_K (pl_rf M p v a b c x y z) 33).1 = 11 := fun p v a b c x y z => by rw [pl_rf_K, k33]
  have k45 := pl_k45 hS
  have r22 := pl_r33_22 hS
  have hL := h.2.2.1
  have e12 : (12 : Int32) = nI 12 := rfl
  have e2 : (2 : Int32) = nI 2 := rfl
  have e48 : (48 : Int32) = nI 48 := rfl
  have e0 : nI 0 = (0 : Int32) := rfl
  have o0 : pl_so2 L (p + 1, 0) := ⟨hp, Nat.zero_le _⟩
  obtain ⟨a, ha⟩ : ∃ x, x = pl_fg f L 0 nt (p + 1, 0) := ⟨_, rfl⟩
  obtain ⟨s, hs⟩ : ∃ s, s = pl_sgn f L 47 a.2 := ⟨_, rfl⟩
  obtain ⟨b, hb⟩ : ∃ y, y = pl_fg f L 0 nt s := ⟨_, rfl⟩
  have hrr : r = ((a.1, b.1), pl_pq2 a.1 s b) := by rw [hr, hb, hs, ha]; rfl
  have o1 : pl_so2 L a.2 ∧ a.1 ≤ 9 := by rw [ha]; exact pl_fg_ok o0 (by decide) (by omega)
  have o2 : pl_so2 L s := by rw [hs]; exact pl_sgn_ok o1.1
  have hnp12 : ¬ nI np = (12 : Int32) := by rw [e12, nI_eq (by omega) (by omega)]; omega
  have stk : b.2.2 ≠ 0 → pl_pq2 a.1 s b = b.2 := fun q => by unfold pl_pq2; rw [if_neg (fun q2 => q q2.1)]
  have s1 := pl_figM h (a := 0) (c := nt) (by decide) (by omega) o0.1 v n1 (nI nt) (nI np) x y z
  rw [← ha, e0] at s1
  rcases s1 with ⟨z1, z2⟩ | ⟨z1, v', z2⟩
  · have ha0 : (pl_fg f L 0 nt (p + 1, 0)).2.2 = 0 := by rw [← ha]; exact z1
    have hal := (pl_fg_lt (by decide) (by omega) ha0).2.2.1
    rw [← ha] at hal
    have s2 := pl_sgnM h (c := 47) (by decide) o1.1.1 (nI a.1) n1 (nI nt) (nI np) x y z
    rw [← pl_pe z1, ← hs] at s2
    rcases s2 with ⟨z3, z4⟩ | ⟨z3, z4⟩
    · have hbt := pl_btM h o2.1 (nI s.1) (nI a.1) n1 (nI nt) (nI np) x y z
      have hgo : fX11_readsPile 33 (nI t) (pl_rf M (nI p) v n1 (nI nt) (nI np) x y z) = if (if s.1 < L then f s.1 else 0) = nI (48 + a.1) then some ((0 : Int32), pl_rf M (nI s.1) (nI a.1) n1 (nI nt) (nI np) x y z) else ml_b2 (fX11_figure 33 (nI t) (0 : Int32) (nI nt - 1) (pl_rf M (nI s.1) (nI a.1) n1 (nI nt) (nI np) x y z)) fun r1185 m1186 => if r1185 = 0 then some ((0 : Int32), m1186) else if (ml_K m1186 33).1 = 11 then ml_let (ml_R m1186 33 22) fun a1188 => if ml_in m1186 a1188 20 ((2 : Int32) * (ml_I m1186 33 19)) then ml_let (ml_sI m1186 a1188 ((2 : Int32) * (ml_I m1186 33 19)).toNatClampNeg (nI a.1)) fun m1190 => ml_let (ml_R m1190 33 22) fun a1192 => if ml_in m1190 a1192 20 (((2 : Int32) * (ml_I m1190 33 19)) + (1 : Int32)) then ml_let (ml_sI m1190 a1192 (((2 : Int32) * (ml_I m1190 33 19)) + (1 : Int32)).toNatClampNeg (ml_I m1190 33 16)) fun m1194 => ml_let (ml_sI m1194 33 19 ((ml_I m1194 33 19) + (1 : Int32))) fun m1196 => some ((1 : Int32), m1196) else none else none else none := by
        unfold fX11_readsPile
        rw [if_pos (k330 _ _ _ _ _ _ _ _), pl_rf_33, pl_hh_19, if_neg hnp12, pl_hh_15, nI_1, pl_rf_s15, pl_let, pl_rf_33, pl_hh_18, z2, pl_b2, if_neg (show ¬ (1 : Int32) = 0 by decide), if_pos (k330 _ _ _ _ _ _ _ _), pl_rf_33, pl_hh_16, pl_let, z4, pl_b2, if_neg (show ¬ (1 : Int32) = 0 by decide), if_pos (k330 _ _ _ _ _ _ _ _), pl_rf_33, pl_hh_15, hbt, pl_b1, e48, nI_add, pl_hh_18]
      rw [hgo]
      by_cases heq : (if s.1 < L then f s.1 else 0) = nI (48 + a.1)
      · rw [if_pos heq]
        right
        have hsl : s.1 < L := by
          refine Classical.byContradiction fun q => ?_
          rw [if_neg q] at heq
          have h0 := pl_0eq (n := 48 + a.1) (by omega)
          rw [h0] at heq
          omega
        rw [if_pos hsl] at heq
        have hfv : pl_fgv f L 0 nt s.1 = true := decide_eq_true ⟨hsl, by rw [heq, nI_leI (by omega) (by omega)]; omega, by rw [heq, nI_ltI (by omega) (by omega)]; omega⟩
        have hfn : pl_fn f s.1 = a.1 := by unfold pl_fn; rw [heq, nI_clamp (by omega)]; omega
        have hb' : b = (a.1, (s.1 + 1, 0)) := by rw [hb]; unfold pl_fg; rw [if_pos z3, if_pos hfv, hfn]
        refine ⟨s.1, ?_, nI a.1, rfl⟩
        rw [hrr]
        show (pl_pq2 a.1 s b).2 = s.1 + 1
        unfold pl_pq2
        rw [hb', if_pos ⟨rfl, rfl⟩]
      · rw [if_neg heq]
        have s3 := pl_figM h (a := 0) (c := nt) (by decide) (by omega) o2.1 (nI a.1) n1 (nI nt) (nI np) x y z
        rw [← pl_pe z3, ← hb, e0] at s3
        rcases s3 with ⟨z5, z6⟩ | ⟨z5, v', z6⟩
        · left
          have hb0 : (pl_fg f L 0 nt s).2.2 = 0 := by rw [← hb]; exact z5
          obtain ⟨l1, l2, l3, l4, l5, l6, l7⟩ := pl_fg_lt (by decide) (by omega) hb0
          rw [← hb] at l2 l3 l5 l7
          have hne : b.1 ≠ a.1 := fun q => heq (by
            rw [if_pos l4, (pl_fgv_n l6 (by decide) (by omega)).2.1, ← l7, q])
          have hpq : pl_pq2 a.1 s b = b.2 := by unfold pl_pq2; rw [if_neg (fun q => hne q.2)]
          rw [hrr, hpq]
          refine ⟨z5, nI b.1, pl_up (pl_up z (2 * np) (nI a.1)) (2 * np + 1) (nI b.1), ?_, ?_, ?_, fun j hj => ?_⟩
          · rw [z6, pl_b2, if_neg (show ¬ (1 : Int32) = 0 by decide), if_pos (k330 _ _ _ _ _ _ _ _)]
            simp (disch := omega) only [↓pl_let, pl_b1, pl_b2, ↓reduceIte, pl_rf_R, pl_rf_K, r22, pl_rf_33, pl_hh_19, pl_hh_16, e2, pk_mul, nI_1, pl_in, nI_clamp, k45, show 2 * np < 24 by omega, show 2 * np + 1 < 24 by omega, and_self, if_true, pl_rf_s45, pl_rf_s19]
          · rw [pl_up_n _ _ (by omega), pl_up_k]
          · rw [pl_up_k]
          · rw [pl_up_n _ _ (by omega), pl_up_n _ _ (by omega)]
        · right
          rw [hrr]
          refine ⟨s.1, by rw [stk (by rw [z5]; exact Nat.succ_ne_zero _), z5], v', ?_⟩
          rw [z6, pl_b2, if_pos rfl]
    · right
      have hb' : b = (0, s) := by rw [hb, pl_fg_st f L 0 nt (by rw [z3]; exact Nat.succ_ne_zero _)]
      rw [hrr]
      refine ⟨a.2.1, by rw [stk (by rw [hb', z3]; exact Nat.succ_ne_zero _), hb', z3], nI a.1, ?_⟩
      unfold fX11_readsPile
      rw [if_pos (k330 _ _ _ _ _ _ _ _), pl_rf_33, pl_hh_19, if_neg hnp12, pl_hh_15, nI_1, pl_rf_s15, pl_let, pl_rf_33, pl_hh_18, z2, pl_b2, if_neg (show ¬ (1 : Int32) = 0 by decide), if_pos (k330 _ _ _ _ _ _ _ _), pl_rf_33, pl_hh_16, pl_let, z4, pl_b2, if_pos rfl]
  · right
    have hs' : s = (p + 1, p + 1 + 1) := by rw [hs, pl_sgn_st f L 47 (by rw [z1]; exact Nat.succ_ne_zero _), z1]
    have hb' : b = (0, s) := by rw [hb, pl_fg_st f L 0 nt (by rw [hs']; exact Nat.succ_ne_zero _)]
    rw [hrr]
    refine ⟨p + 1, by rw [stk (by rw [hb', hs']; exact Nat.succ_ne_zero _), hb', hs'], v', ?_⟩
    unfold fX11_readsPile
    rw [if_pos (k330 _ _ _ _ _ _ _ _), pl_rf_33, pl_hh_19, if_neg hnp12, pl_hh_15, nI_1, pl_rf_s15, pl_let, pl_rf_33, pl_hh_18, z2, pl_b2, if_pos rfl]

/-! A BOOK READ: the reference's lodger. -/
theorem pl_fg_st (f : Nat → Int32) (L a b : Nat) {s : Nat × Nat} (h : s.2 ≠ 0) : pl_fg f L a b s = (0, s) := by unfold pl_fg; rw [if_neg h]
theorem pl_sgn_st (f : Nat → Int32) (L : Nat) (c : Int32) {s : Nat × Nat} (h : s.2 ≠ 0) : pl_sgn f L c s = s := by unfold pl_sgn; rw [if_neg h]
theorem pl_yrp_st (f : Nat → Int32) (L : Nat) {s : Nat × Nat} (h : s.2 ≠ 0) : pl_yrp f L s = (0, s) := by
  unfold pl_yrp
  rw [pl_fg_st f L 0 10 h]
  dsimp only
  rw [if_neg (fun q => h q.1)]
theorem pl_s3q_st {y1 : Nat} {y2 : Nat × (Nat × Nat)} (h : y2.2.2 ≠ 0) : pl_s3q y1 y2 = y2.2 := by unfold pl_s3q; rw [if_neg (fun q => h q.1)]
theorem pl_pe {s : Nat × Nat} (h : s.2 = 0) : s = (s.1, 0) := by rw [← h]
theorem pl_l118 {M : ml_M} {t L : Nat} {f : Nat → Int32} (h : pl_txM M t L f) {c : Int32} (hc : c ≠ 0) {p D i : Nat} (hp : p ≤ L) (hD : D + i < 40) (v n1 n2 n3 : Int32) (x y z : Nat → Int32) (K : Nat → Int32 → Int32 → Int32 → ml_M → Option (Int32 × ml_M)) {r : Nat × (Nat × Nat)} (hr : r = pl_fg f L 1 10 (pl_sgn f L c (p, 0))) :
    (r.2.2 = 0 ∧ fX11_readsLodger_118 K 33 (nI t) (nI D) (nI i) c (nI t) 33 (pl_rf M (nI p) v n1 n2 n3 x y z) = K 33 (nI t) (nI D) (nI (i + 1)) (pl_rf M (nI r.2.1) (nI r.1) n1 n2 n3 (pl_up x (D + i) (nI r.1)) y z)) ∨
    (∃ q, r.2 = (q, q + 1) ∧ ∃ v', fX11_readsLodger_118 K 33 (nI t) (nI D) (nI i) c (nI t) 33 (pl_rf M (nI p) v n1 n2 n3 x y z) = some (0, pl_rf M (nI q) v' n1 n2 n3 x y z)) := by
  have hS := h.1
  have k33 := pl_k33 hS
  have k330 : ∀ p v a b c x y z, (ml_K (pl_rf M p v a b c x y z) 33).1 = 11 := fun p v a b c x y z => by rw [pl_rf_K, k33]
  have k43 := pl_k43 hS
  have r20 := pl_r33_20 hS
  have hso := pl_sgn_ok (f := f) (c := c) (s := (p, 0)) ⟨hp, Nat.zero_le _⟩
  obtain ⟨s, hs⟩ : ∃ s, s = pl_sgn f L c (p, 0) := ⟨_, rfl⟩
  have h1 := pl_sgnM h hc hp v n1 n2 n3 x y z
  rw [← hs] at h1 hso hr
  have e1 : nI 1 = (1 : Int32) := rfl
  have e9 : nI 10 - 1 = (9 : Int32) := by decide
  rcases h1 with ⟨z1, z2⟩ | ⟨z1, z2⟩
  · have h2 := pl_figM h (a := 1) (c := 10) (by decide) (by decide) hso.1 v n1 n2 n3 x y z
    rw [← pl_pe z1, ← hr, e1, e9] at h2
    rcases h2 with ⟨w1, w2⟩ | ⟨w1, v', w2⟩
    · left
      refine ⟨w1, ?_⟩
      unfold fX11_readsLodger_118
      rw [if_pos (k330 _ _ _ _ _ _ _ _), z2, pl_b2, if_neg (show ¬ (1 : Int32) = 0 by decide), if_pos (k330 _ _ _ _ _ _ _ _), w2, pl_b2, if_neg (show ¬ (1 : Int32) = 0 by decide), if_pos (k330 _ _ _ _ _ _ _ _)]
      simp (disch := omega) only [↓pl_let, pl_b1, pl_b2, ↓reduceIte, pl_rf_R, pl_rf_K, r20, pl_in, nI_add, nI_clamp, k43, hD, and_self, if_true, pl_rf_33, pl_hh_16, pl_rf_s43, nI_1]
    · right
      refine ⟨s.1, w1, v', ?_⟩
      unfold fX11_readsLodger_118
      rw [if_pos (k330 _ _ _ _ _ _ _ _), z2, pl_b2, if_neg (show ¬ (1 : Int32) = 0 by decide), if_pos (k330 _ _ _ _ _ _ _ _), w2, pl_b2, if_pos rfl]
  · right
    refine ⟨p, ?_, v, ?_⟩
    · rw [hr, pl_fg_st f L 1 10 (by rw [z1]; exact Nat.succ_ne_zero _), z1]
    · unfold fX11_readsLodger_118
      rw [if_pos (k330 _ _ _ _ _ _ _ _), z2, pl_b2, if_pos rfl]
theorem pl_l89 {M : ml_M} {t L : Nat} {f : Nat → Int32} (h : pl_txM M t L f) {p D : Nat} (hp : p ≤ L) (hD : D + 5 ≤ 40) (v : Int32) (n1 : Nat) (n2 n3 : Int32) (x y z : Nat → Int32) (a b : Nat) {r : (Nat → Nat) × (Nat × Nat)} (hr : r = pl_ldr f L a b (p, 0)) :
    (r.2.2 = 0 ∧ ∃ v' x', fX11_readsLodger_89 ml_fu 33 (nI t) (nI D) 2 (pl_rf M (nI p) v (nI n1) n2 n3 x y z) = some (1, pl_rf M (nI r.2.1) v' (nI (n1 + 1)) n2 n3 x' y z) ∧ (∀ k, 2 ≤ k → k < 5 → x' (D + k) = nI (r.1 k)) ∧ ∀ j, j < D + 2 → x' j = x j) ∨
    (∃ q, r.2.2 = q + 1 ∧ ∃ v' x', fX11_readsLodger_89 ml_fu 33 (nI t) (nI D) 2 (pl_rf M (nI p) v (nI n1) n2 n3 x y z) = some (0, pl_rf M (nI q) v' (nI n1) n2 n3 x' y z)) := by
  have hS := h.1
  have k33 := pl_k33 hS
  obtain ⟨fu, hfu⟩ : ∃ q, ml_fu = q + 1 + 1 + 1 + 1 := ⟨4194300, by rw [pl_fu]⟩
  rw [hfu]
  obtain ⟨r1, hr1⟩ : ∃ r1, r1 = pl_fg f L 1 10 (pl_sgn f L 115 (p, 0)) := ⟨_, rfl⟩
  obtain ⟨r2, hr2⟩ : ∃ r2, r2 = pl_fg f L 1 10 (pl_sgn f L 116 r1.2) := ⟨_, rfl⟩
  obtain ⟨r3, hr3⟩ : ∃ r3, r3 = pl_fg f L 1 10 (pl_sgn f L 104 r2.2) := ⟨_, rfl⟩
  have hrr : r = (pl_v5 a b r1.1 r2.1 r3.1, r3.2) := by rw [hr, hr3, hr2, hr1]; rfl
  have st2 : r1.2.2 ≠ 0 → r2.2 = r1.2 := fun q => by rw [hr2, pl_sgn_st f L 116 q, pl_fg_st f L 1 10 q]
  have st3 : r2.2.2 ≠ 0 → r3.2 = r2.2 := fun q => by rw [hr3, pl_sgn_st f L 104 q, pl_fg_st f L 1 10 q]
  have o1 : pl_so2 L r1.2 := by rw [hr1]; exact (pl_fg_ok (pl_sgn_ok ⟨hp, Nat.zero_le _⟩) (by decide) (by decide)).1
  have o2 : pl_so2 L r2.2 := by rw [hr2]; exact (pl_fg_ok (pl_sgn_ok o1) (by decide) (by decide)).1
  have e2 : (2 : Int32) = nI 2 := rfl
  have b2 : ∀ m, fX11_readsLodger_89 (fu + 1 + 1 + 1 + 1) 33 (nI t) (nI D) 2 m = fX11_readsLodger_118 (fX11_readsLodger_89 (fu + 1 + 1 + 1)) 33 (nI t) (nI D) (nI 2) 115 (nI t) 33 m := fun m => by
    rw [fX11_readsLodger_89, if_neg (show ¬ (5 : Int32) ≤ 2 by decide), if_pos rfl]; rfl
  have b3 : ∀ m, fX11_readsLodger_89 (fu + 1 + 1 + 1) 33 (nI t) (nI D) (nI 3) m = fX11_readsLodger_118 (fX11_readsLodger_89 (fu + 1 + 1)) 33 (nI t) (nI D) (nI 3) 116 (nI t) 33 m := fun m => by
    rw [fX11_readsLodger_89, if_neg (show ¬ (5 : Int32) ≤ nI 3 by decide), if_neg (show ¬ nI 3 = (2 : Int32) by decide), if_pos (show nI 3 = (3 : Int32) from rfl)]
  have b4 : ∀ m, fX11_readsLodger_89 (fu + 1 + 1) 33 (nI t) (nI D) (nI 4) m = fX11_readsLodger_118 (fX11_readsLodger_89 (fu + 1)) 33 (nI t) (nI D) (nI 4) 104 (nI t) 33 m := fun m => by
    rw [fX11_readsLodger_89, if_neg (show ¬ (5 : Int32) ≤ nI 4 by decide), if_neg (show ¬ nI 4 = (2 : Int32) by decide), if_neg (show ¬ nI 4 = (3 : Int32) by decide)]
  have b5 : ∀ m, fX11_readsLodger_89 (fu + 1) 33 (nI t) (nI D) (nI 5) m = fX11_readsLodger_155 33 m := fun m => by
    rw [fX11_readsLodger_89, if_pos (show (5 : Int32) ≤ nI 5 by decide)]
  rw [b2]
  have s1 := pl_l118 h (c := 115) (by decide) (D := D) (i := 2) hp (by omega) v (nI n1) n2 n3 x y z (fX11_readsLodger_89 (fu + 1 + 1 + 1)) hr1
  rcases s1 with ⟨z1, z2⟩ | ⟨q, z1, v', z2⟩
  · rw [z2, b3]
    have hr2' : r2 = pl_fg f L 1 10 (pl_sgn f L 116 (r1.2.1, 0)) := by rw [← pl_pe z1]; exact hr2
    have s2 := pl_l118 h (c := 116) (by decide) (D := D) (i := 3) o1.1 (by omega) (nI r1.1) (nI n1) n2 n3 (pl_up x (D + 2) (nI r1.1)) y z (fX11_readsLodger_89 (fu + 1 + 1)) hr2'
    rcases s2 with ⟨z3, z4⟩ | ⟨q, z3, v', z4⟩
    · rw [z4, b4]
      have hr3' : r3 = pl_fg f L 1 10 (pl_sgn f L 104 (r2.2.1, 0)) := by rw [← pl_pe z3]; exact hr3
      have s3 := pl_l118 h (c := 104) (by decide) (D := D) (i := 4) o2.1 (by omega) (nI r2.1) (nI n1) n2 n3 (pl_up (pl_up x (D + 2) (nI r1.1)) (D + 3) (nI r2.1)) y z (fX11_readsLodger_89 (fu + 1)) hr3'
      rcases s3 with ⟨z5, z6⟩ | ⟨q, z5, v', z6⟩
      · left
        rw [z6, b5, hrr]
        refine ⟨z5, nI r3.1, pl_up (pl_up (pl_up x (D + 2) (nI r1.1)) (D + 3) (nI r2.1)) (D + 4) (nI r3.1), ?_, fun k h2 h5 => ?_, fun j hj => ?_⟩
        · unfold fX11_readsLodger_155
          rw [pl_rf_K, if_pos (by rw [k33]), pl_rf_33, pl_hh_17, pl_rf_s17, pl_let, nI_1]
        · have hk : k = 2 ∨ k = 3 ∨ k = 4 := by omega
          rcases hk with rfl | rfl | rfl
          · rw [pl_up_n _ _ (by omega), pl_up_n _ _ (by omega), pl_up_k]; rfl
          · rw [pl_up_n _ _ (by omega), pl_up_k]; rfl
          · rw [pl_up_k]; rfl
        · rw [pl_up_n _ _ (by omega), pl_up_n _ _ (by omega), pl_up_n _ _ (by omega)]
      · right
        rw [hrr]
        exact ⟨q, by rw [z5], v', _, z6⟩
    · right
      have h3 := st3 (by rw [z3]; exact Nat.succ_ne_zero _)
      rw [hrr]
      exact ⟨q, by rw [h3, z3], v', _, z4⟩
  · right
    have h2 := st2 (by rw [z1]; exact Nat.succ_ne_zero _)
    have h3 := st3 (by rw [h2, z1]; exact Nat.succ_ne_zero _)
    rw [hrr]
    exact ⟨q, by rw [h3, h2, z1], v', _, z2⟩
theorem pl_ldM {M : ml_M} {t L : Nat} {f : Nat → Int32} (h : pl_txM M t L f) {p nl : Nat} (hp : p < L) (hnl : nl < 8) (v n2 n3 : Int32) (x y z : Nat → Int32) {r : (Nat → Nat) × (Nat × Nat)} (hr : r = pl_ldq f L p) :
    (r.2.2 = 0 ∧ ∃ v' x', fX11_readsLodger 33 (nI t) (pl_rf M (nI p) v (nI nl) n2 n3 x y z) = some (1, pl_rf M (nI r.2.1) v' (nI (nl + 1)) n2 n3 x' y z) ∧ (∀ k, k < 5 → x' (5 * nl + k) = nI (r.1 k)) ∧ ∀ j, j < 5 * nl → x' j = x j) ∨
    (∃ q, r.2.2 = q + 1 ∧ ∃ v' x', fX11_readsLodger 33 (nI t) (pl_rf M (nI p) v (nI nl) n2 n3 x y z) = some (0, pl_rf M (nI q) v' (nI nl) n2 n3 x' y z)) := by
  have hS := h.1
  have k33 := pl_k33 hS
  have k330 : ∀ p v a b c x y z, (ml_K (pl_rf M p v a b c x y z) 33).1 = 11 := fun p v a b c x y z => by rw [pl_rf_K, k33]
  have k43 := pl_k43 hS
  have r20 := pl_r33_20 hS
  have hL := h.2.2.1
  have e8 : (8 : Int32) = nI 8 := rfl
  have e5 : (5 : Int32) = nI 5 := rfl
  have e1 : (1 : Int32) = nI 1 := rfl
  have e0 : (0 : Int32) = nI 0 := rfl
  have o0 : pl_so2 L (p + 1, 0) := ⟨hp, Nat.zero_le _⟩
  obtain ⟨y1, hy1⟩ : ∃ y, y = pl_yrp f L (p + 1, 0) := ⟨_, rfl⟩
  have o1 := pl_yrp_ok (f := f) o0
  rw [← hy1] at o1
  obtain ⟨s2, hs2⟩ : ∃ s, s = pl_sgn f L 45 y1.2 := ⟨_, rfl⟩
  have o2 := pl_sgn_ok (f := f) (c := 45) o1.1
  rw [← hs2] at o2
  obtain ⟨y2, hy2⟩ : ∃ y, y = pl_yrp f L s2 := ⟨_, rfl⟩
  have o3 := pl_yrp_ok (f := f) o2
  rw [← hy2] at o3
  obtain ⟨s3, hs3⟩ : ∃ s, s = pl_s3q y1.1 y2 := ⟨_, rfl⟩
  have hrr : r = pl_ldr f L y1.1 y2.1 s3 := by rw [hr, hs3, hy2, hs2, hy1]; rfl
  have hstick : s3.2 ≠ 0 → r.2 = s3 := fun q => by
    rw [hrr]
    unfold pl_ldr
    dsimp only
    rw [pl_sgn_st f L 115 q, pl_fg_st f L 1 10 q]
    dsimp only
    rw [pl_sgn_st f L 116 q, pl_fg_st f L 1 10 q]
    dsimp only
    rw [pl_sgn_st f L 104 q, pl_fg_st f L 1 10 q]
  have hin0 : ∀ (X : ml_M), ml_R X 33 20 = 43 → ml_K X 43 = (20, 40) → ml_in X 43 20 (nI (5 * nl)) := fun X _ h2 => by
    rw [pl_in (by omega), h2]; exact ⟨rfl, by show 5 * nl < 40; omega⟩
  have hin1 : ∀ (X : ml_M), ml_R X 33 20 = 43 → ml_K X 43 = (20, 40) → ml_in X 43 20 (nI (5 * nl + 1)) := fun X _ h2 => by
    rw [pl_in (by omega), h2]; exact ⟨rfl, by show 5 * nl + 1 < 40; omega⟩
  have cl0 : (nI (5 * nl)).toNatClampNeg = 5 * nl := nI_clamp (by omega)
  have cl1 : (nI (5 * nl) + (1 : Int32)).toNatClampNeg = 5 * nl + 1 := by rw [nI_1, nI_clamp (by omega)]
  have hnl8 : ¬ nI nl = (8 : Int32) := by rw [e8, nI_eq (by omega) (by omega)]; omega
  have s1 := pl_yrM h (low := 0) (by decide) o0.1 v (nI nl) n2 n3 x y z
  rw [← hy1, nI_0] at s1
  have hhead : ∀ {R : Option (Int32 × ml_M)}, fX11_year 33 (nI t) 0 (pl_rf M (nI (p + 1)) v (nI nl) n2 n3 x y z) = R → fX11_readsLodger 33 (nI t) (pl_rf M (nI p) v (nI nl) n2 n3 x y z) = ml_b2 R fun r1121 m1122 => if r1121 = 0 then some ((0 : Int32), m1122) else if (ml_K m1122 33).1 = 11 then ml_let (ml_R m1122 33 20) fun a1124 => if ml_in m1122 a1124 20 (nI (5 * nl)) then ml_let (ml_sI m1122 a1124 (nI (5 * nl)).toNatClampNeg (ml_I m1122 33 16)) fun m1126 => ml_b2 (fX11_sign 33 (nI t) (45 : Int32) m1126) fun r1129 m1130 => if r1129 = 0 then some ((0 : Int32), m1130) else if (ml_K m1130 33).1 = 11 then ml_let (ml_R m1130 33 20) fun a1132 => if ml_in m1130 a1132 20 (nI (5 * nl)) then ml_b2 (fX11_year 33 (nI t) (ml_I m1130 a1132 (nI (5 * nl)).toNatClampNeg) m1130) fun r1135 m1136 => if r1135 = 0 then some ((0 : Int32), m1136) else if (ml_K m1136 33).1 = 11 then ml_let (ml_R m1136 33 20) fun a1138 => if ml_in m1136 a1138 20 (nI (5 * nl) + (1 : Int32)) then ml_let (ml_sI m1136 a1138 (nI (5 * nl) + (1 : Int32)).toNatClampNeg (ml_I m1136 33 16)) fun m1140 => fX11_readsLodger_89 ml_fu 33 (nI t) (nI (5 * nl)) (2 : Int32) m1140 else none else none else none else none else none else none := fun {R} hR => by
    rw [← hR]
    unfold fX11_readsLodger
    rw [if_pos (k330 _ _ _ _ _ _ _ _), pl_rf_33, pl_hh_17, if_neg hnl8, pl_hh_15, pl_rf_s15, pl_let, nI_1, pl_rf_33, pl_hh_17, e5, pk_mul, pl_let]
  rcases s1 with ⟨z1, z2⟩ | ⟨z1, v', z2⟩
  · rw [if_pos (Nat.zero_le _)] at z2
    rw [hhead z2, pl_b2, if_neg (show ¬ (1 : Int32) = 0 by decide), if_pos (k330 _ _ _ _ _ _ _ _), pl_rf_R, r20, pl_let, if_pos (hin0 _ (by rw [pl_rf_R, r20]) (by rw [pl_rf_K, k43]))]
    simp only [cl0, cl1]
    rw [pl_rf_33, pl_hh_16, pl_rf_s43, pl_let]
    have s2' := pl_sgnM h (c := 45) (by decide) o1.1.1 (nI y1.1) (nI nl) n2 n3 (pl_up x (5 * nl) (nI y1.1)) y z
    rw [← pl_pe z1, ← hs2] at s2'
    rcases s2' with ⟨z3, z4⟩ | ⟨z3, z4⟩
    · rw [z4, pl_b2, if_neg (show ¬ (1 : Int32) = 0 by decide), if_pos (k330 _ _ _ _ _ _ _ _), pl_rf_R, r20, pl_let, if_pos (hin0 _ (by rw [pl_rf_R, r20]) (by rw [pl_rf_K, k43])), pl_rf_43, pl_up_k]
      have s3' := pl_yrM h (low := y1.1) o1.2 o2.1 (nI y1.1) (nI nl) n2 n3 (pl_up x (5 * nl) (nI y1.1)) y z
      rw [← pl_pe z3, ← hy2] at s3'
      rcases s3' with ⟨z5, z6⟩ | ⟨z5, v', z6⟩
      · by_cases hle : y1.1 ≤ y2.1
        · rw [if_pos hle] at z6
          have hs3' : s3 = (y2.2.1, 0) := by
            rw [hs3]; unfold pl_s3q; rw [if_neg (fun q => q.2 hle)]; exact pl_pe z5
          rw [z6, pl_b2, if_neg (show ¬ (1 : Int32) = 0 by decide), if_pos (k330 _ _ _ _ _ _ _ _), pl_rf_R, r20, pl_let, nI_1, if_pos (hin1 _ (by rw [pl_rf_R, r20]) (by rw [pl_rf_K, k43])), pl_rf_33, pl_hh_16, pl_rf_s43, pl_let]
          rw [hs3'] at hrr
          have s4 := pl_l89 h (D := 5 * nl) o3.1.1 (by omega) (nI y2.1) nl n2 n3 (pl_up (pl_up x (5 * nl) (nI y1.1)) (5 * nl + 1) (nI y2.1)) y z y1.1 y2.1 hrr
          rcases s4 with ⟨w1, v', x', w2, w3, w4⟩ | ⟨q, w1, v', x', w2⟩
          · left
            refine ⟨w1, v', x', w2, fun k hk => ?_, fun j hj => ?_⟩
            · by_cases hk2 : 2 ≤ k
              · exact w3 k hk2 hk
              · rw [w4 _ (by omega), hrr]
                have hk3 : k = 0 ∨ k = 1 := by omega
                rcases hk3 with rfl | rfl
                · show pl_up (pl_up x (5 * nl) (nI y1.1)) (5 * nl + 1) (nI y2.1) (5 * nl) = nI y1.1
                  rw [pl_up_n _ _ (by omega), pl_up_k]
                · rw [pl_up_k]; rfl
            · rw [w4 j (by omega), pl_up_n _ _ (by omega), pl_up_n _ _ (by omega)]
          · right
            exact ⟨q, w1, v', x', w2⟩
        · rw [if_neg hle] at z6
          have hs3' : s3 = (y2.2.1, y2.2.1 + 1) := by
            rw [hs3]; unfold pl_s3q; rw [if_pos ⟨z5, hle⟩]
          right
          refine ⟨y2.2.1, by rw [hstick (by rw [hs3']; exact Nat.succ_ne_zero _), hs3'], nI y2.1, pl_up x (5 * nl) (nI y1.1), ?_⟩
          rw [z6, pl_b2, if_pos rfl]
      · right
        have hs3' : s3 = (s2.1, s2.1 + 1) := by
          rw [hs3, pl_s3q_st (by rw [z5]; exact Nat.succ_ne_zero _), z5]
        refine ⟨s2.1, by rw [hstick (by rw [hs3']; exact Nat.succ_ne_zero _), hs3'], v', pl_up x (5 * nl) (nI y1.1), ?_⟩
        rw [z6, pl_b2, if_pos rfl]
    · right
      have hy2' : y2 = (0, s2) := by rw [hy2, pl_yrp_st f L (by rw [z3]; exact Nat.succ_ne_zero _)]
      have hs3' : s3 = (y1.2.1, y1.2.1 + 1) := by
        rw [hs3, pl_s3q_st (by rw [hy2', z3]; exact Nat.succ_ne_zero _), hy2', z3]
      refine ⟨y1.2.1, by rw [hstick (by rw [hs3']; exact Nat.succ_ne_zero _), hs3'], nI y1.1, pl_up x (5 * nl) (nI y1.1), ?_⟩
      rw [z4, pl_b2, if_pos rfl]
  · right
    have hs2' : s2 = (p + 1, p + 1 + 1) := by rw [hs2, pl_sgn_st f L 45 (by rw [z1]; exact Nat.succ_ne_zero _), z1]
    have hy2' : y2 = (0, s2) := by rw [hy2, pl_yrp_st f L (by rw [hs2']; exact Nat.succ_ne_zero _)]
    have hs3' : s3 = (p + 1, p + 1 + 1) := by
      rw [hs3, pl_s3q_st (by rw [hy2', hs2']; exact Nat.succ_ne_zero _), hy2', hs2']
    refine ⟨p + 1, by rw [hstick (by rw [hs3']; exact Nat.succ_ne_zero _), hs3'], v', x, ?_⟩
    rw [hhead z2, pl_b2, if_pos rfl]

/-! A BOOK READ: the reference's item, all its items. -/
def pl_RB (B : pl_A) (x y z : Nat → Int32) : Prop := (∀ l, l < pl_N B 0 0 0 → ∀ k, k < 5 → x (5 * l + k) = nI (pl_N B 1 l k)) ∧ (∀ t, t < pl_N B 0 1 0 → ∀ k, k < 2 → y (2 * t + k) = nI (pl_N B 2 t k)) ∧ ∀ q, q < pl_N B 0 2 0 → ∀ k, k < 2 → z (2 * q + k) = nI (pl_N B 3 q k)
theorem pl_itM {M : ml_M} {t L : Nat} {f : Nat → Int32} (h : pl_txM M t L f) {B : pl_A} (hB : pl_BW B) {p : Nat} (hp : p < L) (h32 : f p ≠ 32) (v : Int32) {x y z : Nat → Int32} (hR : pl_RB B x y z) {r : pl_A × (Nat × Nat)} (hr : r = pl_item f L B p) :
    (r.2.2 = 0 ∧ ∃ v' x' y' z', fX11_readsItem 33 (nI t) (pl_rf M (nI p) v (nI (pl_N B 0 0 0)) (nI (pl_N B 0 1 0)) (nI (pl_N B 0 2 0)) x y z) = some (1, pl_rf M (nI r.2.1) v' (nI (pl_N r.1 0 0 0)) (nI (pl_N r.1 0 1 0)) (nI (pl_N r.1 0 2 0)) x' y' z') ∧ pl_RB r.1 x' y' z') ∨
    (∃ q, r.2.2 = q + 1 ∧ ∃ v' x' y' z', fX11_readsItem 33 (nI t) (pl_rf M (nI p) v (nI (pl_N B 0 0 0)) (nI (pl_N B 0 1 0)) (nI (pl_N B 0 2 0)) x y z) = some (0, pl_rf M (nI q) v' (nI (pl_N B 0 0 0)) (nI (pl_N B 0 1 0)) (nI (pl_N B 0 2 0)) x' y' z')) := by
  obtain ⟨⟨b1, b2, b3⟩, wl, wt, wp⟩ := id hB
  obtain ⟨q1, q2, q3⟩ := hR
  have hS := h.1
  have k33 := pl_k33 hS
  have k330 : ∀ p v a b c x y z, (ml_K (pl_rf M p v a b c x y z) 33).1 = 11 := fun p v a b c x y z => by rw [pl_rf_K, k33]
  have hbt := pl_btM h (Nat.le_of_lt hp) (nI p) v (nI (pl_N B 0 0 0)) (nI (pl_N B 0 1 0)) (nI (pl_N B 0 2 0)) x y z
  rw [if_pos hp] at hbt
  have e8 : (8 : Int32) = nI 8 := rfl
  have e12 : (12 : Int32) = nI 12 := rfl
  have hhead : fX11_readsItem 33 (nI t) (pl_rf M (nI p) v (nI (pl_N B 0 0 0)) (nI (pl_N B 0 1 0)) (nI (pl_N B 0 2 0)) x y z) = if f p = (107 : Int32) then ml_b2 (fX11_readsTrunk 33 (nI t) (pl_rf M (nI p) v (nI (pl_N B 0 0 0)) (nI (pl_N B 0 1 0)) (nI (pl_N B 0 2 0)) x y z)) fun r1202 m1203 => if r1202 = 0 ∨ r1202 = 1 then some (r1202, m1203) else none else if f p = (108 : Int32) then ml_b2 (fX11_readsLodger 33 (nI t) (pl_rf M (nI p) v (nI (pl_N B 0 0 0)) (nI (pl_N B 0 1 0)) (nI (pl_N B 0 2 0)) x y z)) fun r1208 m1209 => if r1208 = 0 ∨ r1208 = 1 then some (r1208, m1209) else none else if f p = (117 : Int32) then ml_b2 (fX11_readsPile 33 (nI t) (pl_rf M (nI p) v (nI (pl_N B 0 0 0)) (nI (pl_N B 0 1 0)) (nI (pl_N B 0 2 0)) x y z)) fun r1214 m1215 => if r1214 = 0 ∨ r1214 = 1 then some (r1214, m1215) else none else some ((0 : Int32), pl_rf M (nI p) v (nI (pl_N B 0 0 0)) (nI (pl_N B 0 1 0)) (nI (pl_N B 0 2 0)) x y z) := by
    unfold fX11_readsItem
    rw [if_pos (k330 _ _ _ _ _ _ _ _), pl_rf_33, pl_hh_15, hbt, pl_b1]
  have c01 : ((0 : Int32) = 0 ∨ (0 : Int32) = 1) := Or.inl rfl
  have c11 : ((1 : Int32) = 0 ∨ (1 : Int32) = 1) := Or.inr rfl
  unfold pl_item at hr
  rw [if_neg h32] at hr
  by_cases c2 : f p = 108 ∧ pl_N B 0 0 0 < 8
  · rw [if_pos c2] at hr
    have n107 : ¬ f p = 107 := by rw [c2.1]; decide
    obtain ⟨d, hd⟩ : ∃ d, d = pl_ldq f L p := ⟨_, rfl⟩
    rw [← hd] at hr
    rcases pl_ldM h hp c2.2 v (nI (pl_N B 0 1 0)) (nI (pl_N B 0 2 0)) x y z hd with ⟨z1, v', x', z2, z3, z4⟩ | ⟨q, z1, v', x', z2⟩
    · left
      rw [if_pos z1] at hr
      rw [hr]
      refine ⟨z1, v', x', y, z, ?_, fun l hl k hk => ?_, q2, q3⟩
      · rw [hhead, if_neg n107, if_pos c2.1, z2, pl_b2, if_pos c11]; rfl
      · have hl : l < pl_N B 0 0 0 + 1 := hl
        have nk := pl_aL_1 B d.1 l k
        show x' (5 * l + k) = nI (pl_N (pl_aL B d.1) 1 l k)
        rw [nk]
        by_cases hlc : l = pl_N B 0 0 0
        · rw [if_pos hlc, hlc]; exact z3 k hk
        · rw [if_neg hlc, z4 _ (by omega)]; exact q1 l (by omega) k hk
    · right
      rw [hr]
      refine ⟨q, z1, v', x', y, z, ?_⟩
      rw [hhead, if_neg n107, if_pos c2.1, z2, pl_b2, if_pos c01]
  rw [if_neg c2] at hr
  by_cases c3 : f p = 107 ∧ pl_N B 0 1 0 < 8
  · rw [if_pos c3] at hr
    obtain ⟨d, hd⟩ : ∃ d, d = pl_trkq f L p := ⟨_, rfl⟩
    rw [← hd] at hr
    rcases pl_trnkM h hp c3.2 v (nI (pl_N B 0 0 0)) (nI (pl_N B 0 2 0)) x y z hd with ⟨z1, v', y', z2, z3, z4, z5⟩ | ⟨q, z1, v', y', z2⟩
    · left
      rw [if_pos z1] at hr
      rw [hr]
      refine ⟨z1, v', x, y', z, ?_, q1, fun l hl k hk => ?_, q3⟩
      · rw [hhead, if_pos c3.1, z2, pl_b2, if_pos c11]; rfl
      · have hl : l < pl_N B 0 1 0 + 1 := hl
        have nk := pl_aT_2 B d.1.1 d.1.2 l k
        show y' (2 * l + k) = nI (pl_N (pl_aT B d.1.1 d.1.2) 2 l k)
        rw [nk]
        by_cases hlc : l = pl_N B 0 1 0
        · have hk2 : k = 0 ∨ k = 1 := by omega
          rw [if_pos hlc, hlc]
          rcases hk2 with rfl | rfl
          · rw [if_pos rfl]; exact z3
          · rw [if_neg (by decide)]; exact z4
        · rw [if_neg hlc, z5 _ (by omega)]; exact q2 l (by omega) k hk
    · right
      rw [hr]
      refine ⟨q, z1, v', x, y', z, ?_⟩
      rw [hhead, if_pos c3.1, z2, pl_b2, if_pos c01]
  rw [if_neg c3] at hr
  by_cases c4 : f p = 117 ∧ pl_N B 0 2 0 < 12
  · rw [if_pos c4] at hr
    have n107 : ¬ f p = 107 := by rw [c4.1]; decide
    have n108 : ¬ f p = 108 := by rw [c4.1]; decide
    obtain ⟨d, hd⟩ : ∃ d, d = pl_plq f L (pl_N B 0 1 0) p := ⟨_, rfl⟩
    rw [← hd] at hr
    rcases pl_plM h hp b2 c4.2 v (nI (pl_N B 0 0 0)) x y z hd with ⟨z1, v', z', z2, z3, z4, z5⟩ | ⟨q, z1, v', z2⟩
    · left
      rw [if_pos z1] at hr
      rw [hr]
      refine ⟨z1, v', x, y, z', ?_, q1, q2, fun l hl k hk => ?_⟩
      · rw [hhead, if_neg n107, if_neg n108, if_pos c4.1, z2, pl_b2, if_pos c11]; rfl
      · have hl : l < pl_N B 0 2 0 + 1 := hl
        have nk := pl_aP_3 B d.1.1 d.1.2 l k
        show z' (2 * l + k) = nI (pl_N (pl_aP B d.1.1 d.1.2) 3 l k)
        rw [nk]
        by_cases hlc : l = pl_N B 0 2 0
        · have hk2 : k = 0 ∨ k = 1 := by omega
          rw [if_pos hlc, hlc]
          rcases hk2 with rfl | rfl
          · rw [if_pos rfl]; exact z3
          · rw [if_neg (by decide)]; exact z4
        · rw [if_neg hlc, z5 _ (by omega)]; exact q3 l (by omega) k hk
    · right
      rw [hr]
      refine ⟨q, z1, v', x, y, z, ?_⟩
      rw [hhead, if_neg n107, if_neg n108, if_pos c4.1, z2, pl_b2, if_pos c01]
  rw [if_neg c4] at hr
  right
  rw [hr]
  refine ⟨p, rfl, v, x, y, z, ?_⟩
  rw [hhead]
  by_cases d1 : f p = 107
  · have hn8 : pl_N B 0 1 0 = 8 := by
      have : ¬ pl_N B 0 1 0 < 8 := fun q => c3 ⟨d1, q⟩
      omega
    have hX : fX11_readsTrunk 33 (nI t) (pl_rf M (nI p) v (nI (pl_N B 0 0 0)) (nI (pl_N B 0 1 0)) (nI (pl_N B 0 2 0)) x y z) = some (0, pl_rf M (nI p) v (nI (pl_N B 0 0 0)) (nI (pl_N B 0 1 0)) (nI (pl_N B 0 2 0)) x y z) := by
      unfold fX11_readsTrunk
      rw [if_pos (k330 _ _ _ _ _ _ _ _), pl_rf_33, pl_hh_18, if_pos (by rw [hn8]; rfl)]
    rw [if_pos d1, hX, pl_b2, if_pos c01]
  rw [if_neg d1]
  by_cases d2 : f p = 108
  · have hn8 : pl_N B 0 0 0 = 8 := by
      have : ¬ pl_N B 0 0 0 < 8 := fun q => c2 ⟨d2, q⟩
      omega
    have hX : fX11_readsLodger 33 (nI t) (pl_rf M (nI p) v (nI (pl_N B 0 0 0)) (nI (pl_N B 0 1 0)) (nI (pl_N B 0 2 0)) x y z) = some (0, pl_rf M (nI p) v (nI (pl_N B 0 0 0)) (nI (pl_N B 0 1 0)) (nI (pl_N B 0 2 0)) x y z) := by
      unfold fX11_readsLodger
      rw [if_pos (k330 _ _ _ _ _ _ _ _), pl_rf_33, pl_hh_17, if_pos (by rw [hn8]; rfl)]
    rw [if_pos d2, hX, pl_b2, if_pos c01]
  rw [if_neg d2]
  by_cases d3 : f p = 117
  · have hn8 : pl_N B 0 2 0 = 12 := by
      have : ¬ pl_N B 0 2 0 < 12 := fun q => c4 ⟨d3, q⟩
      omega
    have hX : fX11_readsPile 33 (nI t) (pl_rf M (nI p) v (nI (pl_N B 0 0 0)) (nI (pl_N B 0 1 0)) (nI (pl_N B 0 2 0)) x y z) = some (0, pl_rf M (nI p) v (nI (pl_N B 0 0 0)) (nI (pl_N B 0 1 0)) (nI (pl_N B 0 2 0)) x y z) := by
      unfold fX11_readsPile
      rw [if_pos (k330 _ _ _ _ _ _ _ _), pl_rf_33, pl_hh_19, if_pos (by rw [hn8]; rfl)]
    rw [if_pos d3, hX, pl_b2, if_pos c01]
  rw [if_neg d3]
theorem pl_rdb_st {f : Nat → Int32} {L : Nat} {B : pl_A} {i : Nat} (h : ¬ ((pl_rdb f L B i).2.2 = 0 ∧ (pl_rdb f L B i).2.1 < L)) : ∀ j, pl_rdb f L B (i + j) = pl_rdb f L B i := by
  intro j
  induction j with
  | zero => rfl
  | succ j ih =>
    show pl_rdb f L B (i + j + 1) = _
    rw [pl_rdb1, ih, if_neg h]
theorem pl_fltM {M : ml_M} {t L : Nat} {f : Nat → Int32} (h : pl_txM M t L f) {B : pl_A} (hB : pl_BW B) (h0 : pl_N B 0 0 0 = 0 ∧ pl_N B 0 1 0 = 0 ∧ pl_N B 0 2 0 = 0) : ∃ p v a b c x y z, fX11_faultOf 33 (nI t) M = some (pl_e4 (pl_rdb f L B L).2.2, pl_rf M p v a b c x y z) ∧ ((pl_rdb f L B L).2.2 = 0 → (a = nI (pl_N (pl_rdb f L B L).1 0 0 0) ∧ b = nI (pl_N (pl_rdb f L B L).1 0 1 0) ∧ c = nI (pl_N (pl_rdb f L B L).1 0 2 0)) ∧ pl_RB (pl_rdb f L B L).1 x y z) := by
  have hS := h.1
  have k33 := pl_k33 hS
  have k330 : ∀ p v a b c x y z, (ml_K (pl_rf M p v a b c x y z) 33).1 = 11 := fun p v a b c x y z => by rw [pl_rf_K, k33]
  have k38 := pl_k38 hS
  have r7 := pl_r33_7 hS
  obtain ⟨-, ht4, hL, h38, -, -⟩ := id h
  have i38 : ∀ p v a b c x y z, ml_I (pl_rf M p v a b c x y z) 38 = ml_I M 38 := fun p v a b c x y z => pl_rf_o _ _ _ _ _ _ _ _ _ (by decide)
  have hmain : ∀ k i fu v x y z, i + k = L → k < fu → (pl_rdb f L B i).2.2 = 0 → pl_RB (pl_rdb f L B i).1 x y z →
      ∃ p v' a b c x' y' z', fX11_faultOf_20 fu 33 (nI t) (pl_rf M (nI (pl_rdb f L B i).2.1) v (nI (pl_N (pl_rdb f L B i).1 0 0 0)) (nI (pl_N (pl_rdb f L B i).1 0 1 0)) (nI (pl_N (pl_rdb f L B i).1 0 2 0)) x y z) = some (pl_e4 (pl_rdb f L B L).2.2, pl_rf M p v' a b c x' y' z') ∧ ((pl_rdb f L B L).2.2 = 0 → (a = nI (pl_N (pl_rdb f L B L).1 0 0 0) ∧ b = nI (pl_N (pl_rdb f L B L).1 0 1 0) ∧ c = nI (pl_N (pl_rdb f L B L).1 0 2 0)) ∧ pl_RB (pl_rdb f L B L).1 x' y' z') := by
    intro k
    induction k with
    | zero =>
      intro i fu v x y z hi hfu hz hR
      obtain ⟨fu, rfl⟩ : ∃ q, fu = q + 1 := ⟨fu - 1, by omega⟩
      rw [Nat.add_zero] at hi
      rw [hi] at hz hR ⊢
      obtain ⟨o1, o2, o3⟩ := pl_rdb_ok (f := f) (L := L) hB L
      have hge : L ≤ (pl_rdb f L B L).2.1 := by
        rcases o3 with q | q | q
        · exact absurd hz q
        · exact q
        · exact q
      have o21 := o2.1
      refine ⟨nI (pl_rdb f L B L).2.1, v, nI (pl_N (pl_rdb f L B L).1 0 0 0), nI (pl_N (pl_rdb f L B L).1 0 1 0), nI (pl_N (pl_rdb f L B L).1 0 2 0), x, y, z, ?_, fun _ => ⟨⟨rfl, rfl, rfl⟩, hR⟩⟩
      rw [fX11_faultOf_20, if_pos (k330 _ _ _ _ _ _ _ _), pl_rf_R, r7, pl_let, if_pos (by rw [pl_in (by omega), pl_rf_K, k38]; exact ⟨rfl, ht4⟩), i38, nI_clamp (by omega), h38, pl_rf_33, pl_hh_15, if_pos (by rw [nI_leI (by omega) (by omega)]; exact hge), hz]
      rfl
    | succ k ih =>
      intro i fu v x y z hi hfu hz hR
      obtain ⟨fu, rfl⟩ : ∃ q, fu = q + 1 := ⟨fu - 1, by omega⟩
      obtain ⟨o1, o2, o3⟩ := pl_rdb_ok (f := f) (L := L) hB i
      have o21 := o2.1
      obtain ⟨C, hC⟩ : ∃ C, C = (pl_rdb f L B i).1 := ⟨_, rfl⟩
      obtain ⟨p, hp⟩ : ∃ p, p = (pl_rdb f L B i).2.1 := ⟨_, rfl⟩
      have hst : ∀ m, fX11_faultOf_20 (fu + 1) 33 (nI t) (pl_rf M (nI p) v (nI (pl_N C 0 0 0)) (nI (pl_N C 0 1 0)) (nI (pl_N C 0 2 0)) x y z) = m ↔ (if L ≤ p then some ((-9 : Int32), pl_rf M (nI p) v (nI (pl_N C 0 0 0)) (nI (pl_N C 0 1 0)) (nI (pl_N C 0 2 0)) x y z) else if f p = 32 then fX11_faultOf_20 fu 33 (nI t) (pl_rf M (nI (p + 1)) v (nI (pl_N C 0 0 0)) (nI (pl_N C 0 1 0)) (nI (pl_N C 0 2 0)) x y z) else ml_b2 (fX11_readsItem 33 (nI t) (pl_rf M (nI p) v (nI (pl_N C 0 0 0)) (nI (pl_N C 0 1 0)) (nI (pl_N C 0 2 0)) x y z)) fun r1226 m1227 => if r1226 = 0 then fX11_faultOf_68 33 m1227 else fX11_faultOf_20 fu 33 (nI t) m1227) = m := fun m => by
        have hbt := pl_btM h (q := p) (by omega) (nI p) v (nI (pl_N C 0 0 0)) (nI (pl_N C 0 1 0)) (nI (pl_N C 0 2 0)) x y z
        rw [fX11_faultOf_20, if_pos (k330 _ _ _ _ _ _ _ _), pl_rf_R, r7, pl_let, if_pos (by rw [pl_in (by omega), pl_rf_K, k38]; exact ⟨rfl, ht4⟩), i38, nI_clamp (by omega), h38, pl_rf_33, pl_hh_15]
        by_cases hle : L ≤ p
        · rw [if_pos hle, if_pos (by rw [nI_leI (by omega) (by omega)]; exact hle)]
        · rw [if_neg hle, if_neg (by rw [nI_leI (by omega) (by omega)]; exact hle), hbt, pl_b1, if_pos (show p < L by omega)]
          by_cases hc : f p = 32
          · rw [if_pos hc, if_pos hc, nI_1, pl_rf_s15, pl_let]
          · rw [if_neg hc, if_neg hc]
      rw [← hC, ← hp]
      have hR' := hR
      rw [← hC] at hR' o1
      have hz' := hz
      by_cases hle : L ≤ p
      · have hstk := pl_rdb_st (f := f) (L := L) (B := B) (i := i) (fun q => by have := q.2; omega) (k + 1)
        rw [show i + (k + 1) = L by omega] at hstk
        rw [hstk, hz, ← hC]
        refine ⟨nI p, v, nI (pl_N C 0 0 0), nI (pl_N C 0 1 0), nI (pl_N C 0 2 0), x, y, z, ?_, fun _ => ⟨⟨rfl, rfl, rfl⟩, hR'⟩⟩
        rw [hst, if_pos hle]; rfl
      · have hlt : p < L := by omega
        have hnext : pl_rdb f L B (i + 1) = pl_item f L C p := by rw [pl_rdb1, if_pos ⟨hz, by omega⟩, ← hC, ← hp]
        by_cases hc : f p = 32
        · have hit : pl_item f L C p = (C, (p + 1, 0)) := by unfold pl_item; rw [if_pos hc]
          have hih := ih (i + 1) fu v x y z (by omega) (by omega) (by rw [hnext, hit]) (by rw [hnext, hit]; exact hR')
          rw [hnext, hit] at hih
          obtain ⟨p', v', a, b, c, x', y', z', w1, w2⟩ := hih
          refine ⟨p', v', a, b, c, x', y', z', ?_, w2⟩
          rw [hst, if_neg hle, if_pos hc]; exact w1
        · obtain ⟨r, hr⟩ : ∃ r, r = pl_item f L C p := ⟨_, rfl⟩
          rw [← hr] at hnext
          rcases pl_itM h o1 hlt hc v hR' hr with ⟨w1, v', x', y', z', w2, w3⟩ | ⟨q, w1, v', x', y', z', w2⟩
          · have hih := ih (i + 1) fu v' x' y' z' (by omega) (by omega) (by rw [hnext]; exact w1) (by rw [hnext]; exact w3)
            rw [hnext] at hih
            obtain ⟨p', v'', a, b, c, x'', y'', z'', u1, u2⟩ := hih
            refine ⟨p', v'', a, b, c, x'', y'', z'', ?_, u2⟩
            rw [hst, if_neg hle, if_neg hc, w2, pl_b2, if_neg (show ¬ (1 : Int32) = 0 by decide)]; exact u1
          · have hstk := pl_rdb_st (f := f) (L := L) (B := B) (i := i + 1) (fun q2 => by rw [hnext, w1] at q2; exact absurd q2.1 (Nat.succ_ne_zero _)) k
            rw [show i + 1 + k = L by omega, hnext] at hstk
            rw [hstk, w1]
            refine ⟨nI q, v', nI (pl_N C 0 0 0), nI (pl_N C 0 1 0), nI (pl_N C 0 2 0), x', y', z', ?_, fun q2 => absurd q2 (Nat.succ_ne_zero _)⟩
            rw [hst, if_neg hle, if_neg hc, w2, pl_b2, if_pos rfl]
            unfold fX11_faultOf_68
            rw [if_pos (k330 _ _ _ _ _ _ _ _), pl_rf_33, pl_hh_15]
            have e4 : pl_e4 (q + 1) = nI q := by unfold pl_e4; rw [if_neg (Nat.succ_ne_zero _), Nat.add_sub_cancel]
            rw [e4]
  have e0 : pl_rdb f L B 0 = (B, (0, 0)) := rfl
  have hR0 : pl_RB B (ml_I M 43) (ml_I M 44) (ml_I M 45) := ⟨fun l hl => by omega, fun l hl => by omega, fun l hl => by omega⟩
  have hm := hmain L 0 ml_fu (ml_I M 33 16) (ml_I M 43) (ml_I M 44) (ml_I M 45) (by omega) (by rw [pl_fu]; omega) (by rw [e0]) (by rw [e0]; exact hR0)
  rw [e0] at hm
  dsimp only at hm
  rw [h0.1, h0.2.1, h0.2.2] at hm
  have hst : fX11_faultOf 33 (nI t) M = fX11_faultOf_20 ml_fu 33 (nI t) (pl_rf M (nI 0) (ml_I M 33 16) (nI 0) (nI 0) (nI 0) (ml_I M 43) (ml_I M 44) (ml_I M 45)) := by
    have hM : M = pl_rf M (ml_I M 33 15) (ml_I M 33 16) (ml_I M 33 17) (ml_I M 33 18) (ml_I M 33 19) (ml_I M 43) (ml_I M 44) (ml_I M 45) := by
      have e : pl_hh M (ml_I M 33 15) (ml_I M 33 16) (ml_I M 33 17) (ml_I M 33 18) (ml_I M 33 19) = ml_I M 33 := by
        funext j
        unfold pl_hh
        by_cases h15 : j = 15
        · rw [if_pos h15, h15]
        · rw [if_neg h15]
          by_cases h16 : j = 16
          · rw [if_pos h16, h16]
          · rw [if_neg h16]
            by_cases h17 : j = 17
            · rw [if_pos h17, h17]
            · rw [if_neg h17]
              by_cases h18 : j = 18
              · rw [if_pos h18, h18]
              · rw [if_neg h18]
                by_cases h19 : j = 19
                · rw [if_pos h19, h19]
                · rw [if_neg h19]
      unfold pl_rf
      rw [e, pl_wI_0, pl_wI_0, pl_wI_0, pl_wI_0]
    have hw : ml_sI (ml_sI (ml_sI (ml_sI M 33 15 0) 33 17 0) 33 18 0) 33 19 0 = pl_rf M (nI 0) (ml_I M 33 16) (nI 0) (nI 0) (nI 0) (ml_I M 43) (ml_I M 44) (ml_I M 45) := by
      have h2 : ∀ X : ml_M, X = pl_rf M (ml_I M 33 15) (ml_I M 33 16) (ml_I M 33 17) (ml_I M 33 18) (ml_I M 33 19) (ml_I M 43) (ml_I M 44) (ml_I M 45) → ml_sI (ml_sI (ml_sI (ml_sI X 33 15 0) 33 17 0) 33 18 0) 33 19 0 = pl_rf M (nI 0) (ml_I M 33 16) (nI 0) (nI 0) (nI 0) (ml_I M 43) (ml_I M 44) (ml_I M 45) := fun X hX => by
        rw [hX, pl_rf_s15, pl_rf_s17, pl_rf_s18, pl_rf_s19]; rfl
      exact h2 M hM
    unfold fX11_faultOf
    rw [if_pos (by rw [k33]), pl_let, pl_let, pl_let, pl_let, hw]
  rw [hst]
  exact hm

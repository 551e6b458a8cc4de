/-! SHARINGS: how often, as the reference counts it; ways. -/
def pl_sq (Z : ml_M) (h g o : Nat → Int32) : ml_M := pl_wI (pl_wI (pl_wI Z 33 h) 50 g) 48 o
theorem pl_sq_33 (Z : ml_M) (h g o : Nat → Int32) : ml_I (pl_sq Z h g o) 33 = h := by unfold pl_sq; rw [pl_I_wI, if_neg (by decide), pl_I_wI, if_neg (by decide), pl_I_wI, if_pos rfl]
theorem pl_sq_50 (Z : ml_M) (h g o : Nat → Int32) : ml_I (pl_sq Z h g o) 50 = g := by unfold pl_sq; rw [pl_I_wI, if_neg (by decide), pl_I_wI, if_pos rfl]
theorem pl_sq_48 (Z : ml_M) (h g o : Nat → Int32) : ml_I (pl_sq Z h g o) 48 = o := by unfold pl_sq; rw [pl_I_wI, if_pos rfl]
theorem pl_sq_K (Z : ml_M) (h g o : Nat → Int32) : ml_K (pl_sq Z h g o) = ml_K Z := rfl
theorem pl_sq_R (Z : ml_M) (h g o : Nat → Int32) : ml_R (pl_sq Z h g o) = ml_R Z := rfl
theorem pl_sq_s33 (Z : ml_M) (h g o : Nat → Int32) (k : Nat) (v : Int32) : ml_sI (pl_sq Z h g o) 33 k v = pl_sq Z (pl_up h k v) g o := by
  unfold pl_sq; rw [pl_sIsw _ (by decide), pl_sIsw _ (by decide), pl_wI_sI]; rfl
theorem pl_sq_s50 (Z : ml_M) (h g o : Nat → Int32) (k : Nat) (v : Int32) : ml_sI (pl_sq Z h g o) 50 k v = pl_sq Z h (pl_up g k v) o := by
  unfold pl_sq; rw [pl_sIsw _ (by decide), pl_wI_sI]; rfl
theorem pl_sq_so (Z : ml_M) (h g o : Nat → Int32) (b : Int32) : pl_so (pl_wI (pl_wI Z 33 h) 50 g) b o = pl_sq Z (pl_up h 28 b) g o := by
  unfold pl_so pl_sq; rw [pl_sIsw _ (by decide), pl_wI_sI]; rfl
def pl_ea (nl : Nat) (W : List (List Nat)) : Nat := W.foldl (fun e w => e &&& pl_us w) (2 ^ nl - 1)
def pl_eo (W : List (List Nat)) : Nat := W.foldl (fun e w => e ||| pl_us w) 0
def pl_c5 (A : pl_A) (W : List (List Nat)) (y : Nat) : Nat := (W.filter fun w => pl_aq A w y).length
def pl_h33 (A : pl_A) (Z : ml_M) (W : List (List Nat)) (b : Int32) : Nat → Int32 := fun j => if j = 28 then b else if j = 30 then nI W.length else if j = 32 then nI (pl_ea (pl_N A 0 0 0) W) else if j = 33 then nI (pl_eo W) else ml_I Z 33 j
def pl_g50 (A : pl_A) (Z : ml_M) (W : List (List Nat)) : Nat → Int32 := pl_lo2 64 (pl_c5 A W) (ml_I Z 50)
def pl_lq (A : pl_A) (Z : ml_M) (W : List (List Nat)) (b : Int32) (o : Nat → Int32) : ml_M := pl_sq Z (pl_h33 A Z W b) (pl_g50 A Z W) o
theorem pl_lq_so (A : pl_A) (Z : ml_M) (W : List (List Nat)) (b b' : Int32) (o : Nat → Int32) : pl_so (pl_wI (pl_wI Z 33 (pl_h33 A Z W b')) 50 (pl_g50 A Z W)) b o = pl_lq A Z W b o := by
  rw [pl_sq_so]
  unfold pl_lq
  congr 1
  funext j
  unfold pl_up pl_h33
  by_cases h : j = 28
  · rw [if_pos h, if_pos h]
  · rw [if_neg h, if_neg h, if_neg h]
theorem pl_lq_mo (A : pl_A) (Z : ml_M) (W : List (List Nat)) (b : Int32) (o : Nat → Int32) : pl_mo Z (pl_lq A Z W b o) := (((pl_mo.refl Z).wI (by decide)).wI (by decide)).wI (by decide)
theorem pl_lq_kp (A : pl_A) (Z : ml_M) (W : List (List Nat)) (b : Int32) (o : Nat → Int32) : pl_kp Z (pl_lq A Z W b o) := by
  have h1 : pl_kp Z (pl_wI Z 33 (pl_h33 A Z W b)) := by
    refine ⟨fun a ha => ?_, fun k hk => ?_, rfl⟩
    · have h33 : a ≠ 33 := by revert ha; revert a; decide
      rw [pl_I_wI, if_neg h33]
    · have hk4 : k ≠ 28 ∧ k ≠ 30 ∧ k ≠ 32 ∧ k ≠ 33 := by revert hk; revert k; decide
      rw [pl_I_wI, if_pos rfl]
      unfold pl_h33
      rw [if_neg hk4.1, if_neg hk4.2.1, if_neg hk4.2.2.1, if_neg hk4.2.2.2]
  exact (h1.wI (by decide)).wI (by decide)
def pl_d8b (w : List Nat) (t : Nat) (g : Nat → Int32) : Nat → Int32 := fun y => if y < 64 ∧ y / 8 < t ∧ w.getD (y / 8) 0 = y % 8 then g y + 1 else g y
theorem pl_d8b1 {w : List Nat} {t : Nat} (g : Nat → Int32) (ht : t < 8) (hw : w.getD t 0 < 8) : pl_up (pl_d8b w t g) (8 * t + w.getD t 0) (g (8 * t + w.getD t 0) + 1) = pl_d8b w (t + 1) g := by
  funext y
  unfold pl_up pl_d8b
  by_cases h : y = 8 * t + w.getD t 0
  · have e1 : y / 8 = t := by omega
    have e2 : y % 8 = w.getD t 0 := by omega
    rw [if_pos h, if_pos ⟨by omega, by omega, by rw [e1, e2]⟩, h]
  · rw [if_neg h]
    by_cases c : y < 64 ∧ y / 8 < t ∧ w.getD (y / 8) 0 = y % 8
    · rw [if_pos c, if_pos ⟨c.1, by omega, c.2.2⟩]
    · rw [if_neg c, if_neg]
      rintro ⟨z1, z2, z3⟩
      by_cases e1 : y / 8 = t
      · rw [e1] at z3; omega
      · exact c ⟨z1, by omega, z3⟩
theorem pl_filt_eq {p q : List Nat → Bool} (L : List (List Nat)) (h : ∀ w ∈ L, p w = q w) : L.filter p = L.filter q := by
  induction L with
  | nil => rfl
  | cons w L ih => rw [List.filter_cons, List.filter_cons, h w List.mem_cons_self, ih fun x hx => h x (List.mem_cons_of_mem _ hx)]
theorem pl_of_sf (A : pl_A) (n : Nat) : (pl_gv (pl_N A 0 0 0) (pl_N A 0 1 0) []).filter (pl_sf2 A n) = pl_of A n := by
  unfold pl_of pl_S
  rw [List.filter_filter]
  refine pl_filt_eq _ fun w _ => ?_
  unfold pl_sf2
  rw [Bool.and_comm]
theorem pl_c2 {α β γ : Type} {f : α → β → γ} {a a' : α} {b b' : β} (h1 : a = a') (h2 : b = b') : f a b = f a' b' := by rw [h1, h2]
theorem pl_layOft {A : pl_A} {M : ml_M} (hS : pl_Sh M) (hW : pl_W A) (hM : pl_M A M) {n : Nat} (hn : n ≤ 20) : ∃ o, fX11_layOften 33 (nI n) M = some (pl_lq A M (pl_of A n) 1 o) := by
  have hww := hW.1
  unfold pl_Wc at hww
  obtain ⟨p1, p2⟩ := pl_pown (show pl_N A 0 0 0 ≤ 8 by omega)
  have k33 := pl_k33 hS
  have k48 := pl_k48 hS
  have k50 := pl_k50 hS
  have r27 := pl_r33_27 hS
  have r31 := pl_r33_31 hS
  have e1 : (1 : Int32) = nI 1 := rfl
  have e8 : (8 : Int32) = nI 8 := rfl
  have e64 : (64 : Int32) = nI 64 := rfl
  have h9 := hM.1.1
  have h10 := hM.1.2.1
  have hSX : ∀ W b, pl_Sh (pl_wI (pl_wI M 33 (pl_h33 A M W b)) 50 (pl_g50 A M W)) := fun W b => (hS.wI 33 _).wI 50 _
  have hMX : ∀ W b, pl_M A (pl_wI (pl_wI M 33 (pl_h33 A M W b)) 50 (pl_g50 A M W)) := fun W b => by
    have h1 : pl_kp M (pl_wI M 33 (pl_h33 A M W b)) := by
      refine ⟨fun a ha => ?_, fun k hk => ?_, rfl⟩
      · have h33 : a ≠ 33 := by revert ha; revert a; decide
        rw [pl_I_wI, if_neg h33]
      · have hk4 : k ≠ 28 ∧ k ≠ 30 ∧ k ≠ 32 ∧ k ≠ 33 := by revert hk; revert k; decide
        rw [pl_I_wI, if_pos rfl]
        unfold pl_h33
        rw [if_neg hk4.1, if_neg hk4.2.1, if_neg hk4.2.2.1, if_neg hk4.2.2.2]
    exact (h1.wI (by decide)).M hM
  -- one sharing counted
  have hone : ∀ (K : Nat → Int32 → ml_M → Option ml_M) (W : List (List Nat)) (w : List Nat) (o : Nat → Int32), pl_fr0 (pl_N A 0 0 0) (pl_N A 0 1 0) w o → fX11_layOften_69 K ml_fu 33 (nI n) 0 0 (ml_sI (pl_lq A M W 1 o) 33 30 (ml_I (pl_lq A M W 1 o) 33 30 + 1)) = K 33 (nI n) (pl_lq A M (W ++ [w]) 1 o) := fun K W w o hf => by
    obtain ⟨f1, f2, f3, f4, f5⟩ := hf
    have hus := pl_us_lt f3
    have i30 : ml_I (pl_lq A M W 1 o) 33 30 = nI W.length := by unfold pl_lq; rw [pl_sq_33]; rfl
    obtain ⟨H, hH⟩ : ∃ H, H = pl_up (pl_h33 A M W 1) 30 (nI (W.length + 1)) := ⟨_, rfl⟩
    have hH10 : H 10 = nI (pl_N A 0 1 0) := by rw [hH]; exact h10
    have hH32 : H 32 = nI (pl_ea (pl_N A 0 0 0) W) := by rw [hH]; rfl
    have hH33 : H 33 = nI (pl_eo W) := by rw [hH]; rfl
    have hst : ml_sI (pl_lq A M W 1 o) 33 30 (nI W.length + 1) = pl_sq M H (pl_g50 A M W) o := by
      unfold pl_lq; rw [pl_sq_s33, nI_1, hH]
    have hend : pl_sq M (pl_up (pl_up H 32 (nI (pl_ea (pl_N A 0 0 0) W &&& pl_us w))) 33 (nI (pl_eo W ||| pl_us w))) (pl_d8b w (pl_N A 0 1 0) (pl_g50 A M W)) o = pl_lq A M (W ++ [w]) 1 o := by
      unfold pl_lq
      have e2 : pl_up (pl_up H 32 (nI (pl_ea (pl_N A 0 0 0) W &&& pl_us w))) 33 (nI (pl_eo W ||| pl_us w)) = pl_h33 A M (W ++ [w]) 1 := by
        funext j
        rw [hH]
        unfold pl_up pl_h33
        have ea1 : pl_ea (pl_N A 0 0 0) (W ++ [w]) = pl_ea (pl_N A 0 0 0) W &&& pl_us w := by unfold pl_ea; rw [List.foldl_append]; rfl
        have eo1 : pl_eo (W ++ [w]) = pl_eo W ||| pl_us w := by unfold pl_eo; rw [List.foldl_append]; rfl
        rw [ea1, eo1, List.length_append, List.length_singleton]
        by_cases h33 : j = 33
        · rw [if_pos h33, if_neg (by omega), if_neg (by omega), if_neg (by omega), if_pos h33]
        · rw [if_neg h33]
          by_cases h32 : j = 32
          · rw [if_pos h32, if_neg (by omega), if_neg (by omega), if_pos h32]
          · rw [if_neg h32]
            by_cases h30 : j = 30
            · rw [if_pos h30, if_neg (by omega), if_pos h30]
            · rw [if_neg h30]
              by_cases h28 : j = 28
              · rw [if_pos h28, if_pos h28]
              · rw [if_neg h28, if_neg h30, if_neg h32, if_neg h33, if_neg h28, if_neg h30, if_neg h32, if_neg h33]
      have e3 : pl_d8b w (pl_N A 0 1 0) (pl_g50 A M W) = pl_g50 A M (W ++ [w]) := by
        funext y
        unfold pl_d8b pl_g50 pl_lo2 pl_c5
        rw [List.filter_append, List.length_append, List.filter_cons]
        by_cases h64 : y < 64
        · rw [if_pos h64, if_pos h64]
          have eaq : (pl_aq A w y = true) = (y < 64 ∧ y / 8 < pl_N A 0 1 0 ∧ w.getD (y / 8) 0 = y % 8) := by
            unfold pl_aq
            rw [show y % 64 = y by omega, Bool.and_eq_true, decide_eq_true_eq, decide_eq_true_eq]
            apply propext
            exact ⟨fun z => ⟨h64, z⟩, fun z => z.2⟩
          by_cases c : y < 64 ∧ y / 8 < pl_N A 0 1 0 ∧ w.getD (y / 8) 0 = y % 8
          · rw [if_pos c, if_pos (by rw [eaq]; exact c), nI_1]; rfl
          · rw [if_neg c, if_neg (by rw [eaq]; exact c)]; rfl
        · rw [if_neg h64, if_neg h64, if_neg (fun z => h64 z.1)]
      rw [e2, e3]
    have hh := pl_for (F := fun fu t (_ : Unit) => fX11_layOften_69 K fu 33 (nI n) (nI (pl_ors (fun i => 2 ^ w.getD i 0) t)) (nI t) (pl_sq M H (pl_d8b w t (pl_g50 A M W)) o)) (R := K 33 (nI n) (pl_lq A M (W ++ [w]) 1 o)) (pl_N A 0 1 0) (fun _ => ()) (fun fu t ht => ?_) (fun fu => ?_) ml_fu (by rw [pl_fu]; omega)
    · have e0 : pl_d8b w 0 (pl_g50 A M W) = pl_g50 A M W := by
        funext y; unfold pl_d8b; rw [if_neg (fun z => Nat.not_lt_zero _ z.2.1)]
      rw [e0] at hh
      rw [i30, hst]
      exact hh
    · show fX11_layOften_69 K (fu + 1) 33 (nI n) (nI (pl_ors (fun i => 2 ^ w.getD i 0) t)) (nI t) (pl_sq M H (pl_d8b w t (pl_g50 A M W)) o) = fX11_layOften_69 K fu 33 (nI n) (nI (pl_ors (fun i => 2 ^ w.getD i 0) (t + 1))) (nI (t + 1)) (pl_sq M H (pl_d8b w (t + 1) (pl_g50 A M W)) o)
      have g := pl_get_lt f3 (t := t) (by omega)
      have wt := f4 t ht
      have hor : nI (pl_ors (fun i => 2 ^ w.getD i 0) t) ||| (1 : Int32) <<< (nI (w.getD t 0) &&& 31) = nI (pl_ors (fun i => 2 ^ w.getD i 0) t ||| 2 ^ w.getD t 0) := by rw [pl_shl1 (by omega), pl_or]
      have hdd : pl_d8b w t (pl_g50 A M W) (8 * t + w.getD t 0) = pl_g50 A M W (8 * t + w.getD t 0) := by
        unfold pl_d8b
        rw [if_neg (fun z => by have := z.2.1; omega)]
      rw [pl_ors1, ← pl_d8b1 (pl_g50 A M W) (by omega) (by omega)]
      have hidx : (8 : Int32) * nI t + nI (w.getD t 0) = nI (8 * t + w.getD t 0) := by rw [e8, pk_mul, nI_add]
      simp (disch := omega) only [fX11_layOften_69, pl_sq_K, k33, if_true, pl_sq_33, hH10, nI_leI, show ¬ pl_N A 0 1 0 ≤ t by omega, if_false, ↓pl_let, pl_b1, pl_b2, ↓reduceIte, pl_sq_R, r27, r31, pl_in, nI_clamp, k48, show t < 8 by omega, and_self, pl_sq_48, wt, hidx, k50, show 8 * t + w.getD t 0 < 64 by omega, pl_sq_50, hdd, pl_sq_s50, hor, nI_1]
    · have hu := pl_us_ors w
      rw [f1] at hu
      rw [hu, ← hend]
      have u32 : pl_up H 32 (nI (pl_ea (pl_N A 0 0 0) W &&& pl_us w)) 33 = nI (pl_eo W) := by rw [pl_up_n _ _ (by decide), hH33]
      simp (disch := omega) only [fX11_layOften_69, fX11_layOften_114, pl_sq_K, k33, if_true, pl_sq_33, hH10, nI_leI, Nat.le_refl, ↓pl_let, pl_b1, pl_b2, ↓reduceIte, hH32, pl_and, pl_sq_s33, u32, pl_or]
  have hmain : ∀ o, (∀ i, i < 8 → o i = -1) → ∃ o', fX11_layOften_47 ml_fu 33 (nI n) (pl_lq A M [] 0 o) = some (pl_lq A M (pl_of A n) 1 o') := fun o ho => by
    have hloop := pl_loop (F := fun fu (s : (List (List Nat) × List (List Nat)) × Int32 × (Nat → Int32)) => fX11_layOften_47 fu 33 (nI n) (pl_lq A M s.1.1 s.2.1 s.2.2)) (μ := fun s => s.1.2.length)
      (Inv := fun s => s.1.1 ++ s.1.2.filter (pl_sf2 A n) = pl_of A n ∧ pl_rs2 (pl_N A 0 0 0) (pl_N A 0 1 0) s.2.1 s.2.2 s.1.2 ∧ s.1.2.length ≤ 200001)
      (Post := fun R => ∃ o', R = some (pl_lq A M (pl_of A n) 1 o')) ?_ ml_fu (([], pl_gv (pl_N A 0 0 0) (pl_N A 0 1 0) []), 0, o) (by have := pl_R_len hW; rw [pl_fu]; show (pl_gv (pl_N A 0 0 0) (pl_N A 0 1 0) []).length < _; omega) ⟨by rw [← pl_of_sf]; rfl, Or.inl ⟨rfl, ho, rfl⟩, pl_R_len hW⟩
    · exact hloop
    · rintro fu ⟨⟨W, rem⟩, b, o⟩ ⟨h1, h2, h3⟩
      have h1 : W ++ rem.filter (pl_sf2 A n) = pl_of A n := h1
      have h2 : pl_rs2 (pl_N A 0 0 0) (pl_N A 0 1 0) b o rem := h2
      have h3 : rem.length ≤ 200001 := h3
      have hns := pl_nextSh (hSX W 0) hW (hMX W 0) hn h3 h2
      rw [pl_lq_so] at hns
      have kq : ∀ b o, ml_K (pl_lq A M W b o) 33 = (11, 0) := fun b o => k33
      rcases hns with ⟨z1, o', z2⟩ | ⟨w, tl, o', z1, z2, z3, z4, z5, z6⟩
      · left
        rw [pl_lq_so] at z2
        rw [z1, List.append_nil] at h1
        refine ⟨o', ?_⟩
        show fX11_layOften_47 (fu + 1) 33 (nI n) (pl_lq A M W b o) = _
        rw [← h1]
        simp only [fX11_layOften_47, kq, if_true, z2, ↓pl_let, pl_b1, pl_b2, ↓reduceIte]
      · right
        rw [pl_lq_so] at z3
        refine ⟨((W ++ [w], tl), 1, o'), ?_, ⟨?_, z5, by show tl.length ≤ 200001; omega⟩, z2⟩
        · show fX11_layOften_47 (fu + 1) 33 (nI n) (pl_lq A M W b o) = fX11_layOften_47 fu 33 (nI n) (pl_lq A M (W ++ [w]) 1 o')
          rw [← hone (fX11_layOften_47 fu) W w o' z4]
          simp only [fX11_layOften_47, kq, if_true, z3, ↓pl_let, pl_b1, pl_b2, ↓reduceIte, pl_10, if_false]
        · show W ++ [w] ++ tl.filter (pl_sf2 A n) = pl_of A n
          rw [← h1, z1, List.append_assoc]; rfl
  -- the beginning
  obtain ⟨M1, hM1⟩ : ∃ M1, M1 = ml_sI (ml_sI (ml_sI M 33 30 0) 33 32 (nI (2 ^ pl_N A 0 0 0 - 1))) 33 33 0 := ⟨_, rfl⟩
  have hS1 : pl_Sh M1 := by rw [hM1]; exact ((hS.sI _ _ _).sI _ _ _).sI _ _ _
  have h24 := pl_for (F := fun fu y (_ : Unit) => fX11_layOften_24 fu 33 (nI n) (nI y) (pl_wI M1 50 (fun j => if j < y then 0 else ml_I M1 50 j))) (R := fX11_layOften_43 33 (nI n) (pl_wI M1 50 (fun j => if j < 64 then 0 else ml_I M1 50 j))) 64 (fun _ => ()) (fun fu y hy => ?_) (fun fu => ?_) ml_fu (by rw [pl_fu]; omega)
  · obtain ⟨M2, hM2⟩ : ∃ M2, M2 = pl_wI M1 50 (fun j => if j < 64 then 0 else ml_I M1 50 j) := ⟨_, rfl⟩
    have hS2 : pl_Sh M2 := by rw [hM2]; exact hS1.wI _ _
    have hbg := pl_beginM hS2
    obtain ⟨o0, ho0⟩ : ∃ o0, o0 = fun j => if j < 8 then (-1 : Int32) else ml_I M2 48 j := ⟨_, rfl⟩
    rw [← ho0] at hbg
    have elq : pl_so M2 0 o0 = pl_lq A M [] 0 o0 := by
      rw [hM2]
      unfold pl_so pl_lq pl_sq
      rw [pl_sIsw _ (by decide), hM1, pl_sI_w M 33 30 0, pl_wI_sI, pl_wI_sI, pl_wI_sI]
      refine congrArg (fun f => pl_wI f 48 o0) ?_
      refine pl_c2 (f := fun a b => pl_wI (pl_wI M 33 a) 50 b) ?_ ?_
      · funext j
        unfold pl_h33
        by_cases h28 : j = 28
        · rw [if_pos h28, if_pos h28]
        · rw [if_neg h28, if_neg h28]
          by_cases h33 : j = 33
          · rw [if_pos h33, if_neg (by omega), if_neg (by omega), if_pos h33]; rfl
          · rw [if_neg h33]
            by_cases h32 : j = 32
            · rw [if_pos h32, if_neg (by omega), if_pos h32]; rfl
            · rw [if_neg h32]
              by_cases h30 : j = 30
              · rw [if_pos h30, if_pos h30]; rfl
              · rw [if_neg h30, if_neg h30, if_neg h32, if_neg h33]
      · funext j
        unfold pl_g50 pl_lo2
        by_cases h64 : j < 64
        · rw [if_pos h64, if_pos h64]; rfl
        · rw [if_neg h64, if_neg h64, pl_I_wI, if_neg (by decide)]
    rw [elq] at hbg
    obtain ⟨o', ho'⟩ := hmain o0 (fun i hi => by rw [ho0]; exact if_pos hi)
    refine ⟨o', ?_⟩
    rw [← ho']
    have e43 : fX11_layOften_43 33 (nI n) M2 = fX11_layOften_47 ml_fu 33 (nI n) (pl_lq A M [] 0 o0) := by
      unfold fX11_layOften_43
      rw [pl_k33 hS2, if_pos rfl, hbg, pl_b1]
    rw [← e43, hM2, ← h24]
    have e50 : pl_wI M1 50 (fun j => if j < 0 then 0 else ml_I M1 50 j) = M1 := by
      have : (fun j => if j < 0 then (0 : Int32) else ml_I M1 50 j) = ml_I M1 50 := by funext j; rw [if_neg (Nat.not_lt_zero j)]
      rw [this, pl_wI_0]
    rw [e50, hM1]
    have hsh : (1 : Int32) <<< (nI (pl_N A 0 0 0) &&& 31) - 1 = nI (2 ^ pl_N A 0 0 0 - 1) := by
      rw [pl_shl1 (by omega)]; exact pl_sub p1
    have h9' : ml_I (ml_sI M 33 30 0) 33 9 = nI (pl_N A 0 0 0) := by rw [pl_I_sI, if_neg (by omega), h9]
    unfold fX11_layOften
    rw [k33, if_pos rfl, pl_let, h9', hsh, pl_let, pl_let]; rfl
  · show fX11_layOften_24 (fu + 1) 33 (nI n) (nI y) (pl_wI M1 50 (fun j => if j < y then 0 else ml_I M1 50 j)) = fX11_layOften_24 fu 33 (nI n) (nI (y + 1)) (pl_wI M1 50 (fun j => if j < y + 1 then 0 else ml_I M1 50 j))
    have e : (fun j => if j = y then (0 : Int32) else if j < y then 0 else ml_I M1 50 j) = fun j => if j < y + 1 then 0 else ml_I M1 50 j := by
      funext j
      by_cases h : j = y
      · rw [if_pos h, if_pos (by omega)]
      · rw [if_neg h]
        by_cases h2 : j < y
        · rw [if_pos h2, if_pos (by omega)]
        · rw [if_neg h2, if_neg (by omega)]
    have k331 := pl_k33 hS1
    have k501 := pl_k50 hS1
    have r311 := pl_r33_31 hS1
    rw [← e]
    simp (disch := omega) only [fX11_layOften_24, e64, nI_leI, show ¬ 64 ≤ y by omega, if_false, pl_K_wI, k331, if_true, ↓pl_let, pl_b1, pl_b2, ↓reduceIte, pl_R_wI, r311, pl_in, nI_clamp, k501, hy, and_self, pl_wI_sI, nI_1]
  · simp (disch := omega) only [fX11_layOften_24, e64, nI_leI, Nat.le_refl, if_true]
theorem pl_of_len {A : pl_A} (hW : pl_W A) (n : Nat) : (pl_of A n).length ≤ 200001 := by
  have h1 := pl_R_len hW
  rw [← pl_of_sf]
  exact Nat.le_trans (List.length_filter_le _ _) h1
/-- what the class answers of a right table -/
theorem pl_CsR {A : pl_A} {m : ml_M} (h : pl_Rel A m) (h0 : ml_I m 12 0 = 0) : ml_R m 12 5 = ml_R m (ml_R m 1 2) 1 ∧ ml_I m 12 6 = nI (pl_N A 0 1 0) ∧ ml_I m 12 7 = nI (pl_N A 0 0 0) ∧ (ml_I m 12 1 = match pl_best A with
    | none => -9
    | some q => nI q.1) ∧ (∀ q, pl_best A = some q → ∀ t, t < pl_N A 0 1 0 → ml_I m 13 t = nI (q.2.getD t 0)) ∧ (∀ n, n ≤ 20 → ml_I m 14 n = nI (pl_of A n).length ∧ ∀ t l, t < pl_N A 0 1 0 → l < pl_N A 0 0 0 → ml_I m 15 (n * 64 + t * 8 + l) = nI ((pl_of A n).filter fun w => w.getD t 0 == l).length) ∧
    (∀ set, set < 2 ^ pl_N A 0 0 0 → ml_I m 17 set = if pl_cov A set then 1 else 0) ∧ ∀ l, l < pl_N A 0 0 0 → ml_I m 18 l = nI (pl_set (fun o => decide (pl_N A 1 l 1 ≤ pl_N A 1 o 1)) (pl_N A 0 0 0)) ∧ ml_I m 19 l = nI (pl_set (fun o => decide (pl_N A 1 o 1 ≤ pl_N A 1 l 1)) (pl_N A 0 0 0)) := by
  rcases h.2.2.2.2.2.2.2.2.2.2.1 with hs | hs
  · rw [hs] at h0; exact absurd h0 (by decide)
  · exact hs.2
theorem pl_op_ways (x0 : Int32) : pl_Ok (fX10_ways 1 x0) (fX11_ways 33 x0) := by
  intro A m h
  have hS := h.1
  have hW := h.2.1
  have e20 : (20 : Int32) = nI 20 := rfl
  rcases pl_rng0 (x := x0) 20 (by decide) with hno | ⟨n, hn, rfl⟩
  · refine pl_Ok.same h (-1) ?_ ?_
    · simp only [fX10_ways, ↓pl_let, pl_b1, pl_b2, ↓reduceIte, e20, pl_within, hno, if_false, if_true]
    · simp only [fX11_ways, fX11_isMost, ↓pl_let, pl_b1, pl_b2, ↓reduceIte, e20, pl_inM, hno, if_false, if_true, true_or]
  · have hyes : 0 ≤ nI n ∧ nI n ≤ nI 20 := ⟨nI_pos' (by omega), nI_le hn (by decide)⟩
    obtain ⟨m1, c1, c2, c3, c4, c5⟩ := pl_refrS h
    have hS1 := c2.1
    have hr := pl_CsR c2 c5
    have h14 := (hr.2.2.2.2.2.1 n hn).1
    have hC1 : fX10_ways 1 (nI n) m = some (nI (pl_of A n).length, m1) := by
      simp (disch := omega) only [fX10_ways, ↓pl_let, pl_b1, pl_b2, ↓reduceIte, e20, pl_within, hyes, and_self, if_true, pl_10, if_false, pl_k1 hS, c1, pl_k1 hS1, pl_r1_12 hS1, pl_k12 hS1, pl_r12_3 hS1, pl_in, nI_clamp, pl_k14 hS1, show n < 21 by omega, h14]
    refine pl_Ok.mk c2.md hC1 (by omega) (by omega) hW fun M hSM hMM => ?_
    obtain ⟨o, ho⟩ := pl_layOft hSM hW hMM hn
    refine ⟨_, ?_, pl_lq_mo A M (pl_of A n) 1 o, (pl_lq_kp A M (pl_of A n) 1 o).M hMM⟩
    have kq : ml_K (pl_lq A M (pl_of A n) 1 o) 33 = (11, 0) := pl_k33 hSM
    have i30 : ml_I (pl_lq A M (pl_of A n) 1 o) 33 30 = nI (pl_of A n).length := by unfold pl_lq; rw [pl_sq_33]; rfl
    simp only [fX11_ways, fX11_isMost, ↓pl_let, pl_b1, pl_b2, ↓reduceIte, e20, pl_inM, hyes, and_self, if_true, or_true, pl_10, if_false, pl_k33 hSM, ho, kq, i30]

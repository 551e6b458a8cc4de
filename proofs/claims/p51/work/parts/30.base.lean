/-! THE PURE PART. First: reads behind writes of the plain memory, loops by a measure, small numbers. -/
theorem pl_I_sI (m : ml_M) (a k : Nat) (v : Int32) (b j : Nat) : ml_I (ml_sI m a k v) b j = if b = a ∧ j = k then v else ml_I m b j := by
  have h : ml_I (ml_sI m a k v) b j = if b = a ∧ j = k then v else ml_I m b j := rfl
  exact h
theorem pl_I_sR (m : ml_M) (a k v : Nat) (b j : Nat) : ml_I (ml_sR m a k v) b j = ml_I m b j := by
  have h : ml_I (ml_sR m a k v) b j = ml_I m b j := rfl
  exact h
theorem pl_I_sJ (m : ml_M) (a k : Nat) (v : Int64) (b j : Nat) : ml_I (ml_sJ m a k v) b j = ml_I m b j := by
  have h : ml_I (ml_sJ m a k v) b j = ml_I m b j := rfl
  exact h
theorem pl_I_al (m : ml_M) (kd ln sz : Nat) (b j : Nat) : ml_I (ml_al m kd ln sz) b j = if b = ml_n m + 1 then 0 else ml_I m b j := by
  have h : ml_I (ml_al m kd ln sz) b j = if b = ml_n m + 1 then 0 else ml_I m b j := rfl
  exact h
theorem pl_I_cp (m : ml_M) (sa sp da dp n : Nat) (b j : Nat) : ml_I (ml_cp m sa sp da dp n) b j = if b = da ∧ dp ≤ j ∧ j < dp + n then ml_I m sa (sp + (j - dp)) else ml_I m b j := by
  have h : ml_I (ml_cp m sa sp da dp n) b j = if b = da ∧ dp ≤ j ∧ j < dp + n then ml_I m sa (sp + (j - dp)) else ml_I m b j := rfl
  exact h
theorem pl_I_cl (m : ml_M) (a : Nat) (b j : Nat) : ml_I (ml_cl2 m a) b j = if b = ml_n m + 1 then ml_I m a j else ml_I m b j := by
  have h : ml_I (ml_cl2 m a) b j = if b = ml_n m + 1 then ml_I m a j else ml_I m b j := rfl
  exact h
theorem pl_R_sI (m : ml_M) (a k : Nat) (v : Int32) (b j : Nat) : ml_R (ml_sI m a k v) b j = ml_R m b j := by
  have h : ml_R (ml_sI m a k v) b j = ml_R m b j := rfl
  exact h
theorem pl_R_sR (m : ml_M) (a k v : Nat) (b j : Nat) : ml_R (ml_sR m a k v) b j = if b = a ∧ j = k then v else ml_R m b j := by
  have h : ml_R (ml_sR m a k v) b j = if b = a ∧ j = k then v else ml_R m b j := rfl
  exact h
theorem pl_R_sJ (m : ml_M) (a k : Nat) (v : Int64) (b j : Nat) : ml_R (ml_sJ m a k v) b j = ml_R m b j := by
  have h : ml_R (ml_sJ m a k v) b j = ml_R m b j := rfl
  exact h
theorem pl_R_al (m : ml_M) (kd ln sz : Nat) (b j : Nat) : ml_R (ml_al m kd ln sz) b j = if b = ml_n m + 1 then 0 else ml_R m b j := by
  have h : ml_R (ml_al m kd ln sz) b j = if b = ml_n m + 1 then 0 else ml_R m b j := rfl
  exact h
theorem pl_R_cp (m : ml_M) (sa sp da dp n : Nat) (b j : Nat) : ml_R (ml_cp m sa sp da dp n) b j = ml_R m b j := by
  have h : ml_R (ml_cp m sa sp da dp n) b j = ml_R m b j := rfl
  exact h
theorem pl_R_cl (m : ml_M) (a : Nat) (b j : Nat) : ml_R (ml_cl2 m a) b j = if b = ml_n m + 1 then 0 else ml_R m b j := by
  have h : ml_R (ml_cl2 m a) b j = if b = ml_n m + 1 then 0 else ml_R m b j := rfl
  exact h
theorem pl_J_sI (m : ml_M) (a k : Nat) (v : Int32) (b j : Nat) : ml_J (ml_sI m a k v) b j = ml_J m b j := by
  have h : ml_J (ml_sI m a k v) b j = ml_J m b j := rfl
  exact h
theorem pl_J_sR (m : ml_M) (a k v : Nat) (b j : Nat) : ml_J (ml_sR m a k v) b j = ml_J m b j := by
  have h : ml_J (ml_sR m a k v) b j = ml_J m b j := rfl
  exact h
theorem pl_J_sJ (m : ml_M) (a k : Nat) (v : Int64) (b j : Nat) : ml_J (ml_sJ m a k v) b j = if b = a ∧ j = k then v else ml_J m b j := by
  have h : ml_J (ml_sJ m a k v) b j = if b = a ∧ j = k then v else ml_J m b j := rfl
  exact h
theorem pl_J_al (m : ml_M) (kd ln sz : Nat) (b j : Nat) : ml_J (ml_al m kd ln sz) b j = if b = ml_n m + 1 then 0 else ml_J m b j := by
  have h : ml_J (ml_al m kd ln sz) b j = if b = ml_n m + 1 then 0 else ml_J m b j := rfl
  exact h
theorem pl_J_cp (m : ml_M) (sa sp da dp n : Nat) (b j : Nat) : ml_J (ml_cp m sa sp da dp n) b j = ml_J m b j := by
  have h : ml_J (ml_cp m sa sp da dp n) b j = ml_J m b j := rfl
  exact h
theorem pl_J_cl (m : ml_M) (a : Nat) (b j : Nat) : ml_J (ml_cl2 m a) b j = if b = ml_n m + 1 then 0 else ml_J m b j := by
  have h : ml_J (ml_cl2 m a) b j = if b = ml_n m + 1 then 0 else ml_J m b j := rfl
  exact h
theorem pl_K_sI (m : ml_M) (a k : Nat) (v : Int32) (b : Nat) : ml_K (ml_sI m a k v) b = ml_K m b := by
  have h : ml_K (ml_sI m a k v) b = ml_K m b := rfl
  exact h
theorem pl_K_sR (m : ml_M) (a k v : Nat) (b : Nat) : ml_K (ml_sR m a k v) b = ml_K m b := by
  have h : ml_K (ml_sR m a k v) b = ml_K m b := rfl
  exact h
theorem pl_K_sJ (m : ml_M) (a k : Nat) (v : Int64) (b : Nat) : ml_K (ml_sJ m a k v) b = ml_K m b := by
  have h : ml_K (ml_sJ m a k v) b = ml_K m b := rfl
  exact h
theorem pl_K_al (m : ml_M) (kd ln sz : Nat) (b : Nat) : ml_K (ml_al m kd ln sz) b = if b = ml_n m + 1 then (kd, ln) else ml_K m b := by
  have h : ml_K (ml_al m kd ln sz) b = if b = ml_n m + 1 then (kd, ln) else ml_K m b := rfl
  exact h
theorem pl_K_cp (m : ml_M) (sa sp da dp n : Nat) (b : Nat) : ml_K (ml_cp m sa sp da dp n) b = ml_K m b := by
  have h : ml_K (ml_cp m sa sp da dp n) b = ml_K m b := rfl
  exact h
theorem pl_K_cl (m : ml_M) (a : Nat) (b : Nat) : ml_K (ml_cl2 m a) b = if b = ml_n m + 1 then ml_K m a else ml_K m b := by
  have h : ml_K (ml_cl2 m a) b = if b = ml_n m + 1 then ml_K m a else ml_K m b := rfl
  exact h
theorem pl_n_sI (m : ml_M) (a k : Nat) (v : Int32) : ml_n (ml_sI m a k v) = ml_n m := by
  have h : ml_n (ml_sI m a k v) = ml_n m := rfl
  exact h
theorem pl_n_sR (m : ml_M) (a k v : Nat) : ml_n (ml_sR m a k v) = ml_n m := by
  have h : ml_n (ml_sR m a k v) = ml_n m := rfl
  exact h
theorem pl_n_sJ (m : ml_M) (a k : Nat) (v : Int64) : ml_n (ml_sJ m a k v) = ml_n m := by
  have h : ml_n (ml_sJ m a k v) = ml_n m := rfl
  exact h
theorem pl_n_al (m : ml_M) (kd ln sz : Nat) : ml_n (ml_al m kd ln sz) = ml_n m + 1 := by
  have h : ml_n (ml_al m kd ln sz) = ml_n m + 1 := rfl
  exact h
theorem pl_n_cp (m : ml_M) (sa sp da dp n : Nat) : ml_n (ml_cp m sa sp da dp n) = ml_n m := by
  have h : ml_n (ml_cp m sa sp da dp n) = ml_n m := rfl
  exact h
theorem pl_n_cl (m : ml_M) (a : Nat) : ml_n (ml_cl2 m a) = ml_n m + 1 := by
  have h : ml_n (ml_cl2 m a) = ml_n m + 1 := rfl
  exact h
theorem pl_s_sI (m : ml_M) (a k : Nat) (v : Int32) : ml_s (ml_sI m a k v) = ml_s m := by
  have h : ml_s (ml_sI m a k v) = ml_s m := rfl
  exact h
theorem pl_s_sR (m : ml_M) (a k v : Nat) : ml_s (ml_sR m a k v) = ml_s m := by
  have h : ml_s (ml_sR m a k v) = ml_s m := rfl
  exact h
theorem pl_s_sJ (m : ml_M) (a k : Nat) (v : Int64) : ml_s (ml_sJ m a k v) = ml_s m := by
  have h : ml_s (ml_sJ m a k v) = ml_s m := rfl
  exact h
theorem pl_s_al (m : ml_M) (kd ln sz : Nat) : ml_s (ml_al m kd ln sz) = ml_s m + sz := by
  have h : ml_s (ml_al m kd ln sz) = ml_s m + sz := rfl
  exact h
theorem pl_s_cp (m : ml_M) (sa sp da dp n : Nat) : ml_s (ml_cp m sa sp da dp n) = ml_s m := by
  have h : ml_s (ml_cp m sa sp da dp n) = ml_s m := rfl
  exact h
theorem pl_s_cl (m : ml_M) (a : Nat) : ml_s (ml_cl2 m a) = ml_s m + (ml_K m a).2 := by
  have h : ml_s (ml_cl2 m a) = ml_s m + (ml_K m a).2 := rfl
  exact h
-- the plain functions' joints
theorem pl_let {α β : Type} (e : α) (f : α → Option β) : ml_let e f = f e := by
  have h : ml_let e f = f e := rfl
  exact h
theorem pl_b1 {α β : Type} (x : α) (f : α → Option β) : ml_b1 (some x) f = f x := by
  have h : ml_b1 (some x) f = f x := rfl
  exact h
theorem pl_b2 {α β : Type} (x : α) (m : ml_M) (f : α → ml_M → Option β) : ml_b2 (some (x, m)) f = f x m := by
  have h : ml_b2 (some (x, m)) f = f x m := rfl
  exact h
theorem pl_in {m : ml_M} {a kd i : Nat} (hi : i < 2 ^ 31) : ml_in m a kd (nI i) ↔ (ml_K m a).1 = kd ∧ i < (ml_K m a).2 := by
  have h1 := nI_clamp hi
  have h2 := nI_pos hi
  show (ml_K m a).1 = kd ∧ ¬ (nI i < 0 ∨ (ml_K m a).2 ≤ (nI i).toNatClampNeg) ↔ _
  rw [h1]
  constructor
  · rintro ⟨h, h3⟩
    refine ⟨h, ?_⟩
    have := fun h4 => h3 (Or.inr h4)
    omega
  · rintro ⟨h, h3⟩
    refine ⟨h, ?_⟩
    rintro (h4 | h4)
    · exact h2 h4
    · omega
theorem pl_fu : ml_fu = 4194304 := rfl
/-- a loop by a measure: every turn ends it well, or goes on with less -/
theorem pl_loop {σ α : Type} {F : Nat → σ → Option α} {μ : σ → Nat} {Inv : σ → Prop} {Post : Option α → Prop} (h : ∀ fu s, Inv s → Post (F (fu + 1) s) ∨ ∃ s', F (fu + 1) s = F fu s' ∧ Inv s' ∧ μ s' < μ s) : ∀ fu s, μ s < fu → Inv s → Post (F fu s) := by
  intro fu
  induction fu with
  | zero => intro s hs; omega
  | succ fu ih =>
    intro s hs hi
    rcases h fu s hi with h1 | ⟨s', h1, h2, h3⟩
    · exact h1
    · rw [h1]
      exact ih s' (by omega) h2
-- small numbers
theorem pl_sub {a b : Nat} (h : b ≤ a) : nI a - nI b = nI (a - b) := pk_sub h
theorem pl_neg {a b : Nat} (ha : a < 2 ^ 30) (hb : 0 < b ∧ b < 2 ^ 30) : (nI a = - nI b) = False := by
  refine eq_false fun h => ?_
  have h1 : (nI a).toInt = (- nI b).toInt := by rw [h]
  have h2 : (0 : Int32) - nI b = - nI b := by rw [Int32.zero_sub]
  rw [← h2, ← nI_0, pk_sub_toInt (by omega) hb.2, nI_toInt (by omega)] at h1
  omega
theorem pl_lt0 {n : Nat} (h : n < 2 ^ 31) : (nI n < 0) = False := eq_false (nI_pos h)
theorem pl_le0 {n : Nat} (h : n < 2 ^ 31) : (0 ≤ nI n) = True := eq_true (nI_pos' h)
theorem pl_t1 (n : Nat) (h : n < 2 ^ 31) : (nI n).toNatClampNeg = n := nI_clamp h
theorem pl_shl1 {t : Nat} (h : t < 31) : (1 : Int32) <<< (nI t &&& 31) = nI (2 ^ t) := by
  have h0 : ∀ t : Fin 31, (1 : Int32) <<< (nI t.val &&& 31) = nI (2 ^ t.val) := by decide +kernel
  exact h0 ⟨t, h⟩
theorem pl_or {a b : Nat} : nI a ||| nI b = nI (a ||| b) := by
  apply Int32.toBitVec_inj.mp
  show BitVec.ofNat 32 a ||| BitVec.ofNat 32 b = BitVec.ofNat 32 (a ||| b)
  rw [BitVec.ofNat_or]
theorem pl_and {a b : Nat} : nI a &&& nI b = nI (a &&& b) := by
  apply Int32.toBitVec_inj.mp
  show BitVec.ofNat 32 a &&& BitVec.ofNat 32 b = BitVec.ofNat 32 (a &&& b)
  rw [BitVec.ofNat_and]
theorem pl_mm {n i : Nat} (h : i < n) (hx : n ≤ 2 ^ 31) : (nI i).toNatClampNeg = i := nI_clamp (by omega)
/-- a test of grind -/
theorem pl_tst (f : Nat → Nat) (m : ml_M) (h : ∀ i, i < 6 → f i = ml_R m 2 i) (j : Nat) (hj : j < 5) : ml_R (ml_sR m 3 j 7) 2 (j+1) = f (j+1) := by
  grind [pl_R_sR]

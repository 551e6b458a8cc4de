/-! THE START: two new objects, the law's five rows. -/
def pl_A0 : pl_A := (fun g i k => if g = 0 ∧ i = 7 ∧ k = 0 then 1 else 0, fun _ _ _ => 0, 0)
theorem pl_A0N (g i k : Nat) : pl_N pl_A0 g i k = if g = 0 ∧ i = 7 ∧ k = 0 then 1 else 0 := by
  have h : pl_N pl_A0 g i k = if g = 0 ∧ i = 7 ∧ k = 0 then 1 else 0 := rfl
  exact h
theorem pl_A0V (g i k : Nat) : pl_V pl_A0 g i k = 0 := by
  have h : pl_V pl_A0 g i k = 0 := rfl
  exact h
theorem pl_A0L : pl_L pl_A0 = 0 := by
  have h : pl_L pl_A0 = 0 := rfl
  exact h
def pi_e1 : ml_M := ml_al ml_E0 10 0 19
def pi_o1 : Option ml_M := fX10_init 1 pi_e1
def pi_m1 : ml_M := pi_o1.getD ml_E0
def pi_kt : List (Nat × Nat × Nat) := pl_kt.filter fun q => decide (q.1 ≤ 32)
def pi_rt : List (Nat × Nat × Nat) := pl_rt.filter fun q => decide (q.1 ≤ 32)
theorem pi_1 : pi_o1.isSome = true := by decide +kernel
theorem pi_2 : ml_n pi_m1 = 32 ∧ ml_s pi_m1 ≤ 25600 := by decide +kernel
theorem pi_3 : ∀ q ∈ pi_kt, ml_K pi_m1 q.1 = q.2 := by decide +kernel
theorem pi_4 : ∀ q ∈ pi_rt, ml_R pi_m1 q.1 q.2.1 = q.2.2 := by decide +kernel
theorem pi_9 : ml_I pi_m1 1 3 = nI 1 ∧ (∀ k ∈ [5, 7, 9, 11, 17, 15], ml_I pi_m1 1 k = 0) ∧ ml_J pi_m1 1 16 = 0 ∧ ∀ f, f < 6 → ml_I pi_m1 32 f = 0 := by decide +kernel
theorem pi_10 : (∀ r, r < 6 → ml_R pi_m1 2 r = 0) ∧ (∀ r, r < 4 → ml_R pi_m1 3 r = 0) ∧ ml_R pi_m1 1 2 = 4 ∧ ml_K pi_m1 4 = (1, 0) ∧ ml_R pi_m1 4 0 = 6 ∧ ml_R pi_m1 4 1 = 7 ∧ ml_K pi_m1 6 = (28, 8) ∧ ml_K pi_m1 7 = (30, 8) ∧ ml_I pi_m1 4 2 = 0 ∧ ml_I pi_m1 4 3 = 0 ∧ ml_I pi_m1 12 0 = 1 ∧ ml_I pi_m1 21 0 = 1 ∧ ml_I pi_m1 31 0 = 0 := by decide +kernel
theorem pi_o1e : fX10_init 1 pi_e1 = some pi_m1 := by
  have h := pi_1
  unfold pi_m1
  unfold pi_o1 at h ⊢
  cases ho : fX10_init 1 pi_e1 with
  | none => rw [ho] at h; cases h
  | some m => rfl
/-- the memory of its own in which a new object stands beside a reference -/
def pi_K (a : Nat) : Nat × Nat := ((pl_kt.find? fun q => q.1 == a).map fun q => q.2).getD (99, 0)
def pi_R (a k : Nat) : Nat := ((pl_rt.find? fun q => q.1 == a && q.2.1 == k).map fun q => q.2.2).getD 0
def pi_w (m : ml_M) : ml_M := (60, ml_s m, fun a => if a ≤ 32 then ml_K m a else if a ≤ 60 then pi_K a else (99, 0), ml_I m, fun a k => if a ≤ 32 then ml_R m a k else pi_R a k, ml_J m)
theorem pi_wK (m : ml_M) (a : Nat) : ml_K (pi_w m) a = if a ≤ 32 then ml_K m a else if a ≤ 60 then pi_K a else (99, 0) := by
  have h : ml_K (pi_w m) a = if a ≤ 32 then ml_K m a else if a ≤ 60 then pi_K a else (99, 0) := rfl
  exact h
theorem pi_wR (m : ml_M) (a k : Nat) : ml_R (pi_w m) a k = if a ≤ 32 then ml_R m a k else pi_R a k := by
  have h : ml_R (pi_w m) a k = if a ≤ 32 then ml_R m a k else pi_R a k := rfl
  exact h
theorem pi_wI (m : ml_M) : ml_I (pi_w m) = ml_I m := by
  have h : ml_I (pi_w m) = ml_I m := rfl
  exact h
theorem pi_wJ (m : ml_M) : ml_J (pi_w m) = ml_J m := by
  have h : ml_J (pi_w m) = ml_J m := rfl
  exact h
theorem pi_wn (m : ml_M) : ml_n (pi_w m) = 60 := by
  have h : ml_n (pi_w m) = 60 := rfl
  exact h
def pi_v : ml_M := pi_w pi_m1
theorem pi_kt2 : ∀ q ∈ pl_kt, (q.1 ≤ 32 ∧ q ∈ pi_kt) ∨ (¬ q.1 ≤ 32 ∧ q.1 ≤ 60 ∧ pi_K q.1 = q.2) := by decide +kernel
theorem pi_rt2 : ∀ q ∈ pl_rt, (q.1 ≤ 32 ∧ q ∈ pi_rt) ∨ (¬ q.1 ≤ 32 ∧ pi_R q.1 q.2.1 = q.2.2) := by decide +kernel
theorem pi_vK (a : Nat) : ml_K pi_v a = if a ≤ 32 then ml_K pi_m1 a else if a ≤ 60 then pi_K a else (99, 0) := by
  unfold pi_v; exact pi_wK _ a
theorem pi_vR (a k : Nat) : ml_R pi_v a k = if a ≤ 32 then ml_R pi_m1 a k else pi_R a k := by
  unfold pi_v; exact pi_wR _ a k
theorem pi_vI : ml_I pi_v = ml_I pi_m1 := by
  unfold pi_v; exact pi_wI _
theorem pi_vJ : ml_J pi_v = ml_J pi_m1 := by
  unfold pi_v; exact pi_wJ _
theorem pi_vn : ml_n pi_v = 60 := by
  unfold pi_v; exact pi_wn _
theorem pi_C : pd_C pl_A0 pi_v := by
  obtain ⟨a1, a2, a3, a4, a5, a6, a7, a8, a9, a10, a11, a12, a13⟩ := pi_10
  have hS : pl_Sh pi_v := by
    refine ⟨fun q hq => ?_, fun q hq => ?_, by rw [pi_vn]; exact Nat.le_refl _⟩
    · rw [pi_vK]
      rcases pi_kt2 q hq with ⟨h1, h2⟩ | ⟨h1, h2, h3⟩
      · rw [if_pos h1]; exact pi_3 q h2
      · rw [if_neg h1, if_pos h2]; exact h3
    · rw [pi_vR]
      rcases pi_rt2 q hq with ⟨h1, h2⟩ | ⟨h1, h2⟩
      · rw [if_pos h1]; exact pi_4 q h2
      · rw [if_neg h1]; exact h2
  have rl : ∀ a k, a ≤ 32 → ml_R pi_v a k = ml_R pi_m1 a k := fun a k h => by rw [pi_vR, if_pos h]
  have kl : ∀ a, a ≤ 32 → ml_K pi_v a = ml_K pi_m1 a := fun a h => by rw [pi_vK, if_pos h]
  refine ⟨hS, ⟨?_, ?_, ?_, ?_, ?_, ?_, ?_, ?_, ?_⟩, ⟨?_, ?_, ?_, ?_, ?_, ?_, ?_, Or.inl (by rw [pi_vI]; exact a11), Or.inl (by rw [pi_vI]; exact a12), by rw [pi_vI]; exact a13⟩⟩
  · unfold pl_Wc; simp [pl_A0N]
  · intro l hl; simp [pl_A0N] at hl
  · intro l hl; simp [pl_A0N] at hl
  · intro l hl; simp [pl_A0N] at hl
  · intro l hl; simp [pl_A0N] at hl
  · intro l hl; simp [pl_A0N] at hl
  · intro l hl; simp [pl_A0N] at hl
  · intro l hl; simp [pl_A0N] at hl
  · refine ⟨fun r _ => by simp [pl_A0N], fun t _ => by simp [pl_A0N], fun t j _ h => by simp [pl_A0N] at h⟩
  · unfold pl_Cb
    rw [pi_vI, pi_vJ]
    simp only [pl_A0N, pl_A0V, pl_A0L]
    simp only [Nat.reduceEqDiff, and_true, and_false, if_false, if_true, and_self, nI_0]
    exact ⟨pi_9.1, pi_9.2.1 5 (by decide), pi_9.2.1 7 (by decide), pi_9.2.1 9 (by decide), pi_9.2.1 11 (by decide), pi_9.2.1 17 (by decide), pi_9.2.1 15 (by decide), pi_9.2.2.1, pi_9.2.2.2⟩
  · exact ⟨fun r hr => Or.inl ⟨by simp [pl_A0N], by rw [rl 2 r (by decide)]; exact a1 r hr⟩, fun r q hr _ h0 _ => absurd (by rw [rl 2 r (by decide)]; exact a1 r hr) h0⟩
  · exact ⟨fun r hr => Or.inl ⟨by simp [pl_A0N], by rw [rl 3 r (by decide)]; exact a2 r hr⟩, fun r q hr _ h0 _ => absurd (by rw [rl 3 r (by decide)]; exact a2 r hr) h0⟩
  · unfold pl_Ch
    rw [pi_vI, rl 1 2 (by decide), a3, rl 4 0 (by decide), rl 4 1 (by decide), a5, a6, a9, a10]
    refine ⟨⟨by omega, by rw [pi_vn]; omega, by rw [kl 4 (by decide)]; exact a4⟩, ⟨by omega, by rw [pi_vn]; omega, by rw [kl 6 (by decide)]; exact a7⟩, ⟨by omega, by rw [pi_vn]; omega, by rw [kl 7 (by decide)]; exact a8⟩, by simp [pl_A0N, nI_0], by simp [pl_A0N, nI_0], fun l hl => ?_, fun l hl => ?_⟩ <;> simp [pl_A0N] at hl
  · refine ⟨fun l hl => ?_, fun i j hi => ?_⟩
    · simp [pl_A0N] at hl
    · simp [pl_A0N] at hi
  · refine ⟨fun l hl => ?_, fun l hl => ?_⟩ <;> simp [pl_A0N] at hl
  · intro l hl; simp [pl_A0N] at hl
/-- a new object, made at any place -/
theorem pi_run {r0 : ml_M} (h0 : ml_K r0 0 = (99, 0)) (hK : ph_K r0) : ∃ r1, fX10_init (ml_n r0 + 1) (ml_al r0 10 0 19) = some r1 ∧ pt_Q (fun x => if x = 0 then 0 else ml_n r0 + x) pi_e1 (ml_al r0 10 0 19) pi_m1 r1 := by
  have ke : ∀ a, ml_K pi_e1 a = if a = 1 then (10, 0) else (99, 0) := fun a => by
    have h : ml_K pi_e1 a = if a = 1 then (10, 0) else (99, 0) := rfl
    exact h
  have ie : ∀ a j, ml_I pi_e1 a j = 0 := fun a j => by
    have h : ml_I pi_e1 a j = if a = 1 then 0 else 0 := rfl
    rw [h, ite_self]
  have je : ∀ a j, ml_J pi_e1 a j = 0 := fun a j => by
    have h : ml_J pi_e1 a j = if a = 1 then 0 else 0 := rfl
    rw [h, ite_self]
  have re : ∀ a j, ml_R pi_e1 a j = 0 := fun a j => by
    have h : ml_R pi_e1 a j = if a = 1 then 0 else 0 := rfl
    rw [h, ite_self]
  have ne : ml_n pi_e1 = 1 := by
    have h : ml_n pi_e1 = 1 := rfl
    exact h
  have hQ : pt_Q (fun x => if x = 0 then 0 else ml_n r0 + x) pi_e1 (ml_al r0 10 0 19) pi_e1 (ml_al r0 10 0 19) := by
    refine ⟨⟨rfl, fun x y e hx => ?_⟩, ⟨Nat.add_comm _ _, Nat.add_comm _ _, Nat.le_refl _, Nat.le_refl _⟩, fun i hi => ⟨?_, ?_, ?_⟩, fun x hx => ?_, fun _ _ => ⟨rfl, rfl, rfl, rfl⟩⟩
    · have e : (if x = 0 then 0 else ml_n r0 + x) = if y = 0 then 0 else ml_n r0 + y := e
      have hx : (if x = 0 then 0 else ml_n r0 + x) ≠ 0 := hx
      by_cases x0 : x = 0
      · rw [if_pos x0] at hx; exact absurd rfl hx
      · rw [if_neg x0] at e
        by_cases y0 : y = 0
        · rw [if_pos y0] at e; omega
        · rw [if_neg y0] at e; omega
    · show (if ml_n pi_e1 + i = 0 then 0 else ml_n r0 + (ml_n pi_e1 + i)) = ml_n (ml_al r0 10 0 19) + i
      rw [if_neg (by omega), ne, pl_n_al]; omega
    · rw [ke, ne, if_neg (by omega)]
    · rw [pl_n_al, pl_K_al, if_neg (by omega), Nat.add_assoc]; exact hK _ (by omega)
    · by_cases x0 : x = 0
      · refine ⟨?_, fun hk => absurd (by rw [ke, x0, if_neg (by decide)]) hk⟩
        show ml_K (ml_al r0 10 0 19) (if x = 0 then 0 else ml_n r0 + x) = _
        rw [if_pos x0, pl_K_al, if_neg (by omega), h0, ke, if_neg (by omega)]
      · by_cases x1 : x = 1
        · subst x1
          refine ⟨?_, fun hk => ⟨?_, ?_, fun k => ⟨?_, ?_, ?_⟩⟩⟩
          · show ml_K (ml_al r0 10 0 19) (if (1 : Nat) = 0 then 0 else ml_n r0 + 1) = _
            rw [if_neg (by decide), pl_K_al, if_pos rfl, ke, if_pos rfl]
          · funext j
            show ml_I (ml_al r0 10 0 19) (if (1 : Nat) = 0 then 0 else ml_n r0 + 1) j = _
            rw [if_neg (by decide), pl_I_al, if_pos rfl, ie]
          · funext j
            show ml_J (ml_al r0 10 0 19) (if (1 : Nat) = 0 then 0 else ml_n r0 + 1) j = _
            rw [if_neg (by decide), pl_J_al, if_pos rfl, je]
          · show ml_R (ml_al r0 10 0 19) (if (1 : Nat) = 0 then 0 else ml_n r0 + 1) k = if ml_R pi_e1 1 k = 0 then 0 else _
            rw [if_neg (by decide), pl_R_al, if_pos rfl, re, if_pos rfl]
          · exact Or.inl (re 1 k)
          · rw [re]; exact Nat.zero_le _
        · refine ⟨?_, fun hk => absurd (by rw [ke, if_neg x1]) hk⟩
          show ml_K (ml_al r0 10 0 19) (if x = 0 then 0 else ml_n r0 + x) = _
          rw [if_neg x0, pl_K_al, if_neg (by omega), ke, if_neg x1]
          exact hK x (by omega)
  have e1 : (fun x => if x = 0 then 0 else ml_n r0 + x) 1 = ml_n r0 + 1 := rfl
  obtain ⟨r1, h1, h2⟩ := zX10_init 1 _ (pt_rf (p := fun x => if x = 0 then 0 else ml_n r0 + x) (Or.inr (by rw [e1]; omega))) _ _ hQ (by rw [ne]; exact Nat.le_refl _) _ pi_o1e
  exact ⟨r1, h1, h2⟩
def pa_K (r : ml_M) : Prop := ml_K r 65 = (20, 64) ∧ ml_K r 66 = (20, 64) ∧ ml_K r 67 = (20, 16) ∧ ml_K r 68 = (20, 32) ∧ ml_K r 69 = (20, 64)
/-- the law's five rows -/
def pi_rows (m : ml_M) : ml_M := ml_al (ml_al (ml_al (ml_al (ml_al m 20 64 64) 20 64 64) 20 16 16) 20 32 32) 20 64 64
theorem pi_start : ∃ m2, fX10_init 33 (ml_al pi_m1 10 0 19) = some m2 ∧ ml_n m2 = 64 ∧ ph_2 1 33 pl_A0 pl_A0 (pi_rows m2) ∧ pa_K (pi_rows m2) ∧ ml_n (pi_rows m2) = 69 ∧ ml_s (pi_rows m2) ≤ 52000 := by
  obtain ⟨n1, s1⟩ := pi_2
  -- the first one, in itself
  have kE : ∀ a, ml_K ml_E0 a = (99, 0) := fun a => by
    have h : ml_K ml_E0 a = (99, 0) := rfl
    exact h
  have nE : ml_n ml_E0 = 0 := by
    have h : ml_n ml_E0 = 0 := rfl
    exact h
  obtain ⟨r1, h1, h2⟩ := pi_run (r0 := ml_E0) (kE 0) (fun i _ => kE _)
  have hr1 : r1 = pi_m1 := by
    rw [nE] at h1
    have h3 : fX10_init 1 pi_e1 = some r1 := h1
    rw [pi_o1e] at h3
    exact (Option.some.inj h3).symm
  subst hr1
  have hid : ∀ x, (fun x => if x = 0 then 0 else ml_n ml_E0 + x) x = x := fun x => by
    show (if x = 0 then 0 else ml_n ml_E0 + x) = x
    rw [nE]; split <;> omega
  have hdx : ∀ x, pt_d (fun x => if x = 0 then 0 else ml_n ml_E0 + x) x := fun x => by
    unfold pt_d
    rw [hid]; omega
  have hRb : ∀ x k, (ml_K pi_m1 x).1 ≠ 99 → ml_R pi_m1 x k ≤ 32 := fun x k hk => by
    have := ((h2.2.2.2.1 x (hdx x)).2 hk).2.2 k
    rw [← n1]; exact this.2.2
  have hK1 : ph_K pi_m1 := fun i hi => (h2.2.2.1 i hi).2.2
  have hk0 : ml_K pi_m1 0 = (99, 0) := pi_3 (0, 99, 0) (by decide)
  -- the second one
  obtain ⟨m2, g1, g2⟩ := pi_run (r0 := pi_m1) hk0 hK1
  rw [n1] at g1 g2
  have n2 : ml_n m2 = 64 := by
    have := g2.2.1.1
    have e1 : ml_n pi_e1 = 1 := by
      have h : ml_n pi_e1 = 1 := rfl
      exact h
    rw [pl_n_al] at this; omega
  have s2 : ml_s m2 ≤ 51200 := by
    have := g2.2.1.2.1
    have e1 : ml_s pi_e1 = 19 := by
      have h : ml_s pi_e1 = 19 := rfl
      exact h
    rw [pl_s_al] at this; omega
  refine ⟨m2, g1, n2, ?_, ?_, ?_, ?_⟩
  · have old : ∀ a, a ≤ 64 → ml_K (pi_rows m2) a = ml_K m2 a ∧ ml_I (pi_rows m2) a = ml_I m2 a ∧ ml_R (pi_rows m2) a = ml_R m2 a ∧ ml_J (pi_rows m2) a = ml_J m2 a := fun a ha => by
      unfold pi_rows
      refine ⟨?_, ?_, ?_, ?_⟩
      · simp only [pl_K_al, pl_n_al]
        rw [if_neg (by omega), if_neg (by omega), if_neg (by omega), if_neg (by omega), if_neg (by omega)]
      · funext j; simp only [pl_I_al, pl_n_al]
        rw [if_neg (by omega), if_neg (by omega), if_neg (by omega), if_neg (by omega), if_neg (by omega)]
      · funext j; simp only [pl_R_al, pl_n_al]
        rw [if_neg (by omega), if_neg (by omega), if_neg (by omega), if_neg (by omega), if_neg (by omega)]
      · funext j; simp only [pl_J_al, pl_n_al]
        rw [if_neg (by omega), if_neg (by omega), if_neg (by omega), if_neg (by omega), if_neg (by omega)]
    have p0 : ∀ x, x ≠ 0 → (fun x => if x = 0 then 0 else 32 + x) x = 32 + x := fun x hx => if_neg hx
    -- cells 1 to 32 are as they were
    have fr : ∀ a, 1 ≤ a → a ≤ 32 → ml_K m2 a = ml_K pi_m1 a ∧ ml_I m2 a = ml_I pi_m1 a ∧ ml_R m2 a = ml_R pi_m1 a ∧ ml_J m2 a = ml_J pi_m1 a := fun a h1 h2 => by
      obtain ⟨q1, q2, q3, q4⟩ := g2.2.2.2.2 a (fun x => by
        show (if x = 0 then 0 else 32 + x) ≠ a
        split <;> omega)
      refine ⟨?_, ?_, ?_, ?_⟩
      · rw [q1, pl_K_al, if_neg (by omega)]
      · rw [q2]; funext j; rw [pl_I_al, if_neg (by omega)]
      · rw [q3]; funext j; rw [pl_R_al, if_neg (by omega)]
      · rw [q4]; funext j; rw [pl_J_al, if_neg (by omega)]
    have k20 : ml_K m2 0 = (99, 0) := by
      have := (g2.2.2.2.1 0 (Or.inl rfl)).1
      rw [hk0] at this
      exact this
    have vK : ∀ x, x ≤ 32 → ml_K pi_v x = ml_K pi_m1 x := fun x h => by rw [pi_vK, if_pos h]
    have vR : ∀ x k, x ≤ 32 → ml_R pi_v x k = ml_R pi_m1 x k := fun x k h => by rw [pi_vR, if_pos h]
    refine ⟨fun i hi => ?_, ?_, fun x => if x ≤ 32 then x else 0, fun x => if x = 0 then 0 else if x ≤ 32 then 32 + x else 0, pi_v, pi_v, pi_C, pi_C, rfl, rfl, ⟨⟨rfl, fun x y e hx => ?_⟩, fun x hx => ?_, fun i hi => ?_, fun x hx => ?_⟩, ⟨⟨rfl, fun x y e hx => ?_⟩, fun x hx => ?_, fun i hi => ?_, fun x hx => ?_⟩, fun x y e => ?_, fun x => ?_, fun x => ?_⟩
    · have := (g2.2.2.1 (5 + i) (by omega)).2.2
      unfold pi_rows
      simp only [pl_K_al, pl_n_al]
      rw [if_neg (by omega), if_neg (by omega), if_neg (by omega), if_neg (by omega), if_neg (by omega), ← this]
      congr 1; omega
    · unfold pi_rows; simp only [pl_n_al]; omega
    · have e : (if x ≤ 32 then x else 0) = if y ≤ 32 then y else 0 := e
      have hx : (if x ≤ 32 then x else 0) ≠ 0 := hx
      by_cases x3 : x ≤ 32
      · rw [if_pos x3] at e hx
        by_cases y3 : y ≤ 32
        · rw [if_pos y3] at e; exact e
        · rw [if_neg y3] at e; exact absurd e hx
      · rw [if_neg x3] at hx; exact absurd rfl hx
    · have hx : (if x ≤ 32 then x else 0) ≠ 0 := hx
      by_cases x3 : x ≤ 32
      · refine ⟨by rw [pi_vn]; omega, ?_, by omega⟩
        show (if x ≤ 32 then x else 0) ≤ _
        rw [if_pos x3]; unfold pi_rows; simp only [pl_n_al]; omega
      · rw [if_neg x3] at hx; exact absurd rfl hx
    · rw [pi_vK, pi_vn, if_neg (by omega), if_neg (by omega)]
    · have x3 : x ≤ 32 := by
        rcases hx with hx | hx
        · omega
        · by_cases x3 : x ≤ 32
          · exact x3
          · exact absurd (if_neg x3) hx
      have ex : (if x ≤ 32 then x else 0) = x := if_pos x3
      obtain ⟨o1, o2, o3, o4⟩ := old x (by omega)
      by_cases x0 : x = 0
      · refine ⟨?_, fun hk => absurd (by rw [vK x x3, x0, hk0]) hk⟩
        show ml_K (pi_rows m2) (if x ≤ 32 then x else 0) = _
        rw [ex, o1, vK x x3, x0, k20, hk0]
      · obtain ⟨f1, f2, f3, f4⟩ := fr x (by omega) x3
        refine ⟨?_, fun hk => ⟨?_, ?_, fun k => ?_⟩⟩
        · show ml_K (pi_rows m2) (if x ≤ 32 then x else 0) = _
          rw [ex, o1, f1, vK x x3]
        · show ml_I (pi_rows m2) (if x ≤ 32 then x else 0) = _
          rw [ex, o2, f2, pi_vI]
        · show ml_J (pi_rows m2) (if x ≤ 32 then x else 0) = _
          rw [ex, o4, f4, pi_vJ]
        · rw [vK x x3] at hk
          have hb := hRb x k hk
          show ml_R (pi_rows m2) (if x ≤ 32 then x else 0) k = (if ml_R pi_v x k ≤ 32 then ml_R pi_v x k else 0) ∧ (ml_R pi_v x k = 0 ∨ (if ml_R pi_v x k ≤ 32 then ml_R pi_v x k else 0) ≠ 0) ∧ _
          rw [ex, o3, f3, vR x k x3, if_pos hb]
          exact ⟨rfl, by omega, by rw [pi_vn]; omega⟩
    · have e : (if x = 0 then 0 else if x ≤ 32 then 32 + x else 0) = if y = 0 then 0 else if y ≤ 32 then 32 + y else 0 := e
      have hx : (if x = 0 then 0 else if x ≤ 32 then 32 + x else 0) ≠ 0 := hx
      by_cases x0 : x = 0
      · rw [if_pos x0] at hx; exact absurd rfl hx
      · by_cases x3 : x ≤ 32
        · rw [if_neg x0, if_pos x3] at e
          by_cases y0 : y = 0
          · rw [if_pos y0] at e; omega
          · by_cases y3 : y ≤ 32
            · rw [if_neg y0, if_pos y3] at e; omega
            · rw [if_neg y0, if_neg y3] at e; omega
        · rw [if_neg x0, if_neg x3] at hx; exact absurd rfl hx
    · have hx : (if x = 0 then 0 else if x ≤ 32 then 32 + x else 0) ≠ 0 := hx
      by_cases x0 : x = 0
      · rw [if_pos x0] at hx; exact absurd rfl hx
      · by_cases x3 : x ≤ 32
        · refine ⟨by rw [pi_vn]; omega, ?_, by omega⟩
          show (if x = 0 then 0 else if x ≤ 32 then 32 + x else 0) ≤ _
          rw [if_neg x0, if_pos x3]; unfold pi_rows; simp only [pl_n_al]; omega
        · rw [if_neg x0, if_neg x3] at hx; exact absurd rfl hx
    · rw [pi_vK, pi_vn, if_neg (by omega), if_neg (by omega)]
    · have hx' : x = 0 ∨ (if x = 0 then 0 else if x ≤ 32 then 32 + x else 0) ≠ 0 := hx
      by_cases x0 : x = 0
      · refine ⟨?_, fun hk => absurd (by rw [vK x (by omega), x0, hk0]) hk⟩
        show ml_K (pi_rows m2) (if x = 0 then 0 else if x ≤ 32 then 32 + x else 0) = _
        rw [if_pos x0, (old 0 (by omega)).1, k20, vK x (by omega), x0, hk0]
      · have x3 : x ≤ 32 := by
          by_cases x3 : x ≤ 32
          · exact x3
          · rcases hx' with hx' | hx'
            · exact absurd hx' x0
            · rw [if_neg x0, if_neg x3] at hx'; exact absurd rfl hx'
        have ex : (if x = 0 then 0 else if x ≤ 32 then 32 + x else 0) = 32 + x := by rw [if_neg x0, if_pos x3]
        obtain ⟨o1, o2, o3, o4⟩ := old (32 + x) (by omega)
        obtain ⟨e1, e2⟩ := g2.2.2.2.1 x (Or.inr (by rw [p0 x x0]; omega))
        rw [p0 x x0] at e1 e2
        refine ⟨?_, fun hk => ?_⟩
        · show ml_K (pi_rows m2) (if x = 0 then 0 else if x ≤ 32 then 32 + x else 0) = _
          rw [ex, o1, e1, vK x x3]
        · rw [vK x x3] at hk
          obtain ⟨e3, e4, e5⟩ := e2 hk
          refine ⟨?_, ?_, fun k => ?_⟩
          · show ml_I (pi_rows m2) (if x = 0 then 0 else if x ≤ 32 then 32 + x else 0) = _
            rw [ex, o2, e3, pi_vI]
          · show ml_J (pi_rows m2) (if x = 0 then 0 else if x ≤ 32 then 32 + x else 0) = _
            rw [ex, o4, e4, pi_vJ]
          · have hb := hRb x k hk
            have e6 : ml_R m2 (32 + x) k = if ml_R pi_m1 x k = 0 then 0 else 32 + ml_R pi_m1 x k := (e5 k).1
            show ml_R (pi_rows m2) (if x = 0 then 0 else if x ≤ 32 then 32 + x else 0) k = (if ml_R pi_v x k = 0 then 0 else if ml_R pi_v x k ≤ 32 then 32 + ml_R pi_v x k else 0) ∧ (ml_R pi_v x k = 0 ∨ (if ml_R pi_v x k = 0 then 0 else if ml_R pi_v x k ≤ 32 then 32 + ml_R pi_v x k else 0) ≠ 0) ∧ _
            rw [ex, o3, e6, vR x k x3]
            by_cases z : ml_R pi_m1 x k = 0
            · rw [if_pos z, if_pos z]; exact ⟨rfl, Or.inl z, by rw [pi_vn]; omega⟩
            · rw [if_neg z, if_neg z, if_pos hb]; exact ⟨rfl, Or.inr (by omega), by rw [pi_vn]; omega⟩
    · have e : (if x ≤ 32 then x else 0) = if y = 0 then 0 else if y ≤ 32 then 32 + y else 0 := e
      show (if x ≤ 32 then x else 0) = 0
      by_cases x3 : x ≤ 32
      · rw [if_pos x3] at e ⊢
        by_cases y0 : y = 0
        · rw [if_pos y0] at e; exact e
        · by_cases y3 : y ≤ 32
          · rw [if_neg y0, if_pos y3] at e; omega
          · rw [if_neg y0, if_neg y3] at e; exact e
      · rw [if_neg x3]
    · show (if x ≤ 32 then x else 0) < 65 ∨ _
      left; split <;> omega
    · show (if x = 0 then 0 else if x ≤ 32 then 32 + x else 0) < 65 ∨ _
      left; split
      · omega
      · split <;> omega
  · unfold pa_K pi_rows
    simp only [pl_K_al, pl_n_al, n2]
    exact ⟨rfl, rfl, rfl, rfl, rfl⟩
  · unfold pi_rows; simp only [pl_n_al]; omega
  · unfold pi_rows; simp only [pl_s_al]; omega

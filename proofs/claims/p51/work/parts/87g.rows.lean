/-! SHARINGS: rows one behind the other, as the reference goes through them (pure). Prefixes lie back to front. -/
def pl_gz (nl r : Nat) (p : List Nat) : Nat → List (List Nat)
  | 0 => []
  | k + 1 => (if nl - (k + 1) ∈ p then [] else pl_gv nl r (p.reverse ++ [nl - (k + 1)])) ++ pl_gz nl r p k
theorem pl_gz1 (nl r : Nat) (p : List Nat) (k : Nat) : pl_gz nl r p (k + 1) = (if nl - (k + 1) ∈ p then [] else pl_gv nl r (p.reverse ++ [nl - (k + 1)])) ++ pl_gz nl r p k := rfl
theorem pl_gz_all (nl r : Nat) (p : List Nat) : pl_gz nl r p nl = pl_gv nl (r + 1) p.reverse := by
  rw [pl_gv1, pl_flat_fm]
  have h : ∀ k, k ≤ nl → pl_fm (fun l => if l ∈ p.reverse then [] else pl_gv nl r (p.reverse ++ [l])) (nl - k) ++ pl_gz nl r p k = pl_fm (fun l => if l ∈ p.reverse then [] else pl_gv nl r (p.reverse ++ [l])) nl := by
    intro k
    induction k with
    | zero => intro _; rw [Nat.sub_zero]; exact List.append_nil _
    | succ k ih =>
      intro hk
      have ih := ih (by omega)
      obtain ⟨j, hj⟩ : ∃ j, nl - (k + 1) = j := ⟨_, rfl⟩
      rw [← ih, show nl - k = j + 1 by omega, pl_fm1, pl_gz1, hj, List.append_assoc]
      congr 2
      by_cases hm : j ∈ p
      · rw [if_pos hm, if_pos (List.mem_reverse.mpr hm)]
      · rw [if_neg hm, if_neg (fun z => hm (List.mem_reverse.mp z))]
  have := h nl (Nat.le_refl _)
  rw [Nat.sub_self] at this
  exact this
/-- how many of the last k lodgers are free -/
def pl_fcn (nl : Nat) (p : List Nat) : Nat → Nat
  | 0 => 0
  | k + 1 => (if nl - (k + 1) ∈ p then 0 else 1) + pl_fcn nl p k
theorem pl_fcn1 (nl : Nat) (p : List Nat) (k : Nat) : pl_fcn nl p (k + 1) = (if nl - (k + 1) ∈ p then 0 else 1) + pl_fcn nl p k := rfl
theorem pl_us_cons (l : Nat) (p : List Nat) : pl_us (l :: p) = pl_us p ||| 2 ^ l := by
  apply Nat.eq_of_testBit_eq
  intro i
  rw [pl_tb_ins, pl_us_tb, pl_us_tb]
  by_cases h : l = i
  · simp [h]
  · simp [h, show ¬ i = l from fun z => h z.symm]
theorem pl_us_bc {nl : Nat} {p : List Nat} (hn : p.Nodup) (hl : ∀ x ∈ p, x < nl) : pl_bc (pl_us p) nl = p.length := by
  induction p with
  | nil => exact pl_bc0 nl
  | cons l p ih =>
    rw [List.nodup_cons] at hn
    rw [pl_us_cons, pl_bc_ins (by rw [pl_us_tb]; simp [hn.1]) (hl l List.mem_cons_self), ih hn.2 fun x hx => hl x (List.mem_cons_of_mem _ hx)]; rfl
theorem pl_fcn_le {nl : Nat} {p : List Nat} (hn : p.Nodup) (hl : ∀ x ∈ p, x < nl) : pl_fcn nl p nl + p.length = nl := by
  have h : ∀ k, k ≤ nl → pl_cnt (fun l => !(pl_us p).testBit l) (nl - k) + pl_fcn nl p k = pl_cnt (fun l => !(pl_us p).testBit l) nl := by
    intro k
    induction k with
    | zero => intro _; rw [Nat.sub_zero]; rfl
    | succ k ih =>
      intro hk
      have ih := ih (by omega)
      obtain ⟨j, hj⟩ : ∃ j, nl - (k + 1) = j := ⟨_, rfl⟩
      rw [← ih, show nl - k = j + 1 by omega, pl_cnt1, pl_fcn1, hj]
      by_cases hm : j ∈ p
      · rw [if_pos hm, if_neg (by rw [pl_us_tb]; simp [hm])]; omega
      · rw [if_neg hm, if_pos (by rw [pl_us_tb]; simp [hm])]; omega
  have h1 := h nl (Nat.le_refl _)
  rw [Nat.sub_self] at h1
  have h2 := pl_cnt_not (fun l => (pl_us p).testBit l) nl
  have h3 : pl_bc (pl_us p) nl = pl_cnt (fun l => (pl_us p).testBit l) nl := rfl
  rw [← h3, pl_us_bc hn hl] at h2
  have h4 : pl_cnt (fun l => !(pl_us p).testBit l) 0 = 0 := rfl
  omega
/-- turns of the reference's search with r trunks still to come -/
def pl_dz (nl nt : Nat) : Nat → Nat
  | 0 => 0
  | r + 1 => (nl - (nt - (r + 1))) * (1 + pl_dz nl nt r) + 1
theorem pl_dz1 (nl nt r : Nat) : pl_dz nl nt (r + 1) = (nl - (nt - (r + 1))) * (1 + pl_dz nl nt r) + 1 := rfl
theorem pl_dz_b {nl nt : Nat} (h1 : nl ≤ 8) (h2 : nt ≤ 8) : pl_dz nl nt nt ≤ 200000 := by
  have h : ∀ a b : Fin 9, pl_dz a.val b.val b.val ≤ 200000 := by decide +kernel
  exact h ⟨nl, by omega⟩ ⟨nt, by omega⟩
/-- what is still to come above a prefix -/
def pl_upr (nl nt : Nat) : List Nat → List (List Nat)
  | [] => []
  | l :: p => pl_gz nl (nt - p.length - 1) p (nl - (l + 1)) ++ pl_upr nl nt p
def pl_upm (nl nt : Nat) : List Nat → Nat
  | [] => 0
  | l :: p => pl_fcn nl p (nl - (l + 1)) * (1 + pl_dz nl nt (nt - p.length - 1)) + 1 + pl_upm nl nt p
theorem pl_upr1 (nl nt l : Nat) (p : List Nat) : pl_upr nl nt (l :: p) = pl_gz nl (nt - p.length - 1) p (nl - (l + 1)) ++ pl_upr nl nt p := rfl
theorem pl_upm1 (nl nt l : Nat) (p : List Nat) : pl_upm nl nt (l :: p) = pl_fcn nl p (nl - (l + 1)) * (1 + pl_dz nl nt (nt - p.length - 1)) + 1 + pl_upm nl nt p := rfl
def pl_rst (nl nt : Nat) (p : List Nat) (k : Nat) : List (List Nat) := pl_gz nl (nt - p.length - 1) p k ++ pl_upr nl nt p
def pl_rsm (nl nt : Nat) (p : List Nat) (k : Nat) : Nat := pl_fcn nl p k * (1 + pl_dz nl nt (nt - p.length - 1)) + 1 + pl_upm nl nt p
/-- from the first free one on -/
def pl_fst (nl : Nat) (p : List Nat) : Nat → Nat
  | 0 => 0
  | k + 1 => if nl - (k + 1) ∈ p then pl_fst nl p k else k + 1
theorem pl_fst1 (nl : Nat) (p : List Nat) (k : Nat) : pl_fst nl p (k + 1) = if nl - (k + 1) ∈ p then pl_fst nl p k else k + 1 := rfl
theorem pl_fst_ok (nl r : Nat) (p : List Nat) : ∀ k, pl_fst nl p k ≤ k ∧ pl_gz nl r p k = pl_gz nl r p (pl_fst nl p k) ∧ pl_fcn nl p k = pl_fcn nl p (pl_fst nl p k) ∧ (0 < pl_fst nl p k → nl - pl_fst nl p k ∉ p) := by
  intro k
  induction k with
  | zero => exact ⟨Nat.le_refl _, rfl, rfl, fun h => absurd h (Nat.lt_irrefl 0)⟩
  | succ k ih =>
    rw [pl_fst1]
    by_cases hm : nl - (k + 1) ∈ p
    · rw [if_pos hm, pl_gz1, if_pos hm, pl_fcn1, if_pos hm, List.nil_append, Nat.zero_add]
      exact ⟨by omega, ih.2⟩
    · rw [if_neg hm]
      exact ⟨Nat.le_refl _, rfl, rfl, fun _ => hm⟩
theorem pl_gv_len {nl nt : Nat} : ∀ r (p : List Nat), p.Nodup → (∀ x ∈ p, x < nl) → p.length + r = nt → (pl_gv nl r p.reverse).length ≤ 1 + pl_dz nl nt r := by
  intro r
  induction r with
  | zero => intro p _ _ _; exact Nat.le_refl _
  | succ r ih =>
    intro p hn hl hlen
    have hk : ∀ k, k ≤ nl → (pl_gz nl r p k).length ≤ pl_fcn nl p k * (1 + pl_dz nl nt r) := by
      intro k
      induction k with
      | zero => intro _; exact Nat.zero_le _
      | succ k ihk =>
        intro hkn
        have ihk := ihk (by omega)
        rw [pl_gz1, pl_fcn1, List.length_append, Nat.add_mul]
        by_cases hm : nl - (k + 1) ∈ p
        · rw [if_pos hm, if_pos hm, List.length_nil]; omega
        · rw [if_neg hm, if_neg hm, Nat.one_mul]
          have := ih ((nl - (k + 1)) :: p) (List.nodup_cons.mpr ⟨hm, hn⟩) (fun x hx => by
            rcases List.mem_cons.mp hx with rfl | hx
            · omega
            · exact hl x hx) (by rw [List.length_cons]; omega)
          rw [List.reverse_cons] at this
          omega
    have h1 := hk nl (Nat.le_refl _)
    rw [pl_gz_all] at h1
    have h2 := pl_fcn_le hn hl
    rw [pl_dz1]
    have h3 : pl_fcn nl p nl * (1 + pl_dz nl nt r) ≤ (nl - (nt - (r + 1))) * (1 + pl_dz nl nt r) := Nat.mul_le_mul_right _ (by omega)
    omega
/-- the first free one is found -/
theorem pl_rst_y {nl nt k k' : Nat} {p : List Nat} (hn : p.Nodup) (hl : ∀ x ∈ p, x < nl) (hlen : p.length < nt) (hk : k ≤ nl) (hf : pl_fst nl p k = k' + 1) :
    nl - (k' + 1) ∉ p ∧ nl - (k' + 1) < nl ∧ ((nl - (k' + 1)) :: p).Nodup ∧ (p.length + 1 = nt → pl_rst nl nt p k = ((nl - (k' + 1)) :: p).reverse :: pl_upr nl nt ((nl - (k' + 1)) :: p) ∧ pl_upm nl nt ((nl - (k' + 1)) :: p) < pl_rsm nl nt p k) ∧ (p.length + 1 < nt → pl_rst nl nt p k = pl_rst nl nt ((nl - (k' + 1)) :: p) nl ∧ pl_rsm nl nt ((nl - (k' + 1)) :: p) nl < pl_rsm nl nt p k) := by
  obtain ⟨f1, f2, f3, f4⟩ := pl_fst_ok nl (nt - p.length - 1) p k
  rw [hf] at f1 f2 f3 f4
  have hnp : nl - (k' + 1) ∉ p := f4 (by omega)
  obtain ⟨l, hll⟩ : ∃ l, l = nl - (k' + 1) := ⟨_, rfl⟩
  have hlk : nl - (l + 1) = k' := by omega
  have hln : l < nl := by omega
  rw [← hll] at hnp ⊢
  have hnd : (l :: p).Nodup := List.nodup_cons.mpr ⟨hnp, hn⟩
  have hgf : pl_gz nl (nt - p.length - 1) p k = pl_gv nl (nt - p.length - 1) (l :: p).reverse ++ pl_gz nl (nt - p.length - 1) p k' := by
    rw [f2, pl_gz1, ← hll, if_neg hnp, List.reverse_cons]
  have hfc : pl_fcn nl p k = 1 + pl_fcn nl p k' := by rw [f3, pl_fcn1, ← hll, if_neg hnp]
  refine ⟨hnp, hln, hnd, fun h => ⟨?_, ?_⟩, fun h => ⟨?_, ?_⟩⟩
  · unfold pl_rst
    rw [hgf, pl_upr1, hlk, show nt - p.length - 1 = 0 by omega]; rfl
  · unfold pl_rsm
    rw [hfc, pl_upm1, hlk, show nt - p.length - 1 = 0 by omega]
    have : pl_dz nl nt 0 = 0 := rfl
    rw [this]; omega
  · unfold pl_rst
    rw [hgf, pl_upr1, hlk, List.length_cons, List.append_assoc]
    obtain ⟨r, hr⟩ : ∃ r, nt - p.length - 1 = r + 1 := ⟨nt - p.length - 1 - 1, by omega⟩
    rw [hr, show nt - (p.length + 1) - 1 = r by omega, pl_gz_all]
  · unfold pl_rsm
    rw [hfc, pl_upm1, hlk, List.length_cons]
    obtain ⟨r, hr⟩ : ∃ r, nt - p.length - 1 = r + 1 := ⟨nt - p.length - 1 - 1, by omega⟩
    have h2 := pl_fcn_le hnd (fun x hx => by
      rcases List.mem_cons.mp hx with rfl | hx
      · exact hln
      · exact hl x hx)
    rw [List.length_cons] at h2
    rw [hr, show nt - (p.length + 1) - 1 = r by omega, Nat.add_mul, Nat.one_mul, pl_dz1]
    have h3 : pl_fcn nl (l :: p) nl * (1 + pl_dz nl nt r) ≤ (nl - (nt - (r + 1))) * (1 + pl_dz nl nt r) := Nat.mul_le_mul_right _ (by omega)
    omega
/-- none is free -/
theorem pl_rst_n {nl nt k : Nat} {p : List Nat} (hf : pl_fst nl p k = 0) : pl_rst nl nt p k = pl_upr nl nt p ∧ pl_rsm nl nt p k = 1 + pl_upm nl nt p := by
  obtain ⟨f1, f2, f3, f4⟩ := pl_fst_ok nl (nt - p.length - 1) p k
  rw [hf] at f2 f3
  unfold pl_rst pl_rsm
  rw [f2, f3]
  refine ⟨rfl, ?_⟩
  have : pl_fcn nl p 0 = 0 := rfl
  rw [this]; omega
theorem pl_rst_up (nl nt l : Nat) (p : List Nat) : pl_upr nl nt (l :: p) = pl_rst nl nt p (nl - (l + 1)) ∧ pl_upm nl nt (l :: p) = pl_rsm nl nt p (nl - (l + 1)) := ⟨rfl, rfl⟩
theorem pl_rst_0 {nl nt : Nat} (h : 0 < nt) : pl_rst nl nt [] nl = pl_gv nl nt [] ∧ pl_rsm nl nt [] nl ≤ pl_dz nl nt nt := by
  obtain ⟨r, hr⟩ : ∃ r, nt = r + 1 := ⟨nt - 1, by omega⟩
  constructor
  · unfold pl_rst
    rw [List.length_nil, show nt - 0 - 1 = r by omega, pl_gz_all, hr]
    exact List.append_nil _
  · unfold pl_rsm
    have h2 := pl_fcn_le (nl := nl) (p := []) List.nodup_nil (fun x hx => by simp at hx)
    have h3 : pl_upm nl nt [] = 0 := rfl
    rw [List.length_nil, show nt - 0 - 1 = r by omega, h3]
    have h4 : pl_dz nl nt nt = (nl - (nt - (r + 1))) * (1 + pl_dz nl nt r) + 1 := by
      have : pl_dz nl nt nt = pl_dz nl nt (r + 1) := by rw [← hr]
      rw [this, pl_dz1]
    rw [h4, show nt - (r + 1) = 0 by omega, Nat.sub_zero]
    rw [List.length_nil] at h2
    rw [show pl_fcn nl [] nl = nl by omega]
    omega

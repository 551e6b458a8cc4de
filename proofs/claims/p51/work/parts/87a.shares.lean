/-! SHARINGS: the pure part. Rows of unlike lodgers that go on while they can. -/
def pl_us (w : List Nat) : Nat := w.foldl (fun s l => s ||| 2 ^ l) 0
theorem pl_us_app (w : List Nat) (l : Nat) : pl_us (w ++ [l]) = pl_us w ||| 2 ^ l := by
  unfold pl_us
  rw [List.foldl_append]; rfl
theorem pl_us_fold (w : List Nat) (s i : Nat) : (w.foldl (fun s l => s ||| 2 ^ l) s).testBit i = (s.testBit i || decide (i ∈ w)) := by
  induction w generalizing s with
  | nil => simp
  | cons l w ih =>
    rw [List.foldl_cons, ih, pl_tb_ins]
    by_cases h : l = i
    · simp [h]
    · simp [h, show ¬ i = l from fun z => h z.symm]
theorem pl_us_tb (w : List Nat) (i : Nat) : (pl_us w).testBit i = decide (i ∈ w) := by
  unfold pl_us
  rw [pl_us_fold, Nat.zero_testBit, Bool.false_or]
theorem pl_us_lt {w : List Nat} {n : Nat} (h : ∀ l ∈ w, l < n) : pl_us w < 2 ^ n := by
  have : ∀ (w : List Nat) (s : Nat), (∀ l ∈ w, l < n) → s < 2 ^ n → w.foldl (fun s l => s ||| 2 ^ l) s < 2 ^ n := by
    intro w
    induction w with
    | nil => intro s _ hs; exact hs
    | cons l w ih =>
      intro s hw hs
      rw [List.foldl_cons]
      exact ih _ (fun x hx => hw x (List.mem_cons_of_mem _ hx)) (pl_ins_lt hs (hw l List.mem_cons_self))
  exact this w 0 h (Nat.two_pow_pos n)
theorem pl_abv_tb (A : pl_A) (t i : Nat) : (pl_abv A t).testBit i = pl_any (fun k => decide (pl_N A 3 k 0 = t ∧ pl_N A 3 k 1 = i)) (pl_N A 0 2 0) := by
  unfold pl_abv
  rw [pl_ors_tb]
  congr 1
  funext k
  by_cases h : pl_N A 3 k 0 = t
  · rw [if_pos h, Nat.testBit_two_pow]
    by_cases h2 : pl_N A 3 k 1 = i <;> simp [h, h2]
  · rw [if_neg h]
    simp [h]
theorem pl_abv_lt {A : pl_A} (hW : pl_W A) (t : Nat) : pl_abv A t < 2 ^ pl_N A 0 1 0 := by
  refine pl_ors_lt fun k hk => ?_
  split
  · exact Nat.pow_lt_pow_right (by decide) (hW.2.2.2.1 k hk).2.1
  · exact Nat.two_pow_pos _
/-- whether lodger l can have the next trunk beside those who have the ones ahead -/
def pl_opn (A : pl_A) (w : List Nat) (l i : Nat) : Bool := pl_all (fun i => (!(pl_blw A w.length).testBit i || decide (pl_N A 1 (w.getD i 0) 1 ≤ pl_N A 1 l 1)) && (!(pl_abv A w.length).testBit i || decide (pl_N A 1 l 1 ≤ pl_N A 1 (w.getD i 0) 1))) i
def pl_fq (w : List Nat) (b : Bool) (L : List (List Nat)) (l : Nat) : List (List Nat) := if l ∈ w ∨ b = false then [] else L
def pl_gq (A : pl_A) : Nat → List Nat → List (List Nat)
  | 0, w => if pl_cov A (pl_us w) = true then [w] else []
  | r + 1, w => (List.range (pl_N A 0 0 0)).flatMap fun l => pl_fq w (pl_opn A w l w.length) (pl_gq A r (w ++ [l])) l
theorem pl_gq1 (A : pl_A) (r : Nat) (w : List Nat) : pl_gq A (r + 1) w = (List.range (pl_N A 0 0 0)).flatMap fun l => pl_fq w (pl_opn A w l w.length) (pl_gq A r (w ++ [l])) l := rfl
theorem pl_gv1 (nl r : Nat) (w : List Nat) : pl_gv nl (r + 1) w = (List.range nl).flatMap fun l => if l ∈ w then [] else pl_gv nl r (w ++ [l]) := rfl
theorem pl_filt_flat (p : List Nat → Bool) (f : Nat → List (List Nat)) (L : List Nat) : (L.flatMap f).filter p = L.flatMap fun l => (f l).filter p := by
  induction L with
  | nil => rfl
  | cons a L ih => rw [List.flatMap_cons, List.flatMap_cons, List.filter_append, ih]
theorem pl_flat_eq {f g : Nat → List (List Nat)} {L : List Nat} (h : ∀ l ∈ L, f l = g l) : L.flatMap f = L.flatMap g := by
  induction L with
  | nil => rfl
  | cons a L ih => rw [List.flatMap_cons, List.flatMap_cons, h a List.mem_cons_self, ih fun l hl => h l (List.mem_cons_of_mem _ hl)]
theorem pl_getD_app (w v : List Nat) {i : Nat} (h : i < w.length) : (w ++ v).getD i 0 = w.getD i 0 := by
  rw [List.getD_eq_getElem?_getD, List.getD_eq_getElem?_getD, List.getElem?_append_left h]
theorem pl_getD_len (w : List Nat) (l : Nat) (v : List Nat) : (w ++ l :: v).getD w.length 0 = l := by
  rw [List.getD_eq_getElem?_getD, List.getElem?_append_right (Nat.le_refl _), Nat.sub_self]; rfl
theorem pl_gv_in (nl : Nat) : ∀ r w x, x ∈ pl_gv nl r w → ∃ v, x = w ++ v ∧ v.length = r ∧ ∀ l ∈ v, l < nl := by
  intro r
  induction r with
  | zero =>
    intro w x hx
    have : x = w := by
      have h : x ∈ [w] := hx
      simpa using h
    exact ⟨[], by simp [this], rfl, fun l hl => by simp at hl⟩
  | succ r ih =>
    intro w x hx
    rw [pl_gv1, List.mem_flatMap] at hx
    obtain ⟨l, hl, hx⟩ := hx
    by_cases hw : l ∈ w
    · rw [if_pos hw] at hx; simp at hx
    · rw [if_neg hw] at hx
      obtain ⟨v, h1, h2, h3⟩ := ih _ _ hx
      refine ⟨l :: v, by rw [h1, List.append_assoc]; rfl, by rw [List.length_cons, h2], fun y hy => ?_⟩
      rcases List.mem_cons.mp hy with rfl | hy
      · exact List.mem_range.mp hl
      · exact h3 y hy
/-- piles among the first ones hold -/
def pl_okp (A : pl_A) (w : List Nat) : Prop := ∀ k, k < pl_N A 0 2 0 → pl_N A 3 k 0 < w.length → pl_N A 3 k 1 < w.length → pl_N A 1 (w.getD (pl_N A 3 k 0) 0) 1 ≤ pl_N A 1 (w.getD (pl_N A 3 k 1) 0) 1
theorem pl_opn_iff (A : pl_A) (w : List Nat) (l : Nat) : pl_opn A w l w.length = true ↔ ∀ k, k < pl_N A 0 2 0 → (pl_N A 3 k 1 = w.length → pl_N A 3 k 0 < w.length → pl_N A 1 (w.getD (pl_N A 3 k 0) 0) 1 ≤ pl_N A 1 l 1) ∧ (pl_N A 3 k 0 = w.length → pl_N A 3 k 1 < w.length → pl_N A 1 l 1 ≤ pl_N A 1 (w.getD (pl_N A 3 k 1) 0) 1) := by
  unfold pl_opn
  rw [pl_all_iff]
  constructor
  · intro h k hk
    refine ⟨fun h1 h0 => ?_, fun h0 h1 => ?_⟩
    · have := h _ h0
      rw [Bool.and_eq_true] at this
      have hb : (pl_blw A w.length).testBit (pl_N A 3 k 0) = true := by
        rw [pl_blw_tb, pl_any_iff]; exact ⟨k, hk, decide_eq_true ⟨h1, rfl⟩⟩
      have h2 := this.1
      rw [hb] at h2
      simpa using h2
    · have := h _ h1
      rw [Bool.and_eq_true] at this
      have hb : (pl_abv A w.length).testBit (pl_N A 3 k 1) = true := by
        rw [pl_abv_tb, pl_any_iff]; exact ⟨k, hk, decide_eq_true ⟨h0, rfl⟩⟩
      have h2 := this.2
      rw [hb] at h2
      simpa using h2
  · intro h i hi
    rw [Bool.and_eq_true]
    constructor
    · cases hb : (pl_blw A w.length).testBit i with
      | false => rfl
      | true =>
        rw [pl_blw_tb, pl_any_iff] at hb
        obtain ⟨k, hk, hd⟩ := hb
        obtain ⟨d1, d2⟩ := of_decide_eq_true hd
        have := (h k hk).1 d1 (by omega)
        rw [d2] at this
        simpa using this
    · cases hb : (pl_abv A w.length).testBit i with
      | false => rfl
      | true =>
        rw [pl_abv_tb, pl_any_iff] at hb
        obtain ⟨k, hk, hd⟩ := hb
        obtain ⟨d1, d2⟩ := of_decide_eq_true hd
        have := (h k hk).2 d1 (by omega)
        rw [d2] at this
        simpa using this
theorem pl_okp_app {A : pl_A} (hW : pl_W A) {w : List Nat} {l : Nat} (h : pl_okp A w) (ho : pl_opn A w l w.length = true) : pl_okp A (w ++ [l]) := by
  rw [pl_opn_iff] at ho
  intro k hk h0 h1
  have hp := hW.2.2.2.1 k hk
  rw [List.length_append, List.length_singleton] at h0 h1
  have ho := ho k hk
  by_cases c0 : pl_N A 3 k 0 = w.length
  · have h2 : pl_N A 3 k 1 < w.length := by omega
    rw [c0, pl_getD_len, pl_getD_app _ _ h2]
    exact ho.2 c0 h2
  · by_cases c1 : pl_N A 3 k 1 = w.length
    · have h2 : pl_N A 3 k 0 < w.length := by omega
      rw [c1, pl_getD_len, pl_getD_app _ _ h2]
      exact ho.1 c1 h2
    · rw [pl_getD_app _ _ (show pl_N A 3 k 0 < w.length by omega), pl_getD_app _ _ (show pl_N A 3 k 1 < w.length by omega)]
      exact h k hk (by omega) (by omega)
theorem pl_good_not {A : pl_A} {w v : List Nat} {l : Nat} (ho : pl_opn A w l w.length = false) : pl_good A (w ++ l :: v) = false := by
  have hn : ¬ pl_opn A w l w.length = true := by rw [ho]; decide
  rw [pl_opn_iff] at hn
  cases hg : pl_good A (w ++ l :: v) with
  | false => rfl
  | true =>
    exfalso
    apply hn
    unfold pl_good at hg
    rw [Bool.and_eq_true, pl_all_iff] at hg
    intro k hk
    have := of_decide_eq_true (hg.1 k hk)
    refine ⟨fun h1 h0 => ?_, fun h0 h1 => ?_⟩
    · rw [h1, pl_getD_len, pl_getD_app _ _ h0] at this; exact this
    · rw [h0, pl_getD_len, pl_getD_app _ _ h1] at this; exact this
theorem pl_gq_gv {A : pl_A} (hW : pl_W A) : ∀ r w, w.length + r = pl_N A 0 1 0 → pl_okp A w → pl_gq A r w = (pl_gv (pl_N A 0 0 0) r w).filter (pl_good A) := by
  intro r
  induction r with
  | zero =>
    intro w hl ho
    have hall : pl_all (fun k => decide (pl_N A 1 (w.getD (pl_N A 3 k 0) 0) 1 ≤ pl_N A 1 (w.getD (pl_N A 3 k 1) 0) 1)) (pl_N A 0 2 0) = true := by
      rw [pl_all_iff]
      intro k hk
      have hp := hW.2.2.2.1 k hk
      exact decide_eq_true (ho k hk (by omega) (by omega))
    have hg : pl_good A w = pl_cov A (pl_us w) := by
      unfold pl_good
      rw [hall, Bool.true_and]; rfl
    show (if pl_cov A (pl_us w) = true then [w] else []) = [w].filter (pl_good A)
    rw [List.filter_cons, hg]; rfl
  | succ r ih =>
    intro w hl ho
    rw [pl_gq1, pl_gv1, pl_filt_flat]
    refine pl_flat_eq fun l _ => ?_
    unfold pl_fq
    by_cases hw : l ∈ w
    · rw [if_pos (Or.inl hw), if_pos hw]; rfl
    · rw [if_neg hw]
      cases hop : pl_opn A w l w.length with
      | false =>
        rw [if_pos (Or.inr rfl), eq_comm, List.filter_eq_nil_iff]
        intro x hx
        obtain ⟨v, hv, -⟩ := pl_gv_in _ _ _ _ hx
        rw [hv, List.append_assoc]
        have : pl_good A (w ++ ([l] ++ v)) = false := pl_good_not hop
        rw [this]; decide
      | true =>
        rw [if_neg (fun z => z.elim hw (by decide))]
        exact ih _ (by rw [List.length_append, List.length_singleton]; omega) (pl_okp_app hW ho hop)
theorem pl_S_gq {A : pl_A} (hW : pl_W A) : pl_S A = pl_gq A (pl_N A 0 1 0) [] := by
  unfold pl_S
  rw [pl_gq_gv hW _ _ (by simp) (fun k _ h => by simp at h)]
/-- one behind the other, from 0 on -/
def pl_fm (f : Nat → List (List Nat)) : Nat → List (List Nat)
  | 0 => []
  | n + 1 => pl_fm f n ++ f n
theorem pl_fm1 (f : Nat → List (List Nat)) (n : Nat) : pl_fm f (n + 1) = pl_fm f n ++ f n := rfl
theorem pl_flat_fm (f : Nat → List (List Nat)) (n : Nat) : (List.range n).flatMap f = pl_fm f n := by
  induction n with
  | zero => rfl
  | succ n ih => rw [List.range_succ, List.flatMap_append, ih, pl_fm1]; simp
/-- those of the first trunks' things that are moved -/
def pl_mv (A : pl_A) (w : List Nat) : Nat := pl_cnt (fun i => decide (pl_N A 4 i 3 < w.length) && !pl_may A (w.getD (pl_N A 4 i 3) 0) i) (pl_N A 0 3 0)
/-- things in a trunk that a lodger may not have owned -/
def pl_st (A : pl_A) (t l n : Nat) : Nat := pl_cnt (fun i => decide (pl_N A 4 i 3 = t) && !pl_may A l i) n
theorem pl_cnt_2 {p q r : Nat → Bool} {n : Nat} (h : ∀ i, i < n → (p i = true ↔ (q i = true ∨ r i = true)) ∧ ¬ (q i = true ∧ r i = true)) : pl_cnt p n = pl_cnt q n + pl_cnt r n := by
  induction n with
  | zero => rfl
  | succ n ih =>
    rw [pl_cnt1, pl_cnt1, pl_cnt1, ih fun i hi => h i (by omega)]
    have := h n (by omega)
    by_cases hp : p n = true
    · rw [if_pos hp]
      rcases this.1.mp hp with hq | hr
      · rw [if_pos hq, if_neg (fun z => this.2 ⟨hq, z⟩)]; omega
      · rw [if_pos hr, if_neg (fun z => this.2 ⟨z, hr⟩)]; omega
    · rw [if_neg hp, if_neg (fun z => hp (this.1.mpr (Or.inl z))), if_neg (fun z => hp (this.1.mpr (Or.inr z)))]
theorem pl_mv_app (A : pl_A) (w : List Nat) (l : Nat) : pl_mv A (w ++ [l]) = pl_mv A w + pl_st A w.length l (pl_N A 0 3 0) := by
  unfold pl_mv pl_st
  refine pl_cnt_2 fun i _ => ?_
  rw [List.length_append, List.length_singleton]
  simp only [Bool.and_eq_true, decide_eq_true_eq]
  by_cases c : pl_N A 4 i 3 = w.length
  · rw [c, pl_getD_len]
    exact ⟨⟨fun z => Or.inr ⟨rfl, z.2⟩, fun z => ⟨by omega, z.elim (fun y => absurd y.1 (by omega)) (fun y => y.2)⟩⟩, fun z => absurd z.1.1 (by omega)⟩
  · by_cases c2 : pl_N A 4 i 3 < w.length
    · rw [pl_getD_app _ _ c2]
      exact ⟨⟨fun z => Or.inl ⟨c2, z.2⟩, fun z => ⟨by omega, z.elim (fun y => y.2) (fun y => absurd y.1 c)⟩⟩, fun z => c z.2.1⟩
    · exact ⟨⟨fun z => absurd z.1 (by omega), fun z => z.elim (fun y => absurd y.1 c2) (fun y => absurd y.1 c)⟩, fun z => c z.2.1⟩
theorem pl_mv_all {A : pl_A} (hW : pl_W A) {w : List Nat} (hl : w.length = pl_N A 0 1 0) : pl_mv A w = pl_moved A w := by
  unfold pl_mv pl_moved
  refine pl_cnt_eq fun i hi => ?_
  have h1 := (hW.2.2.2.2.1 i hi).2.2.2.1
  have hw := hW.1
  unfold pl_Wc at hw
  congr 1
  by_cases c : pl_N A 4 i 3 = 100
  · rw [decide_eq_false (by omega), decide_eq_false (by omega)]
  · rw [decide_eq_true (by omega), decide_eq_true c]
theorem pl_moved_le {A : pl_A} (hW : pl_W A) (w : List Nat) : pl_moved A w ≤ 20 := by
  have hw := hW.1
  unfold pl_Wc at hw
  have := pl_cnt_le (fun i => decide (pl_N A 4 i 3 ≠ 100) && !pl_may A (w.getD (pl_N A 4 i 3) 0) i) (pl_N A 0 3 0)
  unfold pl_moved
  omega

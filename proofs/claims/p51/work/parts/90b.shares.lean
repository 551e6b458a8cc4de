/-! SHARINGS of both: one's are the other's, the lodgers counted from the other end. -/
def pm_mir (nl : Nat) (w : List Nat) : List Nat := w.map fun l => nl - 1 - l
theorem pm_flatc {f g : Nat → List (List Nat)} {L : List Nat} (h : ∀ l, l ∈ L → (f l).Perm (g l)) : (L.flatMap f).Perm (L.flatMap g) := by
  induction L with
  | nil => exact List.Perm.refl _
  | cons a L ih =>
    rw [List.flatMap_cons, List.flatMap_cons]
    exact (h a (List.mem_cons_self ..)).append (ih fun l hl => h l (List.mem_cons_of_mem _ hl))
theorem pm_mir_in {nl l : Nat} {p : List Nat} (hl : l < nl) (hp : ∀ x, x ∈ p → x < nl) : nl - 1 - l ∈ pm_mir nl p ↔ l ∈ p := by
  unfold pm_mir
  rw [List.mem_map]
  constructor
  · rintro ⟨x, hx, he⟩
    have := hp x hx
    rw [show l = x by omega]; exact hx
  · intro h; exact ⟨l, h, rfl⟩
theorem pm_gvm (nl : Nat) : ∀ r (p : List Nat), (∀ x, x ∈ p → x < nl) → ((pl_gv nl r p).map (pm_mir nl)).Perm (pl_gv nl r (pm_mir nl p)) := by
  intro r
  induction r with
  | zero => intro p _; exact List.Perm.refl _
  | succ r ih =>
    intro p hp
    rw [pl_gv1, pl_gv1, List.map_flatMap]
    have e1 : ((List.range nl).flatMap fun l => (if l ∈ p then [] else pl_gv nl r (p ++ [l])).map (pm_mir nl)).Perm ((List.range nl).flatMap fun l => if nl - 1 - l ∈ pm_mir nl p then [] else pl_gv nl r (pm_mir nl p ++ [nl - 1 - l])) := by
      refine pm_flatc fun l hl => ?_
      have hl := List.mem_range.mp hl
      by_cases c : l ∈ p
      · rw [if_pos c, if_pos ((pm_mir_in hl hp).mpr c)]; exact List.Perm.refl _
      · rw [if_neg c, if_neg (fun z => c ((pm_mir_in hl hp).mp z))]
        have := ih (p ++ [l]) (fun x hx => by
          rcases List.mem_append.mp hx with h | h
          · exact hp x h
          · rw [List.mem_singleton.mp h]; exact hl)
        have e : pm_mir nl (p ++ [l]) = pm_mir nl p ++ [nl - 1 - l] := by
          unfold pm_mir; rw [List.map_append]; rfl
        rw [e] at this
        exact this
    refine e1.trans ?_
    have e2 : ((List.range nl).flatMap fun l => if nl - 1 - l ∈ pm_mir nl p then [] else pl_gv nl r (pm_mir nl p ++ [nl - 1 - l])) = (List.range nl).reverse.flatMap fun l => if l ∈ pm_mir nl p then [] else pl_gv nl r (pm_mir nl p ++ [l]) := by
      have : (List.range nl).reverse = (List.range nl).map fun l => nl - 1 - l := by
        have h := List.reverse_range' (s := 0) (n := nl)
        rw [← List.range_eq_range'] at h
        rw [h]
        refine List.map_congr_left fun x _ => ?_
        omega
      rw [this, List.flatMap_map]
    rw [e2]
    exact List.Perm.flatMap_right _ (List.reverse_perm _)
theorem pm_gv0 (nl r : Nat) : ((pl_gv nl r []).map (pm_mir nl)).Perm (pl_gv nl r []) := pm_gvm nl r [] (fun x hx => by cases hx)
theorem pm_gv_in {nl nt : Nat} {w : List Nat} (h : w ∈ pl_gv nl nt []) : w.length = nt ∧ ∀ x, x ∈ w → x < nl := by
  obtain ⟨v, rfl, h2, h3⟩ := pl_gv_in nl nt [] w h
  exact ⟨h2, h3⟩
theorem pm_mir_get {nl t : Nat} {w : List Nat} (ht : t < w.length) : (pm_mir nl w).getD t 0 = nl - 1 - w.getD t 0 := by
  unfold pm_mir
  rw [List.getD_eq_getElem?_getD, List.getD_eq_getElem?_getD, List.getElem?_map, List.getElem?_eq_getElem ht]; rfl
theorem pm_get_lt {nl t : Nat} {w : List Nat} (ht : t < w.length) (hw : ∀ x, x ∈ w → x < nl) : w.getD t 0 < nl := by
  rw [pl_getD_e ht]; exact hw _ (List.getElem_mem ht)
section shares
variable {A B : pl_A} {nl nt np n : Nat}
theorem pm_good (h : pm_R A B nl nt np n) (hW : pl_W A) {w : List Nat} (hl : w.length = nt) (hw : ∀ x, x ∈ w → x < nl) : pl_good B w = pl_good A (pm_mir nl w) ∧ pl_moved B w = pl_moved A (pm_mir nl w) := by
  constructor
  · unfold pl_good
    rw [h.1.2.2.1.1, h.1.2.2.1.2]
    have hcov : pl_cov B (pl_us w) = pl_cov A (pl_us (pm_mir nl w)) := by
      refine pm_cov h hW fun j hj => ?_
      rw [pl_us_tb, pl_us_tb]
      apply decide_eq_decide.mpr
      have := pm_mir_in (l := nl - 1 - j) (nl := nl) (p := w) (by omega) hw
      rw [show nl - 1 - (nl - 1 - j) = j by omega] at this
      exact this.symm
    have hcov2 : pl_cov B (w.foldl (fun s l => s ||| 2 ^ l) 0) = pl_cov A ((pm_mir nl w).foldl (fun s l => s ||| 2 ^ l) 0) := hcov
    rw [hcov2]
    congr 1
    refine pm_allc fun k hk => ?_
    have hp := hW.2.2.2.1 k (by rw [h.1.2.2.1.1]; exact hk)
    rw [h.1.2.1.1] at hp
    rw [h.2.2.2.1 k 0 hk (by decide), h.2.2.2.1 k 1 hk (by decide)]
    have g0 := pm_get_lt (t := pl_N A 3 k 0) (by omega) hw
    have g1 := pm_get_lt (t := pl_N A 3 k 1) (by omega) hw
    rw [h.2.1 _ 1 g0 (by decide), h.2.1 _ 1 g1 (by decide), pm_mir_get (by omega), pm_mir_get (by omega)]
  · unfold pl_moved
    rw [h.1.2.2.2.1.1, h.1.2.2.2.1.2]
    refine pm_cntc fun i hi => ?_
    rw [h.2.2.2.2.1 i 3 (by decide)]
    by_cases c : pl_N A 4 i 3 = 100
    · rw [decide_eq_false (fun z => z c), Bool.false_and, Bool.false_and]
    · have hx := (hW.2.2.2.2.1 i (by rw [h.1.2.2.2.1.1]; exact hi)).2.2.2.1
      rw [h.1.2.1.1] at hx
      have hx : pl_N A 4 i 3 < w.length := by omega
      have g := pm_get_lt hx hw
      rw [pm_mir_get hx, ← pm_may h (l := nl - 1 - w.getD (pl_N A 4 i 3) 0) (by omega) hi (pm_kind h hW hi), show nl - 1 - (nl - 1 - w.getD (pl_N A 4 i 3) 0) = w.getD (pl_N A 4 i 3) 0 by omega]
theorem pm_S (h : pm_R A B nl nt np n) (hW : pl_W A) (q : Nat) : ((pl_of B q).map (pm_mir nl)).Perm (pl_of A q) := by
  have e : ∀ C : pl_A, pl_of C q = (pl_gv (pl_N C 0 0 0) (pl_N C 0 1 0) []).filter fun w => decide (pl_moved C w ≤ q) && pl_good C w := fun C => by
    unfold pl_of pl_S
    rw [List.filter_filter]
  rw [e A, e B, h.1.1.1, h.1.1.2, h.1.2.1.1, h.1.2.1.2]
  have e2 : (pl_gv nl nt []).filter (fun w => decide (pl_moved B w ≤ q) && pl_good B w) = (pl_gv nl nt []).filter ((fun w => decide (pl_moved A w ≤ q) && pl_good A w) ∘ pm_mir nl) := by
    refine List.filter_congr fun w hw => ?_
    obtain ⟨h1, h2⟩ := pm_gv_in hw
    obtain ⟨g1, g2⟩ := pm_good h hW h1 h2
    show _ = (decide (pl_moved A (pm_mir nl w) ≤ q) && pl_good A (pm_mir nl w))
    rw [g1, g2]
  rw [e2, ← List.filter_map]
  exact (pm_gv0 nl nt).filter _
theorem pm_ways (h : pm_R A B nl nt np n) (hW : pl_W A) (q : Nat) : (pl_of B q).length = (pl_of A q).length := by
  rw [← (pm_S h hW q).length_eq, List.length_map]
/-- the best of them -/
theorem pm_bst (A : pl_A) (L : List (List Nat)) : (pl_bst A L = none ∧ L = []) ∨ ∃ q, pl_bst A L = some q ∧ q.2 ∈ L ∧ q.1 = pl_moved A q.2 ∧ ∀ w, w ∈ L → q.1 ≤ pl_moved A w := by
  have key : ∀ (L P : List (List Nat)), ((pl_bst A P = none ∧ P = []) ∨ ∃ q, pl_bst A P = some q ∧ q.2 ∈ P ∧ q.1 = pl_moved A q.2 ∧ ∀ w, w ∈ P → q.1 ≤ pl_moved A w) → ((pl_bst A (P ++ L) = none ∧ P ++ L = []) ∨ ∃ q, pl_bst A (P ++ L) = some q ∧ q.2 ∈ P ++ L ∧ q.1 = pl_moved A q.2 ∧ ∀ w, w ∈ P ++ L → q.1 ≤ pl_moved A w) := by
    intro L
    induction L with
    | nil => intro P hP; rw [List.append_nil]; exact hP
    | cons a L ih =>
      intro P hP
      have := ih (P ++ [a]) (Or.inr ?_)
      · rw [List.append_assoc] at this; exact this
      · rw [pl_bst_app]
        rcases hP with ⟨h1, h2⟩ | ⟨q, h1, h2, h3, h4⟩
        · rw [h1]
          refine ⟨_, rfl, by simp, rfl, fun w hw => ?_⟩
          rw [h2, List.nil_append, List.mem_singleton] at hw
          rw [hw]; exact Nat.le_refl _
        · rw [h1]
          by_cases c : pl_moved A a < q.1
          · refine ⟨(pl_moved A a, a), if_pos c, by simp, rfl, fun w hw => ?_⟩
            rcases List.mem_append.mp hw with h | h
            · have := h4 w h
              show pl_moved A a ≤ _
              omega
            · rw [List.mem_singleton.mp h]; exact Nat.le_refl _
          · refine ⟨q, if_neg c, List.mem_append_left _ h2, h3, fun w hw => ?_⟩
            rcases List.mem_append.mp hw with h | h
            · exact h4 w h
            · rw [List.mem_singleton.mp h]; omega
  have := key L [] (Or.inl ⟨rfl, rfl⟩)
  rw [List.nil_append] at this
  exact this
theorem pm_best (A : pl_A) : (pl_best A = none ∧ pl_S A = []) ∨ ∃ q, pl_best A = some q ∧ q.2 ∈ pl_S A ∧ q.1 = pl_moved A q.2 ∧ ∀ w, w ∈ pl_S A → q.1 ≤ pl_moved A w := pm_bst A (pl_S A)
theorem pm_len_pos {L : List (List Nat)} : 0 < L.length ↔ ∃ w, w ∈ L := by
  cases L with
  | nil => exact ⟨fun h => absurd h (Nat.lt_irrefl 0), fun ⟨w, h⟩ => by cases h⟩
  | cons a L => exact ⟨fun _ => ⟨a, List.mem_cons_self ..⟩, fun _ => Nat.succ_pos _⟩
theorem pm_wpos (A : pl_A) (k : Nat) : 0 < (pl_of A k).length ↔ ∃ q, pl_best A = some q ∧ q.1 ≤ k := by
  rw [pm_len_pos]
  unfold pl_of
  rcases pm_best A with ⟨h1, h2⟩ | ⟨q, h1, h2, h3, h4⟩
  · rw [h1, h2]
    constructor
    · rintro ⟨w, h⟩; cases h
    · rintro ⟨q, h, _⟩; cases h
  · rw [h1]
    constructor
    · rintro ⟨w, hw⟩
      rw [List.mem_filter] at hw
      have := h4 w hw.1
      have := of_decide_eq_true hw.2
      exact ⟨q, rfl, by omega⟩
    · rintro ⟨q', he, hk⟩
      cases he
      exact ⟨q.2, List.mem_filter.mpr ⟨h2, decide_eq_true (by omega)⟩⟩
theorem pm_share (h : pm_R A B nl nt np n) (hW : pl_W A) : (pl_best A = none ∧ pl_best B = none) ∨ ∃ q q', pl_best A = some q ∧ pl_best B = some q' ∧ q'.1 = q.1 := by
  have hw : ∀ k, (∃ q, pl_best B = some q ∧ q.1 ≤ k) ↔ ∃ q, pl_best A = some q ∧ q.1 ≤ k := fun k => by
    rw [← pm_wpos, ← pm_wpos, pm_ways h hW]
  cases ha : pl_best A with
  | none =>
    cases hb : pl_best B with
    | none => exact Or.inl ⟨rfl, rfl⟩
    | some q =>
      obtain ⟨q', h1, _⟩ := (hw q.1).mp ⟨q, hb, Nat.le_refl _⟩
      rw [ha] at h1; cases h1
  | some q =>
    obtain ⟨q', h1, h2⟩ := (hw q.1).mpr ⟨q, ha, Nat.le_refl _⟩
    obtain ⟨q'', h3, h4⟩ := (hw q'.1).mp ⟨q', h1, Nat.le_refl _⟩
    rw [ha] at h3
    cases h3
    exact Or.inr ⟨q, q', rfl, h1, by omega⟩
theorem pm_wmono (A : pl_A) (k : Nat) : (pl_of A k).length ≤ (pl_of A (k + 1)).length := by
  unfold pl_of
  rw [← List.countP_eq_length_filter, ← List.countP_eq_length_filter]
  refine List.countP_mono_left fun w _ hw => ?_
  have := of_decide_eq_true hw
  exact decide_eq_true (by omega)
end shares
theorem pm_nd {w : List Nat} (h : pl_nd w) : w.Nodup := by
  rw [List.nodup_iff_pairwise_ne, List.pairwise_iff_getElem]
  intro i j hi hj hij
  have := h i j hij hj
  rw [pl_getD_e hi, pl_getD_e hj] at this
  exact this
theorem pm_bc_mono {S T : Nat} (h : ∀ j, S.testBit j = true → T.testBit j = true) (n : Nat) : pl_bc S n ≤ pl_bc T n := by
  unfold pl_bc
  induction n with
  | zero => exact Nat.le_refl _
  | succ n ih =>
    rw [pl_cnt1, pl_cnt1]
    by_cases c : S.testBit n = true
    · rw [if_pos c, if_pos (h n c)]; omega
    · rw [if_neg c]; split <;> omega
/-- those who are in each sharing, and in one at least -/
def pm_ea (A : pl_A) (k : Nat) : Nat := pl_set (fun l => decide (pl_sw A k l = (pl_of A k).length)) (pl_N A 0 0 0)
def pm_eo (A : pl_A) (k : Nat) : Nat := pl_set (fun l => decide (0 < pl_sw A k l)) (pl_N A 0 0 0)
theorem pm_sub {A : pl_A} {k : Nat} (h0 : 0 < (pl_of A k).length) (j : Nat) (hj : (pm_ea A k).testBit j = true) : (pm_eo A k).testBit j = true := by
  unfold pm_ea at hj
  unfold pm_eo
  rw [pl_set_tb, Bool.and_eq_true] at *
  refine ⟨hj.1, decide_eq_true ?_⟩
  have := of_decide_eq_true hj.2
  omega
theorem pm_ea_bc {A : pl_A} {k : Nat} (h0 : 0 < (pl_of A k).length) : pl_bc (pm_ea A k) (pl_N A 0 0 0) ≤ pl_N A 0 1 0 := by
  obtain ⟨w, hw⟩ := pm_len_pos.mp h0
  obtain ⟨w1, w2, w3⟩ := pl_of_w w hw
  rw [← w2, ← pl_us_bc (pm_nd w1) w3]
  refine pm_bc_mono (fun j hj => ?_) _
  unfold pm_ea at hj
  rw [pl_set_tb, Bool.and_eq_true] at hj
  have he := of_decide_eq_true hj.2
  rw [pl_sw_eq] at he
  rw [pl_us_tb]
  have hall := (List.length_filter_eq_length_iff).mp he w hw
  exact hall
/-- who is in one at least has one trunk at least -/
theorem pm_whose (A : pl_A) (k : Nat) : pl_ors (fun t => pl_set (fun l => decide (0 < pl_cw A k t l)) (pl_N A 0 0 0)) (pl_N A 0 1 0) = pm_eo A k := by
  apply Nat.eq_of_testBit_eq
  intro j
  unfold pm_eo
  have : ∀ m, (pl_ors (fun t => pl_set (fun l => decide (0 < pl_cw A k t l)) (pl_N A 0 0 0)) m).testBit j = (decide (j < pl_N A 0 0 0) && decide (0 < pl_sum (fun t => pl_cw A k t j) m)) := fun m => by
    induction m with
    | zero =>
      have e : decide (0 < pl_sum (fun t => pl_cw A k t j) 0) = false := rfl
      have e2 : pl_ors (fun t => pl_set (fun l => decide (0 < pl_cw A k t l)) (pl_N A 0 0 0)) 0 = 0 := rfl
      rw [e, e2, Nat.zero_testBit, Bool.and_false]
    | succ m ih =>
      rw [pl_ors1, Nat.testBit_or, ih, pl_set_tb, pl_sum1, ← Bool.and_or_distrib_left]
      congr 1
      by_cases c1 : 0 < pl_sum (fun t => pl_cw A k t j) m
      · rw [decide_eq_true c1, decide_eq_true (show 0 < pl_sum (fun t => pl_cw A k t j) m + pl_cw A k m j by omega)]; rfl
      · rw [decide_eq_false c1, Bool.false_or]
        exact decide_eq_decide.mpr (by omega)
  rw [this, pl_set_tb]; rfl
theorem pm_whose0 {A : pl_A} {k : Nat} (h0 : (pl_of A k).length = 0) (t : Nat) : pl_set (fun l => decide (0 < pl_cw A k t l)) (pl_N A 0 0 0) = 0 := by
  have e : ∀ l, pl_cw A k t l = 0 := fun l => by
    unfold pl_cw
    have := List.length_filter_le (fun w => w.getD t 0 == l) (pl_of A k)
    omega
  apply Nat.eq_of_testBit_eq
  intro j
  rw [pl_set_tb, e, Nat.zero_testBit, decide_eq_false (Nat.lt_irrefl 0), Bool.and_false]
/-- what next tells -/
theorem pm_mo2 {A : pl_A} {k t : Nat} (h0 : 0 < (pl_of A k).length) (ht : t < pl_N A 0 1 0) : 1 ≤ pl_mo2 A k t (pl_N A 0 0 0) ∧ pl_mo2 A k t (pl_N A 0 0 0) ≤ (pl_of A k).length := by
  have hup : ∀ m, pl_mo2 A k t m ≤ (pl_of A k).length ∧ ∀ l, l < m → pl_cw A k t l ≤ pl_mo2 A k t m := fun m => by
    induction m with
    | zero => exact ⟨Nat.zero_le _, fun l hl => absurd hl (Nat.not_lt_zero l)⟩
    | succ m ih =>
      rw [pl_mo21]
      have hc : pl_cw A k t m ≤ (pl_of A k).length := List.length_filter_le _ _
      split
      · refine ⟨hc, fun l hl => ?_⟩
        by_cases e : l = m
        · rw [e]; exact Nat.le_refl _
        · have := ih.2 l (by omega); omega
      · refine ⟨ih.1, fun l hl => ?_⟩
        by_cases e : l = m
        · rw [e]; omega
        · exact ih.2 l (by omega)
  refine ⟨?_, (hup _).1⟩
  obtain ⟨w, hw⟩ := pm_len_pos.mp h0
  obtain ⟨w1, w2, w3⟩ := pl_of_w w hw
  have hl := pm_get_lt (t := t) (by omega) w3
  have := (hup _).2 _ hl
  have hc : 0 < pl_cw A k t (w.getD t 0) := by
    unfold pl_cw
    exact pm_len_pos.mpr ⟨w, List.mem_filter.mpr ⟨hw, by simp⟩⟩
  omega
theorem pm_nb {A : pl_A} {k : Nat} (h0 : 0 < (pl_of A k).length) : ∀ t, t < pl_N A 0 1 0 → 1 ≤ (pl_nb A k (t + 1)).2 ∧ (pl_nb A k (t + 1)).2 ≤ (pl_of A k).length := by
  intro t
  induction t with
  | zero =>
    intro ht
    have e : (pl_nb A k 0).1 = -9 := rfl
    rw [pl_nb1, if_pos (Or.inl e)]
    exact pm_mo2 h0 ht
  | succ t ih =>
    intro ht
    rw [pl_nb1]
    split
    · exact pm_mo2 h0 ht
    · exact ih (by omega)

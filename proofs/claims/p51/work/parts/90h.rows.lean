/-! BITS laid in a row, and back to front. -/
/-- all rows of d that are not in a set -/
def pm_gs (m : Nat) : Nat → Nat → List (List Nat)
  | 0, _ => [[]]
  | d + 1, S => (List.range m).flatMap fun j => if S.testBit j = true then [] else (pm_gs m d (S ||| 2 ^ j)).map (fun v => j :: v)
theorem pm_gs1 (m d S : Nat) : pm_gs m (d + 1) S = (List.range m).flatMap fun j => if S.testBit j = true then [] else (pm_gs m d (S ||| 2 ^ j)).map (fun v => j :: v) := rfl
/-- the sheets that a row begins -/
def pm_gp (A : pl_A) (js : Nat → Bool) : List Nat → Nat
  | [] => 0
  | j :: v => pm_gp A (pl_jn A j) v + (if js j = true then 0 else 1)
theorem pm_gp1 (A : pl_A) (js : Nat → Bool) (j : Nat) (v : List Nat) : pm_gp A js (j :: v) = pm_gp A (pl_jn A j) v + (if js j = true then 0 else 1) := rfl
theorem pm_gp_le (A : pl_A) : ∀ (w : List Nat) (js : Nat → Bool), pm_gp A js w ≤ w.length := by
  intro w
  induction w with
  | nil => intro js; exact Nat.le_refl _
  | cons j v ih =>
    intro js
    have := ih (pl_jn A j)
    rw [pm_gp1, List.length_cons]
    split <;> omega
theorem pm_gs_mem (m : Nat) : ∀ d S w, w ∈ pm_gs m d S ↔ w.length = d ∧ w.Nodup ∧ ∀ x, x ∈ w → x < m ∧ S.testBit x = false := by
  intro d
  induction d with
  | zero =>
    intro S w
    show w ∈ [[]] ↔ _
    rw [List.mem_singleton]
    constructor
    · rintro rfl; exact ⟨rfl, List.nodup_nil, fun x hx => by cases hx⟩
    · rintro ⟨h, -⟩; exact List.eq_nil_of_length_eq_zero h
  | succ d ih =>
    intro S w
    rw [pm_gs1, List.mem_flatMap]
    constructor
    · rintro ⟨j, hj, hw⟩
      have hj := List.mem_range.mp hj
      by_cases c : S.testBit j = true
      · rw [if_pos c] at hw; cases hw
      · rw [if_neg c, List.mem_map] at hw
        obtain ⟨v, hv, rfl⟩ := hw
        obtain ⟨h1, h2, h3⟩ := (ih _ _).mp hv
        have hnj : j ∉ v := fun z => by
          have := (h3 j z).2
          rw [Nat.testBit_or, Nat.testBit_two_pow_self, Bool.or_true] at this
          cases this
        refine ⟨by rw [List.length_cons, h1], List.nodup_cons.mpr ⟨hnj, h2⟩, fun x hx => ?_⟩
        rcases List.mem_cons.mp hx with z | z
        · rw [z]; exact ⟨hj, by simpa using c⟩
        · have := h3 x z
          rw [Nat.testBit_or, Bool.or_eq_false_iff] at this
          exact ⟨this.1, this.2.1⟩
    · rintro ⟨h1, h2, h3⟩
      cases w with
      | nil => cases h1
      | cons j v =>
        rw [List.nodup_cons] at h2
        have hj := h3 j (List.mem_cons_self ..)
        refine ⟨j, List.mem_range.mpr hj.1, ?_⟩
        rw [if_neg (by rw [hj.2]; decide), List.mem_map]
        refine ⟨v, (ih _ _).mpr ⟨by simpa using h1, h2.2, fun x hx => ?_⟩, rfl⟩
        have hx' := h3 x (List.mem_cons_of_mem _ hx)
        refine ⟨hx'.1, ?_⟩
        rw [Nat.testBit_or, hx'.2, Bool.false_or]
        have : j ≠ x := fun z => h2.1 (by rw [z]; exact hx)
        rw [Nat.testBit_two_pow_of_ne this]
theorem pm_gs_nd (m : Nat) : ∀ d S, (pm_gs m d S).Nodup := by
  intro d
  induction d with
  | zero => intro S; exact List.nodup_cons.mpr ⟨by simp, List.nodup_nil⟩
  | succ d ih =>
    intro S
    rw [pm_gs1, List.nodup_iff_pairwise_ne, List.pairwise_flatMap]
    constructor
    · intro j _
      by_cases c : S.testBit j = true
      · rw [if_pos c]; exact List.Pairwise.nil
      · rw [if_neg c, List.pairwise_map]
        refine (List.nodup_iff_pairwise_ne.mp (ih (S ||| 2 ^ j))).imp fun h z => h ?_
        exact (List.cons.inj z).2
    · refine (List.nodup_iff_pairwise_ne.mp (List.nodup_range (n := m))).imp fun {a b} h x hx y hy z => h ?_
      have hx : ∃ v, x = a :: v := by
        split at hx
        · cases hx
        · obtain ⟨v, _, rfl⟩ := List.mem_map.mp hx; exact ⟨v, rfl⟩
      have hy : ∃ v, y = b :: v := by
        split at hy
        · cases hy
        · obtain ⟨v, _, rfl⟩ := List.mem_map.mp hy; exact ⟨v, rfl⟩
      obtain ⟨v, rfl⟩ := hx
      obtain ⟨v', rfl⟩ := hy
      exact (List.cons.inj z).1
/-- the least of some, and how often it is there -/
def pm_mc (L : List Nat) (p : Nat × Nat) : Prop := (∀ x, x ∈ L → p.1 ≤ x) ∧ p.2 = L.count p.1 ∧ ((p.1 = 100 ∧ L = []) ∨ p.1 ∈ L)
theorem pm_mc_perm {L L' : List Nat} {p p' : Nat × Nat} (h : L.Perm L') (h1 : pm_mc L p) (h2 : pm_mc L' p') : p' = p := by
  have e : p'.1 = p.1 := by
    rcases h1.2.2 with ⟨a, b⟩ | a
    · rw [b] at h
      have hl := h.nil_eq
      rcases h2.2.2 with ⟨c, d⟩ | c
      · rw [a, c]
      · rw [← hl] at c; cases c
    · rcases h2.2.2 with ⟨c, d⟩ | c
      · rw [d] at h
        rw [h.eq_nil] at a; cases a
      · have u := h1.1 _ (h.mem_iff.mpr c)
        have v := h2.1 _ (h.mem_iff.mp a)
        omega
  have e2 : p'.2 = p.2 := by rw [h1.2.1, h2.2.1, e, h.count_eq]
  exact Prod.ext e e2
theorem pm_count_add (c a : Nat) : ∀ L : List Nat, (L.map (fun x => x + c)).count (a + c) = L.count a := by
  intro L
  induction L with
  | nil => rfl
  | cons x L ih =>
    rw [List.map_cons, List.count_cons, List.count_cons, ih]
    by_cases h : x = a
    · rw [h]; simp
    · have h2 : ¬ x + c = a + c := by omega
      simp [h]
theorem pm_mc_step {L L' : List Nat} {acc g : Nat × Nat} {c : Nat} (h : pm_mc L acc) (h' : pm_mc L' g) (hL : ∀ x, x ∈ L → x ≤ 100) (hb : ∀ x, x ∈ L' → x + c ≤ 100) : pm_mc (L ++ L'.map (fun x => x + c)) (if g.1 + c < acc.1 then (g.1 + c, g.2) else if g.1 + c = acc.1 then (acc.1, acc.2 + g.2) else acc) := by
  have hacc : acc.1 ≤ 100 := by
    rcases h.2.2 with ⟨a, -⟩ | a
    · omega
    · exact hL _ a
  have hmem : ∀ x, x ∈ L'.map (fun x => x + c) → g.1 + c ≤ x := fun x hx => by
    obtain ⟨y, hy, rfl⟩ := List.mem_map.mp hx
    have := h'.1 y hy
    show g.1 + c ≤ y + c
    omega
  have hcnt : (L'.map (fun x => x + c)).count (g.1 + c) = g.2 := by
    rw [h'.2.1]
    exact pm_count_add c g.1 L'
  rcases h'.2.2 with ⟨a, b⟩ | a
  · have h2 : g.2 = 0 := by rw [h'.2.1, b]; rfl
    rw [b, List.map_nil, List.append_nil, if_neg (by omega)]
    split
    · rw [h2, Nat.add_zero]; exact h
    · exact h
  · have hgm : g.1 + c ∈ L'.map (fun x => x + c) := List.mem_map.mpr ⟨g.1, a, rfl⟩
    by_cases c1 : g.1 + c < acc.1
    · rw [if_pos c1]
      refine ⟨fun x hx => ?_, ?_, Or.inr (List.mem_append_right _ hgm)⟩
      · show g.1 + c ≤ x
        rcases List.mem_append.mp hx with z | z
        · have := h.1 x z; omega
        · exact hmem x z
      · show g.2 = (L ++ L'.map (fun x => x + c)).count (g.1 + c)
        rw [List.count_append, hcnt, List.count_eq_zero.mpr (fun z => by have := h.1 _ z; omega), Nat.zero_add]
    · rw [if_neg c1]
      by_cases c2 : g.1 + c = acc.1
      · rw [if_pos c2]
        refine ⟨fun x hx => ?_, ?_, Or.inr (List.mem_append_right _ (by rw [c2] at hgm; exact hgm))⟩
        · show acc.1 ≤ x
          rcases List.mem_append.mp hx with z | z
          · exact h.1 x z
          · have := hmem x z; omega
        · show acc.2 + g.2 = (L ++ L'.map (fun x => x + c)).count acc.1
          rw [c2] at hcnt
          rw [List.count_append, hcnt, h.2.1]
      · rw [if_neg c2]
        refine ⟨fun x hx => ?_, ?_, ?_⟩
        · rcases List.mem_append.mp hx with z | z
          · exact h.1 x z
          · have := hmem x z; omega
        · rw [List.count_append, h.2.1, List.count_eq_zero.mpr (show acc.1 ∉ L'.map (fun x => x + c) from fun z => by have := hmem _ z; omega), Nat.add_zero]
        · rcases h.2.2 with ⟨d, e⟩ | d
          · have := hb _ a; omega
          · exact Or.inr (List.mem_append_left _ d)
theorem pm_G_mc (A : pl_A) : ∀ d, d ≤ 50 → ∀ S js, pm_mc ((pm_gs (pl_N A 0 5 0) d S).map (pm_gp A js)) (pl_G A d S js) := by
  intro d
  induction d with
  | zero =>
    intro _ S js
    show pm_mc [0] (0, 1)
    exact ⟨fun x _ => Nat.zero_le x, rfl, Or.inr (List.mem_cons_self ..)⟩
  | succ d ih =>
    intro hd S js
    have hlen : ∀ S js x, x ∈ (pm_gs (pl_N A 0 5 0) d S).map (pm_gp A js) → x ≤ d := fun S js x hx => by
      obtain ⟨w, hw, rfl⟩ := List.mem_map.mp hx
      have := ((pm_gs_mem _ _ _ _).mp hw).1
      have := pm_gp_le A w js
      omega
    have key : ∀ N, (∀ x, x ∈ ((List.range N).flatMap fun j => if S.testBit j = true then [] else (pm_gs (pl_N A 0 5 0) d (S ||| 2 ^ j)).map (fun v => j :: v)).map (pm_gp A js) → x ≤ 100) ∧ pm_mc (((List.range N).flatMap fun j => if S.testBit j = true then [] else (pm_gs (pl_N A 0 5 0) d (S ||| 2 ^ j)).map (fun v => j :: v)).map (pm_gp A js)) (pl_it (fun j acc => if S.testBit j then acc else
      if (pl_G A d (S ||| 2 ^ j) (pl_jn A j)).1 + (if js j then 0 else 1) < acc.1 then ((pl_G A d (S ||| 2 ^ j) (pl_jn A j)).1 + (if js j then 0 else 1), (pl_G A d (S ||| 2 ^ j) (pl_jn A j)).2)
      else if (pl_G A d (S ||| 2 ^ j) (pl_jn A j)).1 + (if js j then 0 else 1) = acc.1 then (acc.1, acc.2 + (pl_G A d (S ||| 2 ^ j) (pl_jn A j)).2) else acc) N (100, 0)) := fun N => by
      induction N with
      | zero => exact ⟨fun x hx => absurd hx (List.not_mem_nil), fun x hx => absurd hx (List.not_mem_nil), rfl, Or.inl ⟨rfl, rfl⟩⟩
      | succ N ihN =>
        rw [List.range_succ, List.flatMap_append, List.map_append, List.flatMap_singleton]
        have e : ∀ (F : Nat → Nat × Nat → Nat × Nat) a, pl_it F (N + 1) a = F N (pl_it F N a) := fun F a => rfl
        rw [e]
        by_cases c : S.testBit N = true
        · rw [if_pos c, if_pos c, List.map_nil, List.append_nil]
          exact ihN
        · rw [if_neg c, if_neg c, List.map_map]
          have e2 : (pm_gs (pl_N A 0 5 0) d (S ||| 2 ^ N)).map (pm_gp A js ∘ fun v => N :: v) = ((pm_gs (pl_N A 0 5 0) d (S ||| 2 ^ N)).map (pm_gp A (pl_jn A N))).map (fun x => x + (if js N = true then 0 else 1)) := by
            rw [List.map_map]
            refine List.map_congr_left fun v _ => ?_
            exact pm_gp1 A js N v
          rw [e2]
          have hb : ∀ x, x ∈ (pm_gs (pl_N A 0 5 0) d (S ||| 2 ^ N)).map (pm_gp A (pl_jn A N)) → x + (if js N = true then 0 else 1) ≤ 100 := fun x hx => by
            have := hlen _ _ x hx
            split <;> omega
          refine ⟨fun x hx => ?_, pm_mc_step ihN.2 (ih (by omega) _ _) ihN.1 hb⟩
          rcases List.mem_append.mp hx with z | z
          · exact ihN.1 x z
          · obtain ⟨y, hy, rfl⟩ := List.mem_map.mp z
            exact hb y hy
    exact (key (pl_N A 0 5 0)).2
/-- neighbours that do not join -/
def pm_ad (A : pl_A) : List Nat → Nat
  | [] => 0
  | [_] => 0
  | a :: b :: v => (if pl_jn A a b = true then 0 else 1) + pm_ad A (b :: v)
theorem pm_ad2 (A : pl_A) (a b : Nat) (v : List Nat) : pm_ad A (a :: b :: v) = (if pl_jn A a b = true then 0 else 1) + pm_ad A (b :: v) := rfl
theorem pm_gp_ad (A : pl_A) : ∀ (v : List Nat) a, pm_gp A (pl_jn A a) v = pm_ad A (a :: v) := by
  intro v
  induction v with
  | nil => intro a; rfl
  | cons b v ih =>
    intro a
    rw [pm_gp1, pm_ad2, ih b]
    omega
theorem pm_ad_app (A : pl_A) (b a : Nat) : ∀ u : List Nat, pm_ad A (u ++ [b, a]) = pm_ad A (u ++ [b]) + (if pl_jn A b a = true then 0 else 1) := by
  intro u
  induction u with
  | nil =>
    show pm_ad A [b, a] = pm_ad A [b] + _
    rw [pm_ad2]
    show _ + 0 = 0 + _
    omega
  | cons x u ih =>
    cases u with
    | nil =>
      show pm_ad A [x, b, a] = pm_ad A [x, b] + _
      rw [pm_ad2, pm_ad2 A x b []]
      have : pm_ad A [b, a] = pm_ad A [b] + (if pl_jn A b a = true then 0 else 1) := ih
      rw [this]; omega
    | cons y u =>
      show pm_ad A (x :: y :: (u ++ [b, a])) = pm_ad A (x :: y :: (u ++ [b])) + _
      have ih : pm_ad A (y :: (u ++ [b, a])) = pm_ad A (y :: (u ++ [b])) + (if pl_jn A b a = true then 0 else 1) := ih
      rw [pm_ad2, pm_ad2, ih]; omega
theorem pm_ad_rev {A B : pl_A} : ∀ w : List Nat, (∀ i j, i ∈ w → j ∈ w → pl_jn B i j = pl_jn A j i) → pm_ad B w.reverse = pm_ad A w := by
  intro w
  induction w with
  | nil => intro _; rfl
  | cons a w ih =>
    intro h
    cases w with
    | nil => rfl
    | cons b v =>
      have ih := ih (fun i j hi hj => h i j (List.mem_cons_of_mem _ hi) (List.mem_cons_of_mem _ hj))
      rw [List.reverse_cons] at ih
      rw [List.reverse_cons, List.reverse_cons, List.append_assoc]
      have := pm_ad_app B b a v.reverse
      show pm_ad B (v.reverse ++ [b, a]) = _
      rw [this, ih, pm_ad2, h b a (List.mem_cons_of_mem _ (List.mem_cons_self ..)) (List.mem_cons_self ..)]
      omega
theorem pm_gp_rev {A B : pl_A} {w : List Nat} (h : ∀ i j, i ∈ w → j ∈ w → pl_jn B i j = pl_jn A j i) : pm_gp B (fun _ => false) w.reverse = pm_gp A (fun _ => false) w := by
  have e : ∀ (C : pl_A) (w : List Nat), pm_gp C (fun _ => false) w = pm_ad C w + (if w.length = 0 then 0 else 1) := fun C w => by
    cases w with
    | nil => rfl
    | cons a v =>
      rw [pm_gp1, pm_gp_ad]; rfl
  rw [e, e, pm_ad_rev w h, List.length_reverse]
theorem pm_GG {A B : pl_A} {m : Nat} (hA : pl_N A 0 5 0 = m) (hB : pl_N B 0 5 0 = m) (hm : m ≤ 50) (hj : ∀ i j, i < m → j < m → pl_jn B i j = pl_jn A j i) : pl_G B m 0 (fun _ => false) = pl_G A m 0 (fun _ => false) := by
  have h1 := pm_G_mc A m hm 0 (fun _ => false)
  have h2 := pm_G_mc B m hm 0 (fun _ => false)
  rw [hA] at h1
  rw [hB] at h2
  refine pm_mc_perm ?_ h1 h2
  have hp : ((pm_gs m m 0).map List.reverse).Perm (pm_gs m m 0) := by
    rw [List.perm_ext_iff_of_nodup _ (pm_gs_nd m m 0)]
    · intro w
      rw [List.mem_map, pm_gs_mem]
      constructor
      · rintro ⟨v, hv, rfl⟩
        obtain ⟨a, b, c⟩ := (pm_gs_mem _ _ _ _).mp hv
        refine ⟨by rw [List.length_reverse, a], ?_, fun x hx => c x (List.mem_reverse.mp hx)⟩
        exact b.perm (List.reverse_perm _).symm
      · rintro ⟨a, b, c⟩
        refine ⟨w.reverse, (pm_gs_mem _ _ _ _).mpr ⟨by rw [List.length_reverse, a], b.perm (List.reverse_perm _).symm, fun x hx => c x (List.mem_reverse.mp hx)⟩, List.reverse_reverse w⟩
    · rw [List.nodup_iff_pairwise_ne, List.pairwise_map]
      refine (List.nodup_iff_pairwise_ne.mp (pm_gs_nd m m 0)).imp fun h z => h ?_
      exact List.reverse_inj.mp z
  have e : (pm_gs m m 0).map (pm_gp A fun _ => false) = ((pm_gs m m 0).map List.reverse).map (pm_gp B fun _ => false) := by
    rw [List.map_map]
    refine List.map_congr_left fun w hw => ?_
    obtain ⟨a, b, c⟩ := (pm_gs_mem _ _ _ _).mp hw
    exact (pm_gp_rev fun i j hi hj' => hj i j (c i hi).1 (c j hj').1).symm
  rw [e]
  exact hp.map _
/-- the first of the rows that begin the fewest -/
theorem pm_fr (A : pl_A) : ∀ d, d ≤ 50 → ∀ S js, (∃ w, w ∈ pm_gs (pl_N A 0 5 0) d S) → pl_fr A d S js ∈ pm_gs (pl_N A 0 5 0) d S ∧ pm_gp A js (pl_fr A d S js) = (pl_G A d S js).1 := by
  intro d
  induction d with
  | zero => intro _ S js _; exact ⟨List.mem_cons_self .., rfl⟩
  | succ d ih =>
    intro hd S js hne
    have hmc := pm_G_mc A (d + 1) hd S js
    have hmem : (pl_G A (d + 1) S js).1 ∈ (pm_gs (pl_N A 0 5 0) (d + 1) S).map (pm_gp A js) := by
      rcases hmc.2.2 with ⟨-, h⟩ | h
      · obtain ⟨w, hw⟩ := hne
        have := List.map_eq_nil_iff.mp h
        rw [this] at hw; cases hw
      · exact h
    obtain ⟨w, hw, hgw⟩ := List.mem_map.mp hmem
    have hw' := hw
    rw [pm_gs1, List.mem_flatMap] at hw'
    obtain ⟨j, hj, hw'⟩ := hw'
    have hj := List.mem_range.mp hj
    by_cases c : S.testBit j = true
    · rw [if_pos c] at hw'; cases hw'
    · rw [if_neg c, List.mem_map] at hw'
      obtain ⟨v, hv, rfl⟩ := hw'
      rw [pm_gp1] at hgw
      have hall : ∀ i, i < pl_N A 0 5 0 → S.testBit i = false → (∃ u, u ∈ pm_gs (pl_N A 0 5 0) d (S ||| 2 ^ i)) → (pl_G A (d + 1) S js).1 ≤ (pl_G A d (S ||| 2 ^ i) (pl_jn A i)).1 + (if js i = true then 0 else 1) := fun i hi hS hu => by
        obtain ⟨f1, f2⟩ := ih (by omega) (S ||| 2 ^ i) (pl_jn A i) hu
        have hin : i :: pl_fr A d (S ||| 2 ^ i) (pl_jn A i) ∈ pm_gs (pl_N A 0 5 0) (d + 1) S := by
          rw [pm_gs1, List.mem_flatMap]
          refine ⟨i, List.mem_range.mpr hi, ?_⟩
          rw [if_neg (by rw [hS]; decide)]
          exact List.mem_map.mpr ⟨_, f1, rfl⟩
        have := hmc.1 _ (List.mem_map.mpr ⟨_, hin, rfl⟩)
        rw [pm_gp1, f2] at this
        exact this
      have hGv : (pl_G A d (S ||| 2 ^ j) (pl_jn A j)).1 ≤ pm_gp A (pl_jn A j) v := (pm_G_mc A d (by omega) (S ||| 2 ^ j) (pl_jn A j)).1 _ (List.mem_map.mpr ⟨v, hv, rfl⟩)
      have hSj : S.testBit j = false := by simpa using c
      have hle := hall j hj hSj ⟨v, hv⟩
      obtain ⟨p, hp⟩ : ∃ p : Nat → Bool, p = fun j => !S.testBit j && decide ((pl_G A d (S ||| 2 ^ j) (pl_jn A j)).1 + (if js j then 0 else 1) = (pl_G A (d + 1) S js).1) := ⟨_, rfl⟩
      have hpj : p j = true := by
        rw [hp]
        show (!S.testBit j && decide _) = true
        rw [hSj, Bool.not_false, Bool.true_and]
        exact decide_eq_true (by omega)
      have hlt := pl_lst_ex hj hpj
      have hpi := (pl_lst_p p (pl_N A 0 5 0)).1 hlt
      obtain ⟨i, hi⟩ : ∃ i, i = pl_lst p (pl_N A 0 5 0) := ⟨_, rfl⟩
      rw [← hi] at hlt hpi
      have efr : pl_fr A (d + 1) S js = i :: pl_fr A d (S ||| 2 ^ i) (pl_jn A i) := by
        rw [hi, hp]; rfl
      have hpi' : (!S.testBit i && decide ((pl_G A d (S ||| 2 ^ i) (pl_jn A i)).1 + (if js i then 0 else 1) = (pl_G A (d + 1) S js).1)) = true := by
        rw [hp] at hpi; exact hpi
      rw [Bool.and_eq_true] at hpi'
      have hSi : S.testBit i = false := by simpa using hpi'.1
      have hGi := of_decide_eq_true hpi'.2
      have hlen := ((pm_gs_mem _ _ _ _).mp hv).1
      have hgle := pm_gp_le A v (pl_jn A j)
      have hne2 : ∃ u, u ∈ pm_gs (pl_N A 0 5 0) d (S ||| 2 ^ i) := by
        rcases (pm_G_mc A d (by omega) (S ||| 2 ^ i) (pl_jn A i)).2.2 with ⟨z, -⟩ | z
        · exfalso
          rw [z] at hGi
          have : (pl_G A (d + 1) S js).1 ≤ d + 1 := by
            rw [← hgw]
            split <;> omega
          omega
        · obtain ⟨u, hu, -⟩ := List.mem_map.mp z
          exact ⟨u, hu⟩
      obtain ⟨f1, f2⟩ := ih (by omega) (S ||| 2 ^ i) (pl_jn A i) hne2
      rw [efr]
      constructor
      · rw [pm_gs1, List.mem_flatMap]
        refine ⟨i, List.mem_range.mpr hlt, ?_⟩
        rw [if_neg (by rw [hSi]; decide)]
        exact List.mem_map.mpr ⟨_, f1, rfl⟩
      · rw [pm_gp1, f2]
        exact hGi
theorem pm_fr0 {A : pl_A} {m : Nat} (hm : pl_N A 0 5 0 = m) (h50 : m ≤ 50) : (pl_fr A m 0 fun _ => false).length = m ∧ (pl_fr A m 0 fun _ => false).Nodup ∧ (∀ x, x ∈ pl_fr A m 0 (fun _ => false) → x < m) ∧ pm_gp A (fun _ => false) (pl_fr A m 0 fun _ => false) = (pl_G A m 0 fun _ => false).1 := by
  obtain ⟨h1, h2⟩ := pm_fr A m h50 0 (fun _ => false) ⟨List.range m, (pm_gs_mem _ _ _ _).mpr ⟨List.length_range, List.nodup_range, fun x hx => ⟨by rw [hm]; exact List.mem_range.mp hx, Nat.zero_testBit x⟩⟩⟩
  rw [hm] at h1
  obtain ⟨a, b, c⟩ := (pm_gs_mem _ _ _ _).mp h1
  exact ⟨a, b, fun x hx => (c x hx).1, h2⟩
theorem pm_Gb {A : pl_A} {m : Nat} (hm : pl_N A 0 5 0 = m) (h50 : m ≤ 50) : (pl_G A m 0 fun _ => false).1 ≤ m ∧ (0 < m → 1 ≤ (pl_G A m 0 fun _ => false).1) := by
  obtain ⟨a, b, c, d⟩ := pm_fr0 hm h50
  rw [← d]
  have := pm_gp_le A (pl_fr A m 0 fun _ => false) (fun _ => false)
  refine ⟨by omega, fun h => ?_⟩
  cases hw : pl_fr A m 0 fun _ => false with
  | nil => rw [hw] at a; rw [List.length_nil] at a; omega
  | cons x v => rw [pm_gp1, if_neg (by decide)]; omega

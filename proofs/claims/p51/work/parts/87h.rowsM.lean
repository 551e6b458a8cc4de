/-! SHARINGS: the reference goes through the rows. -/
def pl_so (Z : ml_M) (b : Int32) (o : Nat → Int32) : ml_M := pl_wI (ml_sI Z 33 28 b) 48 o
theorem pl_so_48 (Z : ml_M) (b : Int32) (o : Nat → Int32) : ml_I (pl_so Z b o) 48 = o := by unfold pl_so; rw [pl_I_wI, if_pos rfl]
theorem pl_so_28 (Z : ml_M) (b : Int32) (o : Nat → Int32) : ml_I (pl_so Z b o) 33 28 = b := by unfold pl_so; rw [pl_I_wI, if_neg (by decide), pl_I_sI, if_pos ⟨rfl, rfl⟩]
theorem pl_so_33 (Z : ml_M) (b : Int32) (o : Nat → Int32) {k : Nat} (h : k ≠ 28) : ml_I (pl_so Z b o) 33 k = ml_I Z 33 k := by unfold pl_so; rw [pl_I_wI, if_neg (by decide), pl_I_sI, if_neg (fun z => h z.2)]
theorem pl_so_o (Z : ml_M) (b : Int32) (o : Nat → Int32) {a : Nat} (h : a ≠ 33 ∧ a ≠ 48) : ml_I (pl_so Z b o) a = ml_I Z a := by
  unfold pl_so
  rw [pl_I_wI, if_neg h.2]
  funext j
  rw [pl_I_sI, if_neg (fun z => h.1 z.1)]
theorem pl_so_K (Z : ml_M) (b : Int32) (o : Nat → Int32) : ml_K (pl_so Z b o) = ml_K Z := rfl
theorem pl_so_R (Z : ml_M) (b : Int32) (o : Nat → Int32) : ml_R (pl_so Z b o) = ml_R Z := rfl
theorem pl_so_sI (Z : ml_M) (b : Int32) (o : Nat → Int32) (k : Nat) (v : Int32) : ml_sI (pl_so Z b o) 48 k v = pl_so Z b (pl_up o k v) := by
  unfold pl_so; rw [pl_wI_sI]; rfl
theorem pl_so_so (Z : ml_M) (b b' : Int32) (o o' : Nat → Int32) : pl_so (pl_so Z b o) b' o' = pl_so Z b' o' := by
  have h : ∀ a j, ml_I (pl_so (pl_so Z b o) b' o') a j = ml_I (pl_so Z b' o') a j := fun a j => by
    by_cases h1 : a = 48
    · rw [h1, pl_so_48, pl_so_48]
    · by_cases h2 : a = 33
      · rw [h2]
        by_cases h3 : j = 28
        · rw [h3, pl_so_28, pl_so_28]
        · rw [pl_so_33 _ _ _ h3, pl_so_33 _ _ _ h3, pl_so_33 _ _ _ h3]
      · rw [pl_so_o _ _ _ ⟨h2, h1⟩, pl_so_o _ _ _ ⟨h2, h1⟩, pl_so_o _ _ _ ⟨h2, h1⟩]
  have h2 : ml_I (pl_so (pl_so Z b o) b' o') = ml_I (pl_so Z b' o') := by funext a j; exact h a j
  have e : ∀ m : ml_M, m = (ml_n m, ml_s m, ml_K m, ml_I m, ml_R m, ml_J m) := fun m => rfl
  rw [e (pl_so (pl_so Z b o) b' o'), h2]; rfl
theorem pl_so_sI28 (Z : ml_M) (b : Int32) (o : Nat → Int32) (v : Int32) : ml_sI (pl_so Z b o) 33 28 v = pl_so Z v o := by
  have : ml_sI (pl_so Z b o) 33 28 v = pl_so (pl_so Z b o) v o := by
    unfold pl_so
    rw [pl_sIsw _ (by decide), pl_wI_wI]
  rw [this, pl_so_so]
theorem pl_so_0 (Z : ml_M) : pl_so Z (ml_I Z 33 28) (ml_I Z 48) = Z := by
  unfold pl_so
  have e1 : ml_sI Z 33 28 (ml_I Z 33 28) = Z := by
    rw [pl_sI_w]
    have : (fun j => if j = 28 then ml_I Z 33 28 else ml_I Z 33 j) = ml_I Z 33 := by
      funext j
      by_cases h : j = 28
      · rw [if_pos h, h]
      · rw [if_neg h]
    rw [this, pl_wI_0]
  rw [e1, pl_wI_0]
theorem pl_so_kp (Z : ml_M) (b : Int32) (o : Nat → Int32) : pl_kp Z (pl_so Z b o) := ((pl_kp.refl Z).s33 (by decide)).wI (by decide)
theorem pl_so_mo (Z : ml_M) (b : Int32) (o : Nat → Int32) : pl_mo Z (pl_so Z b o) := ((pl_mo.refl Z).sI (by decide)).wI (by decide)
theorem pl_so_S {Z : ml_M} (h : pl_Sh Z) (b : Int32) (o : Nat → Int32) : pl_Sh (pl_so Z b o) := (h.sI _ _ _).wI _ _
/-- whether some trunk ahead has a lodger -/
theorem pl_takenM {m : ml_M} (hS : pl_Sh m) (x : Int32) {t : Nat} (ht : t ≤ 8) : fX11_isTaken 33 x (nI t) m = some (if pl_any (fun i => decide (ml_I m 48 i = x)) t = true then 1 else 0) := by
  have k33 := pl_k33 hS
  have k48 := pl_k48 hS
  have r27 := pl_r33_27 hS
  have hh := pl_for (F := fun fu i (f : Int32) => fX11_isTaken_5 fu 33 x (nI t) f (nI i) m) (R := some (if pl_any (fun i => decide (ml_I m 48 i = x)) t = true then 1 else 0)) t (fun i => if pl_any (fun i => decide (ml_I m 48 i = x)) i = true then 1 else 0) (fun fu i hi => ?_) (fun fu => ?_) ml_fu (by rw [pl_fu]; omega)
  · exact hh
  · show fX11_isTaken_5 (fu + 1) 33 x (nI t) (if pl_any (fun i => decide (ml_I m 48 i = x)) i = true then 1 else 0) (nI i) m = fX11_isTaken_5 fu 33 x (nI t) (if pl_any (fun i => decide (ml_I m 48 i = x)) (i + 1) = true then 1 else 0) (nI (i + 1)) m
    rw [pl_any1]
    by_cases ha : pl_any (fun i => decide (ml_I m 48 i = x)) i = true
    · rw [ha, Bool.true_or, if_pos rfl]
      simp (disch := omega) only [fX11_isTaken_5, fX11_isTaken_26, fX11_isTaken_31, nI_leI, show ¬ t ≤ i by omega, if_false, pl_10, nI_1]
    · have ha0 : pl_any (fun i => decide (ml_I m 48 i = x)) i = false := by simpa using ha
      rw [ha0, Bool.false_or, if_neg (by decide)]
      by_cases hx : ml_I m 48 i = x
      · rw [if_pos (decide_eq_true hx)]
        simp (disch := omega) only [fX11_isTaken_5, fX11_isTaken_26, fX11_isTaken_31, ↓pl_let, pl_b1, pl_b2, ↓reduceIte, nI_leI, show ¬ t ≤ i by omega, if_false, if_true, k33, r27, pl_in, nI_clamp, k48, show i < 8 by omega, and_self, hx, nI_1]
      · rw [if_neg (by simpa using hx)]
        simp (disch := omega) only [fX11_isTaken_5, fX11_isTaken_26, fX11_isTaken_31, ↓pl_let, pl_b1, pl_b2, ↓reduceIte, nI_leI, show ¬ t ≤ i by omega, if_false, if_true, k33, r27, pl_in, nI_clamp, k48, show i < 8 by omega, and_self, hx, nI_1]
  · simp (disch := omega) only [fX11_isTaken_5, nI_leI, Nat.le_refl, if_true]
    exact pl_b01 _
theorem pl_rev_get (p : List Nat) (l : Nat) {i : Nat} (h : i < p.length) : (l :: p).reverse.getD i 0 = p.reverse.getD i 0 := by
  rw [List.reverse_cons, pl_getD_app _ _ (by rw [List.length_reverse]; exact h)]
theorem pl_rev_last (p : List Nat) (l : Nat) : (l :: p).reverse.getD p.length 0 = l := by
  have := pl_getD_len p.reverse l []
  rw [List.length_reverse] at this
  rw [List.reverse_cons]; exact this
theorem pl_rev_mem {p : List Nat} {o : Nat → Int32} {nl : Nat} (hl : ∀ x ∈ p, x < nl) (hnl : nl ≤ 8) (ho : ∀ i, i < p.length → o i = nI (p.reverse.getD i 0)) {l : Nat} (hln : l < nl) : pl_any (fun i => decide (o i = nI l)) p.length = decide (l ∈ p) := by
  have hget : ∀ i, i < p.length → p.reverse.getD i 0 ∈ p := fun i hi => by
    rw [List.getD_eq_getElem?_getD, List.getElem?_eq_getElem (by rw [List.length_reverse]; exact hi)]
    exact List.mem_reverse.mp (List.getElem_mem _)
  by_cases hm : l ∈ p
  · rw [decide_eq_true hm, pl_any_iff]
    obtain ⟨i, hi, he⟩ := List.getElem_of_mem (List.mem_reverse.mpr hm)
    rw [List.length_reverse] at hi
    refine ⟨i, hi, decide_eq_true ?_⟩
    rw [ho i hi, List.getD_eq_getElem?_getD, List.getElem?_eq_getElem (by rw [List.length_reverse]; exact hi), he]; rfl
  · rw [decide_eq_false hm]
    cases hc : pl_any (fun i => decide (o i = nI l)) p.length with
    | false => rfl
    | true =>
      exfalso
      obtain ⟨i, hi, hd⟩ := (pl_any_iff _ _).mp hc
      have h1 := of_decide_eq_true hd
      have h2 := hget i hi
      have h3 := hl _ h2
      rw [ho i hi, nI_eq (by omega) (by omega)] at h1
      rw [h1] at h2
      exact hm h2
/-- the search's state: a prefix, and what is tried next -/
def pl_cg (nl nt : Nat) (p : List Nat) (k : Nat) (o : Nat → Int32) : Prop := p.length < nt ∧ p.Nodup ∧ (∀ x ∈ p, x < nl) ∧ k ≤ nl ∧ (∀ i, i < p.length → o i = nI (p.reverse.getD i 0)) ∧ o p.length + 1 = nI (nl - k) ∧ ∀ i, p.length < i → i < 8 → o i = -1
def pl_fr0 (nl nt : Nat) (w : List Nat) (o : Nat → Int32) : Prop := w.length = nt ∧ w.reverse.Nodup ∧ (∀ x ∈ w, x < nl) ∧ (∀ i, i < nt → o i = nI (w.getD i 0)) ∧ ∀ i, nt ≤ i → i < 8 → o i = -1
/-- what the reference's next row is -/
def pl_nx (nl nt : Nat) (Z : ml_M) (rem : List (List Nat)) (R : Option (Int32 × ml_M)) : Prop :=
  (rem = [] ∧ ∃ o, R = some (0, pl_so Z 1 o)) ∨ (∃ l p o, p.length + 1 = nt ∧ rem = (l :: p).reverse :: pl_upr nl nt (l :: p) ∧ pl_upm nl nt (l :: p) ≤ 200000 ∧ pl_fr0 nl nt (l :: p).reverse o ∧ R = some (1, pl_so Z 1 o))
theorem pl_rows50 {Z : ml_M} (hS : pl_Sh Z) {nl nt : Nat} (hnl : nl ≤ 8) (hnt : nt ≤ 8) (h9 : ml_I Z 33 9 = nI nl) (h10 : ml_I Z 33 10 = nI nt) {p : List Nat} {k : Nat} {o : Nat → Int32} (hc : pl_cg nl nt p k o) (hB : pl_rsm nl nt p k ≤ 200000) :
    pl_nx nl nt Z (pl_rst nl nt p k) (fX11_nextRow_50 ml_fu 33 (nI p.length) (pl_so Z 1 o)) := by
  have k33 := pl_k33 hS
  have k48 := pl_k48 hS
  have r27 := pl_r33_27 hS
  have i9 : ∀ o, ml_I (pl_so Z 1 o) 33 9 = nI nl := fun o => by rw [pl_so_33 _ _ _ (by decide), h9]
  have i10 : ∀ o, ml_I (pl_so Z 1 o) 33 10 = nI nt := fun o => by rw [pl_so_33 _ _ _ (by decide), h10]
  -- one turn
  have turn : ∀ (fu : Nat) (p : List Nat) (k : Nat) (o : Nat → Int32), pl_cg nl nt p k o → fX11_nextRow_50 (fu + 1) 33 (nI p.length) (pl_so Z 1 o) = if pl_fst nl p k = 0 then fX11_nextRow_50 fu 33 (nI p.length + -1) (pl_so Z 1 (pl_up o p.length (-1))) else fX11_nextRow_50 fu 33 (nI (p.length + 1)) (pl_so Z 1 (pl_up o p.length (nI (nl - pl_fst nl p k)))) := fun fu p k o hc => by
    obtain ⟨c1, c2, c3, c4, c5, c6, c7⟩ := hc
    -- the search for a free one
    have hse : ∀ j fi, j ≤ k → j < fi → pl_fst nl p j = pl_fst nl p k → fX11_nextRow_71 (fX11_nextRow_50 fu) fi 33 (nI p.length) (nI (nl - j)) (pl_so Z 1 o) = fX11_nextRow_94 (fX11_nextRow_50 fu) 33 (nI p.length) (nI (nl - pl_fst nl p k)) (pl_so Z 1 o) := by
      intro j
      induction j with
      | zero =>
        intro fi _ hfi hj
        obtain ⟨fi, rfl⟩ : ∃ q, fi = q + 1 := ⟨fi - 1, by omega⟩
        have : pl_fst nl p 0 = 0 := rfl
        rw [← hj, this, Nat.sub_zero]
        simp (disch := omega) only [fX11_nextRow_71, pl_so_K, k33, if_true, i9, nI_leI, Nat.le_refl]
      | succ j ih =>
        intro fi hjk hfi hj
        obtain ⟨fi, rfl⟩ : ∃ q, fi = q + 1 := ⟨fi - 1, by omega⟩
        have htk := pl_takenM (pl_so_S hS 1 o) (nI (nl - (j + 1))) (t := p.length) (by omega)
        rw [pl_so_48, pl_rev_mem c3 hnl c5 (by omega)] at htk
        rw [pl_fst1] at hj
        by_cases hm : nl - (j + 1) ∈ p
        · rw [if_pos hm] at hj
          rw [decide_eq_true hm, if_pos rfl] at htk
          have ih := ih fi (by omega) (by omega) hj
          rw [← ih]
          simp (disch := omega) only [fX11_nextRow_71, pl_so_K, k33, if_true, i9, nI_leI, show ¬ nl ≤ nl - (j + 1) by omega, if_false, htk, ↓pl_let, pl_b1, pl_b2, ↓reduceIte, pl_10, nI_1]
          rw [show nl - (j + 1) + 1 = nl - j by omega]
        · rw [if_neg hm] at hj
          rw [decide_eq_false hm, if_neg (by decide)] at htk
          rw [← hj]
          simp (disch := omega) only [fX11_nextRow_71, pl_so_K, k33, if_true, i9, nI_leI, show ¬ nl ≤ nl - (j + 1) by omega, if_false, htk, ↓pl_let, pl_b1, pl_b2, ↓reduceIte]
    have h71 := hse k ml_fu (Nat.le_refl _) (by rw [pl_fu]; omega) rfl
    have hfk := (pl_fst_ok nl 0 p k).1
    have hfirst : fX11_nextRow_50 (fu + 1) 33 (nI p.length) (pl_so Z 1 o) = fX11_nextRow_94 (fX11_nextRow_50 fu) 33 (nI p.length) (nI (nl - pl_fst nl p k)) (pl_so Z 1 o) := by
      rw [← h71]
      simp (disch := omega) only [fX11_nextRow_50, pl_lt0, if_false, pl_so_K, k33, if_true, i10, nI_leI, show ¬ nt ≤ p.length by omega, ↓pl_let, pl_b1, pl_b2, ↓reduceIte, pl_so_R, r27, pl_in, nI_clamp, k48, show p.length < 8 by omega, and_self, pl_so_48, c6]
    rw [hfirst]
    by_cases hf : pl_fst nl p k = 0
    · rw [if_pos hf, hf, Nat.sub_zero]
      simp (disch := omega) only [fX11_nextRow_94, fX11_nextRow_112, fX11_nextRow_127, pl_so_K, k33, if_true, ↓pl_let, pl_b1, pl_b2, ↓reduceIte, pl_so_R, r27, i9, nI_leI, Nat.le_refl, pl_in, nI_clamp, k48, show p.length < 8 by omega, and_self, pl_so_sI]
    · rw [if_neg hf]
      have hle : ¬ nl ≤ nl - pl_fst nl p k := by omega
      simp (disch := omega) only [fX11_nextRow_94, fX11_nextRow_112, fX11_nextRow_127, pl_so_K, k33, if_true, ↓pl_let, pl_b1, pl_b2, ↓reduceIte, pl_so_R, r27, i9, nI_leI, hle, if_false, pl_in, nI_clamp, k48, show p.length < 8 by omega, and_self, pl_so_sI, nI_1]
  have hloop := pl_loop (F := fun fu (s : (List Nat × Nat) × (Nat → Int32) × Bool) => fX11_nextRow_50 fu 33 (if s.2.2 = true then nI s.1.1.length else -1) (pl_so Z 1 s.2.1)) (μ := fun s => if s.2.2 = true then (if s.1.1.length < nt then pl_rsm nl nt s.1.1 s.1.2 + 1 else 0) else 0)
    (Inv := fun s => (s.2.2 = true ∧ pl_cg nl nt s.1.1 s.1.2 s.2.1 ∧ pl_rst nl nt s.1.1 s.1.2 = pl_rst nl nt p k ∧ pl_rsm nl nt s.1.1 s.1.2 ≤ 200000) ∨ (s.2.2 = true ∧ s.1.1.length = nt ∧ ∃ l p', s.1.1 = l :: p' ∧ pl_rst nl nt p k = (l :: p').reverse :: pl_upr nl nt (l :: p') ∧ pl_upm nl nt (l :: p') ≤ 200000 ∧ pl_fr0 nl nt (l :: p').reverse s.2.1) ∨ (s.2.2 = false ∧ pl_rst nl nt p k = []))
    (Post := pl_nx nl nt Z (pl_rst nl nt p k)) ?_ ml_fu ((p, k), o, true) (by rw [pl_fu]; show (if true = true then (if p.length < nt then pl_rsm nl nt p k + 1 else 0) else 0) < _; rw [if_pos rfl]; split <;> omega) (Or.inl ⟨rfl, hc, rfl, hB⟩)
  · exact hloop
  · rintro fu ⟨⟨q, j⟩, o', b⟩ (⟨hb, h1, h2, h3⟩ | ⟨hb, h1, l, p', h2, h3, h4, h5⟩ | ⟨hb, h1⟩)
    · right
      have hb : b = true := hb
      subst hb
      have h1 : pl_cg nl nt q j o' := h1
      have h2 : pl_rst nl nt q j = pl_rst nl nt p k := h2
      have h3 : pl_rsm nl nt q j ≤ 200000 := h3
      have ht := turn fu q j o' h1
      obtain ⟨c1, c2, c3, c4, c5, c6, c7⟩ := h1
      by_cases hf : pl_fst nl q j = 0
      · obtain ⟨n1, n2⟩ := pl_rst_n (nt := nt) hf
        rw [if_pos hf] at ht
        cases q with
        | nil =>
          refine ⟨(([], 0), pl_up o' 0 (-1), false), ?_, Or.inr (Or.inr ⟨rfl, ?_⟩), ?_⟩
          · show fX11_nextRow_50 (fu + 1) 33 (if true = true then nI ([] : List Nat).length else -1) (pl_so Z 1 o') = fX11_nextRow_50 fu 33 (if false = true then _ else -1) (pl_so Z 1 (pl_up o' 0 (-1)))
            rw [if_pos rfl, if_neg (by decide)]
            exact ht
          · rw [← h2, n1]; rfl
          · show (if false = true then _ else 0) < (if true = true then (if ([] : List Nat).length < nt then pl_rsm nl nt [] j + 1 else 0) else 0)
            rw [if_neg (by decide), if_pos rfl, if_pos c1]; omega
        | cons l q =>
          have hlen : (l :: q).length = q.length + 1 := rfl
          have hm1 : nI (l :: q).length + -1 = nI q.length := by rw [hlen, pk_m1]
          rw [hm1] at ht
          have hln : l < nl := c3 l List.mem_cons_self
          obtain ⟨u1, u2⟩ := pl_rst_up nl nt l q
          refine ⟨((q, nl - (l + 1)), pl_up o' (l :: q).length (-1), true), ?_, Or.inl ⟨rfl, ⟨?_, (List.nodup_cons.mp c2).2, fun x hx => c3 x (List.mem_cons_of_mem _ hx), Nat.sub_le _ _, fun i hi => ?_, ?_, fun i hi hi8 => ?_⟩, ?_, ?_⟩, ?_⟩
          · show fX11_nextRow_50 (fu + 1) 33 (if true = true then nI (l :: q).length else -1) (pl_so Z 1 o') = fX11_nextRow_50 fu 33 (if true = true then nI q.length else -1) (pl_so Z 1 (pl_up o' (l :: q).length (-1)))
            rw [if_pos rfl, if_pos rfl]
            exact ht
          · show q.length < nt
            omega
          · show pl_up o' (l :: q).length (-1) i = nI (q.reverse.getD i 0)
            have hi : i < q.length := hi
            rw [pl_up_n _ _ (by omega), c5 i (by omega), pl_rev_get q l hi]
          · show pl_up o' (l :: q).length (-1) q.length + 1 = nI (nl - (nl - (l + 1)))
            rw [pl_up_n _ _ (by omega), c5 q.length (by omega), pl_rev_last, nI_1, show nl - (nl - (l + 1)) = l + 1 by omega]
          · show pl_up o' (l :: q).length (-1) i = -1
            have hi : q.length < i := hi
            by_cases hie : i = (l :: q).length
            · rw [hie, pl_up_k]
            · rw [pl_up_n _ _ hie]; exact c7 i (by omega) hi8
          · show pl_rst nl nt q (nl - (l + 1)) = _
            rw [← u1, ← n1, h2]
          · show pl_rsm nl nt q (nl - (l + 1)) ≤ 200000
            omega
          · show (if true = true then (if q.length < nt then pl_rsm nl nt q (nl - (l + 1)) + 1 else 0) else 0) < (if true = true then (if (l :: q).length < nt then pl_rsm nl nt (l :: q) j + 1 else 0) else 0)
            rw [if_pos rfl, if_pos rfl, if_pos c1, if_pos (by omega)]; omega
      · obtain ⟨k', hk'⟩ : ∃ k', pl_fst nl q j = k' + 1 := ⟨pl_fst nl q j - 1, by omega⟩
        obtain ⟨y1, y2, y3, y4, y5⟩ := pl_rst_y c2 c3 c1 c4 hk'
        rw [if_neg hf, hk'] at ht
        obtain ⟨l, hl⟩ : ∃ l, l = nl - (k' + 1) := ⟨_, rfl⟩
        rw [← hl] at y1 y2 y3 y4 y5 ht
        have hlen : (l :: q).length = q.length + 1 := rfl
        have hall : ∀ x ∈ l :: q, x < nl := fun x hx => by
          rcases List.mem_cons.mp hx with rfl | hx
          · exact y2
          · exact c3 x hx
        have ho2 : ∀ i, i < (l :: q).length → pl_up o' q.length (nI l) i = nI ((l :: q).reverse.getD i 0) := fun i hi => by
          by_cases hie : i = q.length
          · rw [hie, pl_up_k, pl_rev_last]
          · rw [pl_up_n _ _ hie, c5 i (by omega), pl_rev_get q l (by omega)]
        have hrest : ∀ i, (l :: q).length ≤ i → i < 8 → pl_up o' q.length (nI l) i = -1 := fun i hi hi8 => by
          rw [pl_up_n _ _ (by omega)]; exact c7 i (by omega) hi8
        refine ⟨((l :: q, nl), pl_up o' q.length (nI l), true), ?_, ?_, ?_⟩
        · show fX11_nextRow_50 (fu + 1) 33 (if true = true then nI q.length else -1) (pl_so Z 1 o') = fX11_nextRow_50 fu 33 (if true = true then nI (l :: q).length else -1) (pl_so Z 1 (pl_up o' q.length (nI l)))
          rw [if_pos rfl, if_pos rfl, ht]; rfl
        · by_cases hfull : q.length + 1 = nt
          · obtain ⟨z1, z2⟩ := y4 hfull
            refine Or.inr (Or.inl ⟨rfl, hfull, l, q, rfl, by rw [← h2, z1], by omega, by rw [List.length_reverse]; exact hfull, by rw [List.reverse_reverse]; exact y3, fun x hx => hall x (List.mem_reverse.mp hx), fun i hi => ho2 i (by omega), fun i hi hi8 => hrest i (by omega) hi8⟩)
          · obtain ⟨z1, z2⟩ := y5 (by omega)
            refine Or.inl ⟨rfl, ⟨by show q.length + 1 < nt; omega, y3, hall, Nat.le_refl _, ho2, ?_, fun i hi hi8 => hrest i (Nat.le_of_lt hi) hi8⟩, by show pl_rst nl nt (l :: q) nl = _; rw [← z1, h2], by show pl_rsm nl nt (l :: q) nl ≤ _; omega⟩
            show pl_up o' q.length (nI l) (l :: q).length + 1 = nI (nl - nl)
            rw [hrest _ (Nat.le_refl _) (by omega), Nat.sub_self]; rfl
        · show (if true = true then (if (l :: q).length < nt then pl_rsm nl nt (l :: q) nl + 1 else 0) else 0) < (if true = true then (if q.length < nt then pl_rsm nl nt q j + 1 else 0) else 0)
          rw [if_pos rfl, if_pos rfl, if_pos c1]
          by_cases hfull : q.length + 1 = nt
          · rw [if_neg (by omega)]; omega
          · have := (y5 (by omega)).2
            rw [if_pos (by omega)]; omega
    · left
      have hb : b = true := hb
      subst hb
      have h1 : q.length = nt := h1
      have h2 : q = l :: p' := h2
      have h5 : pl_fr0 nl nt (l :: p').reverse o' := h5
      right
      refine ⟨l, p', o', by rw [← h1, h2]; rfl, h3, h4, h5, ?_⟩
      show fX11_nextRow_50 (fu + 1) 33 (if true = true then nI q.length else -1) (pl_so Z 1 o') = some (1, pl_so Z 1 o')
      rw [if_pos rfl, h1]
      simp (disch := omega) only [fX11_nextRow_50, fX11_nextRow_132, pl_lt0, if_false, pl_so_K, k33, if_true, i10, nI_leI, Nat.le_refl]
    · left
      have hb : b = false := hb
      subst hb
      left
      refine ⟨h1, o', ?_⟩
      show fX11_nextRow_50 (fu + 1) 33 (if false = true then nI q.length else -1) (pl_so Z 1 o') = some (0, pl_so Z 1 o')
      have hneg : (-1 : Int32) < 0 := by decide
      have hne : ¬ (-1 : Int32) = nI nt := fun z => by
        have h1 : (-1 : Int32) + 1 = nI nt + 1 := by rw [z]
        rw [nI_1] at h1
        have h2 : (0 : Int32) = nI (nt + 1) := h1
        rw [pl_0eq (by omega)] at h2
        omega
      rw [if_neg (by decide)]
      simp (disch := omega) only [fX11_nextRow_50, fX11_nextRow_132, hneg, if_true, pl_so_K, k33, i10, hne, if_false]
/-- where the reference stands: begun, its row, what is still to come -/
def pl_rs2 (nl nt : Nat) (b : Int32) (o : Nat → Int32) (rem : List (List Nat)) : Prop :=
  (b = 0 ∧ (∀ i, i < 8 → o i = -1) ∧ rem = pl_gv nl nt []) ∨ (b = 1 ∧ ((nt = 0 ∧ rem = []) ∨ ∃ l p, p.length + 1 = nt ∧ pl_fr0 nl nt (l :: p).reverse o ∧ rem = pl_upr nl nt (l :: p) ∧ pl_upm nl nt (l :: p) ≤ 200000))
theorem pl_nextM {Z : ml_M} (hS : pl_Sh Z) {nl nt : Nat} (hnl : nl ≤ 8) (hnt : nt ≤ 8) (h9 : ml_I Z 33 9 = nI nl) (h10 : ml_I Z 33 10 = nI nt) {b : Int32} {o : Nat → Int32} {rem : List (List Nat)} (hr : pl_rs2 nl nt b o rem) :
    (rem = [] ∧ ∃ o', fX11_nextRow 33 (pl_so Z b o) = some (0, pl_so Z 1 o')) ∨ ∃ w tl o', rem = w :: tl ∧ fX11_nextRow 33 (pl_so Z b o) = some (1, pl_so Z 1 o') ∧ pl_fr0 nl nt w o' ∧ pl_rs2 nl nt 1 o' tl := by
  have k33 := pl_k33 hS
  have i10 : ∀ b o, ml_I (pl_so Z b o) 33 10 = nI nt := fun b o => by rw [pl_so_33 _ _ _ (by decide), h10]
  have fin : ∀ {R : Option (Int32 × ml_M)} {rem : List (List Nat)}, pl_nx nl nt Z rem R → (rem = [] ∧ ∃ o', R = some (0, pl_so Z 1 o')) ∨ ∃ w tl o', rem = w :: tl ∧ R = some (1, pl_so Z 1 o') ∧ pl_fr0 nl nt w o' ∧ pl_rs2 nl nt 1 o' tl := by
    intro R rem hx
    rcases hx with h | ⟨l, p, o, h1, h2, h3, h4, h5⟩
    · exact Or.inl h
    · exact Or.inr ⟨_, _, o, h2, h5, h4, Or.inr ⟨rfl, Or.inr ⟨l, p, h1, h4, rfl, h3⟩⟩⟩
  rcases hr with ⟨rfl, ho, rfl⟩ | ⟨rfl, ⟨h0, rfl⟩ | ⟨l, p, hp, hf, rfl, hm⟩⟩
  · by_cases h0 : nt = 0
    · right
      refine ⟨[], [], o, by rw [h0]; rfl, ?_, ⟨by rw [h0]; rfl, List.nodup_nil, fun x hx => by simp at hx, fun i hi => by omega, fun i _ hi => ho i hi⟩, Or.inr ⟨rfl, Or.inl ⟨h0, rfl⟩⟩⟩
      have i10' := i10 0 o
      rw [h0, nI_0] at i10'
      simp (disch := omega) only [fX11_nextRow, fX11_nextRow_17, fX11_nextRow_37, pl_so_K, k33, if_true, pl_so_28, i10', ↓pl_let, pl_b1, pl_b2, ↓reduceIte, pl_so_sI28, pl_10, or_true]
    · obtain ⟨z1, z2⟩ := pl_rst_0 (nl := nl) (nt := nt) (by omega)
      have hB := pl_dz_b hnl hnt
      have hx := pl_rows50 hS hnl hnt h9 h10 (p := []) (k := nl) (o := o) ⟨by show 0 < nt; omega, List.nodup_nil, fun x hx => by simp at hx, Nat.le_refl _, fun i hi => by simp at hi, by show o 0 + 1 = nI (nl - nl); rw [ho 0 (by decide), Nat.sub_self]; rfl, fun i _ hi => ho i hi⟩ (by omega)
      rw [z1] at hx
      have hx' : pl_nx nl nt Z (pl_gv nl nt []) (fX11_nextRow_50 ml_fu 33 0 (pl_so Z 1 o)) := hx
      have e : fX11_nextRow 33 (pl_so Z 0 o) = fX11_nextRow_50 ml_fu 33 0 (pl_so Z 1 o) := by
        simp (disch := omega) only [fX11_nextRow, fX11_nextRow_17, pl_so_K, k33, if_true, pl_so_28, i10, pl_eq0, h0, if_false, ↓pl_let, pl_b1, pl_b2, ↓reduceIte, pl_so_sI28]
      rw [e]
      exact fin hx'
  · left
    refine ⟨rfl, o, ?_⟩
    have i10' := i10 1 o
    rw [h0, nI_0] at i10'
    simp (disch := omega) only [fX11_nextRow, fX11_nextRow_17, fX11_nextRow_37, pl_so_K, k33, if_true, pl_so_28, i10', ↓pl_let, pl_b1, pl_b2, ↓reduceIte, pl_so_sI28, pl_10, if_false, true_or]
  · obtain ⟨f1, f2, f3, f4, f5⟩ := hf
    rw [List.reverse_reverse] at f2
    have hnd := f2
    have hall : ∀ x ∈ l :: p, x < nl := fun x hx => f3 x (List.mem_reverse.mpr hx)
    obtain ⟨u1, u2⟩ := pl_rst_up nl nt l p
    have hln := hall l List.mem_cons_self
    have hx := pl_rows50 hS hnl hnt h9 h10 (p := p) (k := nl - (l + 1)) (o := o) ⟨by omega, (List.nodup_cons.mp hnd).2, fun x hx => hall x (List.mem_cons_of_mem _ hx), by omega, fun i hi => by rw [f4 i (by omega), pl_rev_get p l hi], by rw [f4 p.length (by omega), pl_rev_last, nI_1, show nl - (nl - (l + 1)) = l + 1 by omega], fun i hi hi8 => f5 i (by omega) hi8⟩ (by omega)
    rw [← u1] at hx
    have hm1 : nI nt - (1 : Int32) = nI p.length := by
      have hs := pl_sub (a := p.length + 1) (b := 1) (by omega)
      rw [show nI 1 = (1 : Int32) from rfl, hp, show nt - 1 = p.length by omega] at hs
      exact hs
    have e : fX11_nextRow 33 (pl_so Z 1 o) = fX11_nextRow_50 ml_fu 33 (nI p.length) (pl_so Z 1 o) := by
      simp (disch := omega) only [fX11_nextRow, fX11_nextRow_17, pl_so_K, k33, if_true, pl_so_28, pl_10, if_false, i10, hm1, pl_eq0, show ¬ nt = 0 by omega, ↓pl_let, pl_b1, pl_b2, ↓reduceIte, pl_so_sI28]
    rw [e]
    exact fin hx

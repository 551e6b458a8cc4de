/-! ROWS OVER THE PLAIN MEMORY: those that read and write the heap -/
set_option maxRecDepth 100000 in
theorem ml_lay : ∀ (c : Nat) (q : vw_C), ml_cs[c]? = some q → ∀ w ∈ u_ws q.1 q.2.1 q.2.2, w ∈ ml_TB := by
  intro c q h
  match c, h with
  | 0, h => cases h; decide +kernel
  | 1, h => cases h; decide +kernel
  | 2, h => cases h; decide +kernel
  | 3, h => cases h; decide +kernel
  | 4, h => cases h; decide +kernel
  | 5, h => cases h; decide +kernel
  | 6, h => cases h; decide +kernel
  | 7, h => cases h; decide +kernel
  | 8, h => cases h; decide +kernel
  | 9, h => cases h; decide +kernel
  | 10, h => cases h; decide +kernel
  | 11, h => cases h; decide +kernel
  | k + 12, h => simp at h
theorem ml_nm : ∀ (c : Nat) (q : vw_C), ml_cs[c]? = some q → (∀ a, a < q.2.2 → ∀ b, b < q.2.2 → a ≠ b → (q.2.1 a).2.1 ≠ (q.2.1 b).2.1) ∧ (∀ k, k < q.2.2 → parseFieldDescriptor (q.2.1 k).2.2.1 = some (ml_ty c k)) := by
  intro c q h
  match c, h with
  | 0, h => cases h; exact ⟨nmX0, tyX0_ok⟩
  | 1, h => cases h; exact ⟨nmX1, tyX1_ok⟩
  | 2, h => cases h; exact ⟨nmX0, tyX0_ok⟩
  | 3, h => cases h; exact ⟨nmX3, tyX3_ok⟩
  | 4, h => cases h; exact ⟨nmX4, tyX4_ok⟩
  | 5, h => cases h; exact ⟨nmX0, tyX0_ok⟩
  | 6, h => cases h; exact ⟨nmX6, tyX6_ok⟩
  | 7, h => cases h; exact ⟨nmX7, tyX7_ok⟩
  | 8, h => cases h; exact ⟨nmX8, tyX8_ok⟩
  | 9, h => cases h; exact ⟨nmX9, tyX9_ok⟩
  | 10, h => cases h; exact ⟨nmX10, tyX10_ok⟩
  | 11, h => cases h; exact ⟨nmX0, tyX0_ok⟩
  | k + 12, h => simp at h
def ml_nofd : FieldType → Bool
  | .float => false
  | .double => false
  | _ => true
theorem ml_nofd_ty : ∀ (c : Nat) (q : vw_C), ml_cs[c]? = some q → ∀ k, k < q.2.2 → ml_nofd (ml_ty c k) = true := by
  intro c q h
  match c, h with
  | 0, h => cases h; decide +kernel
  | 1, h => cases h; decide +kernel
  | 2, h => cases h; decide +kernel
  | 3, h => cases h; decide +kernel
  | 4, h => cases h; decide +kernel
  | 5, h => cases h; decide +kernel
  | 6, h => cases h; decide +kernel
  | 7, h => cases h; decide +kernel
  | 8, h => cases h; decide +kernel
  | 9, h => cases h; decide +kernel
  | 10, h => cases h; decide +kernel
  | 11, h => cases h; decide +kernel
  | k + 12, h => simp at h
theorem ml_cs_lt {c : Nat} {q : vw_C} (h : ml_cs[c]? = some q) : c < 12 := (List.getElem?_eq_some_iff.mp h).1
-- what the values of a cell are made of
theorem ml_v_sI (B : Nat) (m : ml_M) (a k : Nat) (v : Int32) (ty : FieldType) (b j : Nat) (h : ¬ (b = a ∧ j = k)) : ml_v B (ml_sI m a k v) ty b j = ml_v B m ty b j := by
  cases ty <;> simp [ml_v, ml_sI, ml_I, ml_R, ml_J, ml_u2, h]
theorem ml_v_sR (B : Nat) (m : ml_M) (a k : Nat) (v : Nat) (ty : FieldType) (b j : Nat) (h : ¬ (b = a ∧ j = k)) : ml_v B (ml_sR m a k v) ty b j = ml_v B m ty b j := by
  cases ty <;> simp [ml_v, ml_sR, ml_I, ml_R, ml_J, ml_u2, h]
theorem ml_v_sJ (B : Nat) (m : ml_M) (a k : Nat) (v : Int64) (ty : FieldType) (b j : Nat) (h : ¬ (b = a ∧ j = k)) : ml_v B (ml_sJ m a k v) ty b j = ml_v B m ty b j := by
  cases ty <;> simp [ml_v, ml_sJ, ml_I, ml_R, ml_J, ml_u2, h]
theorem ml_v_al (B : Nat) (m : ml_M) (kd ln sz : Nat) (ty : FieldType) (b j : Nat) (h : ¬ b = ml_n m + 1) : ml_v B (ml_al m kd ln sz) ty b j = ml_v B m ty b j := by
  cases ty <;> simp [ml_v, ml_al, ml_I, ml_R, ml_J, h]
theorem ml_v_al0 (B : Nat) (m : ml_M) (kd ln sz : Nat) (ty : FieldType) (j : Nat) (h : ml_nofd ty = true) : ml_v B (ml_al m kd ln sz) ty (ml_n m + 1) j = defaultValue ty := by
  cases ty <;> first | rfl | (simp [ml_nofd] at h; done) | simp [ml_v, ml_al, ml_I, ml_R, ml_J, ml_rf, defaultValue]
theorem ml_K_al (m : ml_M) (kd ln sz : Nat) (b : Nat) : ml_K (ml_al m kd ln sz) b = if b = ml_n m + 1 then (kd, ln) else ml_K m b := rfl
theorem ml_at.to {G : ml_G} {m m' : ml_M} {a : Nat} {H H1 : Heap} (h : ml_at G m a H) (hK : ml_K m' a = ml_K m a) (hv : ∀ ty j, ml_v (ml_B G) m' ty a j = ml_v (ml_B G) m ty a j) (hq : H1[ml_B G + a]? = H[ml_B G + a]?) : ml_at G m' a H1 := by
  rcases h with ⟨q, h1, h2⟩ | ⟨h1, h2⟩
  · refine Or.inl ⟨q, by rw [hK]; exact h1, ?_⟩
    rw [hK]
    exact (h2.kept hq).to fun k _ => (hv _ _).symm
  · refine Or.inr ⟨by rw [hK]; exact h1, ?_⟩
    rw [hK, hq, h2]
    congr 2
    funext j
    exact (hv _ _).symm
theorem ml_HP.put {G : ml_G} {m m' : ml_M} {H H1 : Heap} {x k : Nat} (hH : ml_HP G m H) (hn : ml_n m' = ml_n m) (hKK : ml_K m' = ml_K m) (ho : ∀ (B : Nat) (ty : FieldType) (a j : Nat), ¬ (a = x ∧ j = k) → ml_v B m' ty a j = ml_v B m ty a j) (hx : 1 ≤ x) (z : H1.size = H.size)
    (oq : ∀ q, q ≠ ml_B G + x → H1[q]? = H[q]?) (hat : ml_at G m' x H1) : ml_HP G m' H1 := by
  refine ⟨by rw [z, hn]; exact hH.1, fun q hq => by rw [oq q (by omega)]; exact hH.2.1 q hq, fun a ha => ?_⟩
  rw [hKK] at ha
  refine ⟨by rw [hn]; exact (hH.2.2 a ha).1, ?_⟩
  by_cases h : a = x
  · rw [h]; exact hat
  · exact (hH.2.2 a ha).2.to (by rw [hKK]) (fun ty j => ho _ _ _ _ (fun z => h z.1)) (oq _ (by omega))
theorem ml_HP.al {G : ml_G} {m : ml_M} {H H1 : Heap} {kd ln sz : Nat} (hH : ml_HP G m H) (z : H1.size = H.size + 1) (oq : ∀ q, q < H.size → H1[q]? = H[q]?) (hat : ml_at G (ml_al m kd ln sz) (ml_n m + 1) H1) : ml_HP G (ml_al m kd ln sz) H1 := by
  have hs := hH.1
  refine ⟨by rw [z, hs]; show _ = _ + (ml_n m + 1); omega, fun q hq => by rw [oq q (by omega)]; exact hH.2.1 q hq, fun a ha => ?_⟩
  by_cases h : a = ml_n m + 1
  · subst h
    exact ⟨⟨by omega, Nat.le_refl _⟩, hat⟩
  · rw [ml_K_al, if_neg h] at ha
    obtain ⟨⟨h1, h2⟩, h3⟩ := hH.2.2 a ha
    exact ⟨⟨h1, Nat.le_succ_of_le h2⟩, h3.to (by rw [ml_K_al, if_neg h]) (fun ty j => ml_v_al _ _ _ _ _ _ _ _ h) (oq _ (by omega))⟩
theorem ml_HP.obj {G : ml_G} {m : ml_M} {H : Heap} (hH : ml_HP G m H) {x ci : Nat} {q : vw_C} (hq : ml_cs[ci]? = some q) (hK : (ml_K m x).1 = ci) : (1 ≤ x ∧ x ≤ ml_n m) ∧ t_OB (ml_B G + x) ((ml_D G).1 ci) q.2.2 ((ml_D G).2 ci) H (fun j => ml_v (ml_B G) m (ml_ty ci j) x j) := by
  subst hK
  have hlt := ml_cs_lt hq
  obtain ⟨h1, h2⟩ := hH.2.2 x (by omega)
  refine ⟨h1, ?_⟩
  rcases h2 with ⟨q', h3, h4⟩ | ⟨h3, -⟩
  · cases hq.symm.trans h3
    exact h4
  · omega
theorem ml_HP.arr {G : ml_G} {m : ml_M} {H : Heap} (hH : ml_HP G m H) {x kd : Nat} (hK : (ml_K m x).1 = kd) (h20 : 20 ≤ kd) (h31 : kd < 31) : (1 ≤ x ∧ x ≤ ml_n m) ∧ H[ml_B G + x]? = some (arrV (ml_cA G kd) (ml_K m x).2 (fun j => ml_v (ml_B G) m (ml_ety kd) x j)) := by
  subst hK
  obtain ⟨h1, h2⟩ := hH.2.2 x (by omega)
  refine ⟨h1, ?_⟩
  rcases h2 with ⟨q', h3, h4⟩ | ⟨h3, h4⟩
  · have := ml_cs_lt h3
    omega
  · exact h4
theorem ml_refv {B x : Nat} (h : 1 ≤ x) : ml_val B (ml_r x) = .ref (B + x) := if_neg (by omega)
-- fields
/-- field k of class ci, by the pool's entry idx of class own -/
def ml_f (own : String) (idx ci k : Nat) : Prop := ∃ q : vw_C, ml_cs[ci]? = some q ∧ k < q.2.2 ∧ Cond.fieldLink own idx (q.2.1 k).1 (q.2.1 k).2.1 (q.2.1 k).2.2.1 ∈ ml_TB
theorem ml_getf {E : ml_E} {own : String} {cc : ByteArray} {d : Nat} {ini : Bool} {m : ml_M} {pc pc' : Nat} {lv : List (Nat × ml_X)} {st : List ml_X} {idx ci k x : Nat} (hd : ml_d cc pc (.getfield idx) 3 pc') (hf : ml_f own idx ci k) (hK : (ml_K m x).1 = ci) {v : ml_X} (hv : ∀ B, ml_v B m (ml_ty ci k) x k = ml_val B v) (kn : ml_V E own cc d ini m pc' lv (v :: st)) : ml_V E own cc d ini m pc lv (ml_r x :: st) := by
  obtain ⟨hd, rfl⟩ := hd
  obtain ⟨q, hq, hk, hw⟩ := hf
  refine kn.same fun C H locs ls a b hH hl kk => ?_
  obtain ⟨p, l, e, R, s, args, below, meth, c, Q, hW, hR, hx, hb, hml, hown, hts, hst, hin⟩ := C
  rw [hW] at kk ⊢
  obtain ⟨⟨h1, -⟩, cell, g1, g2, g3, g4⟩ := hH.obj hq hK
  obtain ⟨hS, hfc, kC, hkC, hkind⟩ := hst.1 ci q hq
  obtain ⟨cf, kf, fi, f, hi, hsl⟩ := hS k hk
  show W p l e R s (ml_em E) args below meth c H locs a b Q (F0 (ml_em E) pc ls (ml_val (ml_b E) (ml_r x) :: ml_sv (ml_b E) st))
  rw [ml_refv h1]
  refine W.getf hx hb hown (hts _ hw) hi (u_facts hfc hkC (u_lays hts (ml_lay ci q hq) hk) hi).1 g1 (by rw [g3]; exact fun h => by cases h) (v := ml_val (ml_b E) v) ?_ rfl rfl hd kk
  rw [hsl, g4 k hk, ← hv]
  rfl
theorem ml_getI {E : ml_E} {own : String} {cc : ByteArray} {d : Nat} {ini : Bool} {m : ml_M} {pc pc' : Nat} {lv : List (Nat × ml_X)} {st : List ml_X} {idx ci k x : Nat} (hd : ml_d cc pc (.getfield idx) 3 pc') (hf : ml_f own idx ci k ∧ ∀ B m a j, ml_v B m (ml_ty ci k) a j = .int (ml_I m a j)) (hK : (ml_K m x).1 = ci) (kn : ml_V E own cc d ini m pc' lv (ml_i (ml_I m x k) :: st)) : ml_V E own cc d ini m pc lv (ml_r x :: st) := ml_getf hd hf.1 hK (fun _ => hf.2 _ _ _ _) kn
theorem ml_getR {E : ml_E} {own : String} {cc : ByteArray} {d : Nat} {ini : Bool} {m : ml_M} {pc pc' : Nat} {lv : List (Nat × ml_X)} {st : List ml_X} {idx ci k x : Nat} (hd : ml_d cc pc (.getfield idx) 3 pc') (hf : ml_f own idx ci k ∧ ∀ B m a j, ml_v B m (ml_ty ci k) a j = ml_rf B (ml_R m a j)) (hK : (ml_K m x).1 = ci) (kn : ml_V E own cc d ini m pc' lv (ml_r (ml_R m x k) :: st)) : ml_V E own cc d ini m pc lv (ml_r x :: st) := ml_getf hd hf.1 hK (fun _ => hf.2 _ _ _ _) kn
theorem ml_getJ {E : ml_E} {own : String} {cc : ByteArray} {d : Nat} {ini : Bool} {m : ml_M} {pc pc' : Nat} {lv : List (Nat × ml_X)} {st : List ml_X} {idx ci k x : Nat} (hd : ml_d cc pc (.getfield idx) 3 pc') (hf : ml_f own idx ci k ∧ ∀ B m a j, ml_v B m (ml_ty ci k) a j = .long (ml_J m a j)) (hK : (ml_K m x).1 = ci) (kn : ml_V E own cc d ini m pc' lv (ml_l (ml_J m x k) :: st)) : ml_V E own cc d ini m pc lv (ml_r x :: st) := ml_getf hd hf.1 hK (fun _ => hf.2 _ _ _ _) kn
/-- a field that may be written in class own: not final, or own's in its constructor -/
def ml_w (own : String) (ini : Bool) (ci k : Nat) : Prop := ∃ q : vw_C, ml_cs[ci]? = some q ∧ ((q.2.1 k).2.2.2 = false ∨ (ini = true ∧ (q.2.1 k).2.2.2 = true ∧ (q.2.1 k).1 = own))
theorem ml_putf {E : ml_E} {own : String} {cc : ByteArray} {d : Nat} {ini : Bool} {m m' : ml_M} {pc pc' : Nat} {lv : List (Nat × ml_X)} {st : List ml_X} {idx ci k x : Nat} {v : ml_X} (hd : ml_d cc pc (.putfield idx) 3 pc') (hf : ml_f own idx ci k) (hwr : ml_w own ini ci k) (hK : (ml_K m x).1 = ci) (hnar : ∀ B, narrow (ml_ty ci k) (ml_val B v) = ml_val B v) (hfit : ∀ B, fits (ml_ty ci k) (ml_val B v) = true)
    (hn : ml_n m' = ml_n m) (hs : ml_s m' = ml_s m) (hKK : ml_K m' = ml_K m) (ho : ∀ (B : Nat) (ty : FieldType) (a j : Nat), ¬ (a = x ∧ j = k) → ml_v B m' ty a j = ml_v B m ty a j) (hv : ∀ B, ml_v B m' (ml_ty ci k) x k = ml_val B v) (kn : ml_V E own cc d ini m' pc' lv st) : ml_V E own cc d ini m pc lv (v :: ml_r x :: st) := by
  obtain ⟨hd, rfl⟩ := hd
  obtain ⟨q, hq, hk, hw⟩ := hf
  obtain ⟨q', hq', hfin⟩ := hwr
  cases hq.symm.trans hq'
  intro n1 n2
  rw [← hn, ← hs]
  obtain ⟨kb, kk⟩ := kn (by rw [hn]; exact n1) (by rw [hs]; exact n2)
  refine ⟨kb, fun C H locs ls hH hL hl => ?_⟩
  have kk := kk C
  obtain ⟨p, l, e, R, s, args, below, meth, c, Q, hW, hR, hx, hb, hml, hown, hts, hst, hin⟩ := C
  rw [hW] at kk ⊢
  obtain ⟨⟨h1, -⟩, cell, g1, g2, g3, g4⟩ := hH.obj hq hK
  have hKs : va_K (ml_D (ml_eG E)) ml_cs [] s := ⟨hst.1, fun k q h => by simp at h⟩
  have hap := va_apart (own := own) hts (ml_lay ci q hq) (ml_ty ci) (ml_nm ci q hq).2 (ml_nm ci q hq).1 hKs hq
  obtain ⟨hS, hfc, kC, hkC, hkind⟩ := hst.1 ci q hq
  obtain ⟨cf, kf, fi, f, hi, hsl⟩ := hS k hk
  have hlay := hts _ (ml_lay ci q hq _ (u_in_lay hk))
  have hst' := (u_facts hfc hkC (u_lays hts (ml_lay ci q hq) hk) hi).1
  have hdty := (ml_nm ci q hq).2 k hk
  show W p l e R s (ml_em E) args below meth c H locs _ _ Q (F0 (ml_em E) pc ls (ml_val (ml_b E) v :: ml_val (ml_b E) (ml_r x) :: ml_sv (ml_b E) st))
  rw [ml_refv h1]
  have hend : ∀ H1 : Heap, H1[ml_B (ml_eG E) + x]? = some (cell.setSlot f.slot (ml_val (ml_b E) v)) → H1.size = H.size → (∀ q, q ≠ ml_B (ml_eG E) + x → H1[q]? = H[q]?) → ml_HP (ml_eG E) m' H1 := by
    intro H1 e1 z oq
    refine hH.put hn hKK ho h1 z oq (Or.inl ⟨q, by rw [hKK, hK]; exact hq, ?_⟩)
    rw [hKK, hK]
    rw [hsl] at e1
    refine t_OB.to (V := updV (fun j => ml_v (ml_B (ml_eG E)) m (ml_ty ci j) x j) k (ml_val (ml_b E) v)) ⟨_, e1, g2, g3, t_set g4 hap hk _⟩ (fun j hj => ?_)
    by_cases hjk : j = k
    · subst hjk
      rw [show updV (fun j => ml_v (ml_B (ml_eG E)) m (ml_ty ci j) x j) j (ml_val (ml_b E) v) j = ml_val (ml_b E) v from if_pos rfl]
      exact (hv _).symm
    · rw [show updV (fun j => ml_v (ml_B (ml_eG E)) m (ml_ty ci j) x j) k (ml_val (ml_b E) v) j = ml_v (ml_B (ml_eG E)) m (ml_ty ci j) x j from if_neg hjk]
      exact (ho _ _ _ _ (fun z => hjk z.2)).symm
  have hL' : ∀ q ∈ locs ++ [(⟨ml_B (ml_eG E) + x, f.slot⟩ : Loc)], ml_b E < q.base := by
    intro q hq
    rcases List.mem_append.mp hq with h | h
    · exact hL q h
    · rw [List.mem_singleton.mp h]
      show ml_B (ml_eG E) < ml_B (ml_eG E) + x
      omega
  rcases hfin with hfin | ⟨hi1, hfin, hdecl⟩
  · unfold u_lay at hlay
    rw [if_neg (by rw [hfin]; decide)] at hlay
    have h6 := u_store hfc hkC hkind hlay hi hdty (hnar (ml_b E)) (hfit (ml_b E))
    refine W.putK hx hb (f := f) ⟨hown, hts _ hw, ⟨_, _, _, hi⟩, hst'⟩ (by rw [g2]; exact h6) g1 g3 (by rw [hsl]; exact k2_hasslot (g4 k hk)) rfl rfl hd fun H1 e1 e2 e3 => ?_
    exact kk H1 _ ls (hend H1 e1 e2 e3) hL' hl
  · unfold u_lay at hlay
    rw [if_pos hfin] at hlay
    have hcf : (ml_em E).cls = cf := by
      obtain ⟨_, _, c', _, _, _, -, -, hf', -, -, -, hown2, -⟩ := Cond.laysFinal_spec hlay
      have e1 : c' = cf := by have := hi.symm.trans hf'; simp at this; exact this.1.symm
      rw [hdecl] at hown2
      rw [← e1]; exact Option.some.inj (hown.symm.trans hown2)
    have h6 := u_fits hfc hkC hkind (Or.inr hlay) hi hdty (hnar (ml_b E)) (hfit (ml_b E))
    refine W.putFinK hx hb hown (hts _ hw) hi hst' hcf (hin hi1) (by rw [g2]; exact h6) g1 g3 (by rw [hsl]; exact k2_hasslot (g4 k hk)) rfl rfl hd fun H1 e1 e2 e3 => ?_
    exact kk H1 _ ls (hend H1 e1 e2 e3) hL' hl

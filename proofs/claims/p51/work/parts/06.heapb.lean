/-! ROWS OVER THE PLAIN MEMORY: fields written, arrays read and written -/
theorem ml_putI {E : ml_E} {own : String} {cc : ByteArray} {d : Nat} {ini : Bool} {m : ml_M} {pc pc' : Nat} {lv : List (Nat × ml_X)} {st : List ml_X} {idx ci k x : Nat} {v : Int32} (hd : ml_d cc pc (.putfield idx) 3 pc') (hf : ml_f own idx ci k ∧ ml_w own ini ci k ∧ ml_ty ci k = .int) (hK : (ml_K m x).1 = ci) (kn : ml_V E own cc d ini (ml_sI m x k v) pc' lv st) : ml_V E own cc d ini m pc lv (ml_i v :: ml_r x :: st) :=
  ml_putf (m' := ml_sI m x k v) (v := ml_i v) hd hf.1 hf.2.1 hK (fun B => by rw [hf.2.2]; rfl) (fun B => by rw [hf.2.2]; rfl) rfl rfl rfl (fun B ty a j h => ml_v_sI B m x k v ty a j h) (fun B => by rw [hf.2.2]; simp [ml_v, ml_sI, ml_I, ml_u2, ml_val]) kn
theorem ml_putZ {E : ml_E} {own : String} {cc : ByteArray} {d : Nat} {ini : Bool} {m : ml_M} {pc pc' : Nat} {lv : List (Nat × ml_X)} {st : List ml_X} {idx ci k x : Nat} {v : Int32} (hd : ml_d cc pc (.putfield idx) 3 pc') (hf : ml_f own idx ci k ∧ ml_w own ini ci k ∧ ml_ty ci k = .boolean) (hK : (ml_K m x).1 = ci) (hz : v = 0 ∨ v = 1) (kn : ml_V E own cc d ini (ml_sI m x k v) pc' lv st) : ml_V E own cc d ini m pc lv (ml_i v :: ml_r x :: st) :=
  ml_putf (m' := ml_sI m x k v) (v := ml_i v) hd hf.1 hf.2.1 hK (fun B => by rw [hf.2.2]; rcases hz with rfl | rfl <;> rfl) (fun B => by rw [hf.2.2]; rcases hz with rfl | rfl <;> rfl) rfl rfl rfl (fun B ty a j h => ml_v_sI B m x k v ty a j h) (fun B => by rw [hf.2.2]; simp [ml_v, ml_sI, ml_I, ml_u2, ml_val]) kn
theorem ml_putJ {E : ml_E} {own : String} {cc : ByteArray} {d : Nat} {ini : Bool} {m : ml_M} {pc pc' : Nat} {lv : List (Nat × ml_X)} {st : List ml_X} {idx ci k x : Nat} {v : Int64} (hd : ml_d cc pc (.putfield idx) 3 pc') (hf : ml_f own idx ci k ∧ ml_w own ini ci k ∧ ml_ty ci k = .long) (hK : (ml_K m x).1 = ci) (kn : ml_V E own cc d ini (ml_sJ m x k v) pc' lv st) : ml_V E own cc d ini m pc lv (ml_l v :: ml_r x :: st) :=
  ml_putf (m' := ml_sJ m x k v) (v := ml_l v) hd hf.1 hf.2.1 hK (fun B => by rw [hf.2.2]; rfl) (fun B => by rw [hf.2.2]; rfl) rfl rfl rfl (fun B ty a j h => ml_v_sJ B m x k v ty a j h) (fun B => by rw [hf.2.2]; simp [ml_v, ml_sJ, ml_J, ml_u2, ml_val]) kn
def ml_isR (ty : FieldType) : Prop := (∃ C, ty = .object C) ∨ ∃ t, ty = .array t
theorem ml_isR.v {ty : FieldType} (h : ml_isR ty) (B : Nat) (m : ml_M) (a j : Nat) : ml_v B m ty a j = ml_rf B (ml_R m a j) := by
  rcases h with ⟨C, rfl⟩ | ⟨t, rfl⟩ <;> rfl
theorem ml_isR.nar {ty : FieldType} (h : ml_isR ty) (B x : Nat) : narrow ty (ml_rf B x) = ml_rf B x := by
  unfold ml_rf
  rcases h with ⟨C, rfl⟩ | ⟨t, rfl⟩ <;> split <;> rfl
theorem ml_isR.fit {ty : FieldType} (h : ml_isR ty) (B x : Nat) : fits ty (ml_rf B x) = true := by
  unfold ml_rf
  rcases h with ⟨C, rfl⟩ | ⟨t, rfl⟩ <;> split <;> rfl
theorem ml_putR {E : ml_E} {own : String} {cc : ByteArray} {d : Nat} {ini : Bool} {m : ml_M} {pc pc' : Nat} {lv : List (Nat × ml_X)} {st : List ml_X} {idx ci k x : Nat} {v : Nat} (hd : ml_d cc pc (.putfield idx) 3 pc') (hf : ml_f own idx ci k ∧ ml_w own ini ci k ∧ ml_isR (ml_ty ci k)) (hK : (ml_K m x).1 = ci) (kn : ml_V E own cc d ini (ml_sR m x k v) pc' lv st) : ml_V E own cc d ini m pc lv (ml_r v :: ml_r x :: st) :=
  ml_putf (m' := ml_sR m x k v) (v := ml_r v) hd hf.1 hf.2.1 hK (fun B => hf.2.2.nar B v) (fun B => hf.2.2.fit B v) rfl rfl rfl (fun B ty a j h => ml_v_sR B m x k v ty a j h) (fun B => by rw [hf.2.2.v]; simp [ml_sR, ml_R, ml_u2, ml_val]) kn
-- arrays
abbrev ml_in (m : ml_M) (a kd : Nat) (i : Int32) : Prop := (ml_K m a).1 = kd ∧ ¬ (i < 0 ∨ (ml_K m a).2 ≤ i.toNatClampNeg)
theorem ml_len_in {G : ml_G} {m : ml_M} {a kd : Nat} {i : Int32} {f : Nat → Value} (h : ¬ (i < 0 ∨ (ml_K m a).2 ≤ i.toNatClampNeg)) : ¬ (i < 0 ∨ (arrV (ml_cA G kd) (ml_K m a).2 f).slots.size ≤ i.toNatClampNeg) := by rw [arrV_size]; exact h
theorem ml_len_rd {G : ml_G} {m : ml_M} {a kd : Nat} {i : Int32} {f : Nat → Value} (h : ¬ (i < 0 ∨ (ml_K m a).2 ≤ i.toNatClampNeg)) : (arrV (ml_cA G kd) (ml_K m a).2 f).slots[i.toNatClampNeg]? = some (f i.toNatClampNeg) := arrV_read _ _ (Nat.not_le.mp fun z => h (Or.inr z))
theorem ml_iald {E : ml_E} {own : String} {cc : ByteArray} {d : Nat} {ini : Bool} {m : ml_M} {pc pc' : Nat} {lv : List (Nat × ml_X)} {st : List ml_X} {a : Nat} {i : Int32} (hd : ml_d cc pc .iaload 1 pc') (hi : ml_in m a 20 i) (kn : ml_V E own cc d ini m pc' lv (ml_i (ml_I m a i.toNatClampNeg) :: st)) : ml_V E own cc d ini m pc lv (ml_i i :: ml_r a :: st) := by
  obtain ⟨hd, rfl⟩ := hd
  refine kn.same fun C H locs ls a1 b1 hH hl kk => ?_
  obtain ⟨p, l, e, R, s, args, below, meth, c, Q, hW, hR, hx, hb, hml, hown, hts, hst, hin⟩ := C
  rw [hW] at kk ⊢
  obtain ⟨⟨h1, -⟩, h2⟩ := hH.arr hi.1 (by omega) (by omega)
  show W p l e R s (ml_em E) args below meth c H locs a1 b1 Q (F0 (ml_em E) pc ls (.int i :: ml_val (ml_b E) (ml_r a) :: ml_sv (ml_b E) st))
  rw [ml_refv h1]
  exact W.iald hx hb h2 ((hst.2.1 20 (by omega) (by omega)).arr _ _) (fun h => by cases h) (ml_len_in hi.2) (ml_len_rd hi.2) rfl rfl hd kk
theorem ml_bald {E : ml_E} {own : String} {cc : ByteArray} {d : Nat} {ini : Bool} {m : ml_M} {pc pc' : Nat} {lv : List (Nat × ml_X)} {st : List ml_X} {a : Nat} {i : Int32} (hd : ml_d cc pc .baload 1 pc') (hi : ml_in m a 21 i) (kn : ml_V E own cc d ini m pc' lv (ml_i (ml_I m a i.toNatClampNeg) :: st)) : ml_V E own cc d ini m pc lv (ml_i i :: ml_r a :: st) := by
  obtain ⟨hd, rfl⟩ := hd
  refine kn.same fun C H locs ls a1 b1 hH hl kk => ?_
  obtain ⟨p, l, e, R, s, args, below, meth, c, Q, hW, hR, hx, hb, hml, hown, hts, hst, hin⟩ := C
  rw [hW] at kk ⊢
  obtain ⟨⟨h1, -⟩, h2⟩ := hH.arr hi.1 (by omega) (by omega)
  show W p l e R s (ml_em E) args below meth c H locs a1 b1 Q (F0 (ml_em E) pc ls (.int i :: ml_val (ml_b E) (ml_r a) :: ml_sv (ml_b E) st))
  rw [ml_refv h1]
  exact W.bald hx hb h2 ((hst.2.1 21 (by omega) (by omega)).arr _ _) (fun h => by cases h) (ml_len_in hi.2) (ml_len_rd hi.2) rfl rfl hd kk
theorem ml_zald {E : ml_E} {own : String} {cc : ByteArray} {d : Nat} {ini : Bool} {m : ml_M} {pc pc' : Nat} {lv : List (Nat × ml_X)} {st : List ml_X} {a : Nat} {i : Int32} (hd : ml_d cc pc .baload 1 pc') (hi : ml_in m a 22 i) (kn : ml_V E own cc d ini m pc' lv (ml_i (ml_I m a i.toNatClampNeg) :: st)) : ml_V E own cc d ini m pc lv (ml_i i :: ml_r a :: st) := by
  obtain ⟨hd, rfl⟩ := hd
  refine kn.same fun C H locs ls a1 b1 hH hl kk => ?_
  obtain ⟨p, l, e, R, s, args, below, meth, c, Q, hW, hR, hx, hb, hml, hown, hts, hst, hin⟩ := C
  rw [hW] at kk ⊢
  obtain ⟨⟨h1, -⟩, h2⟩ := hH.arr hi.1 (by omega) (by omega)
  show W p l e R s (ml_em E) args below meth c H locs a1 b1 Q (F0 (ml_em E) pc ls (.int i :: ml_val (ml_b E) (ml_r a) :: ml_sv (ml_b E) st))
  rw [ml_refv h1]
  exact W.zald hx hb h2 ((hst.2.1 22 (by omega) (by omega)).arr _ _) (fun h => by cases h) (ml_len_in hi.2) (ml_len_rd hi.2) rfl rfl hd kk
theorem ml_isR_ety : ∀ kd, 23 ≤ kd → kd < 31 → ml_isR (ml_ety kd) ∧ (ml_ety kd).isReference = true := by
  intro kd h1 h2
  rcases (show kd = 23 ∨ kd = 24 ∨ kd = 25 ∨ kd = 26 ∨ kd = 27 ∨ kd = 28 ∨ kd = 29 ∨ kd = 30 by omega) with rfl | rfl | rfl | rfl | rfl | rfl | rfl | rfl
  · exact ⟨Or.inr ⟨_, rfl⟩, rfl⟩
  · exact ⟨Or.inr ⟨_, rfl⟩, rfl⟩
  · exact ⟨Or.inl ⟨_, rfl⟩, rfl⟩
  · exact ⟨Or.inl ⟨_, rfl⟩, rfl⟩
  · exact ⟨Or.inl ⟨_, rfl⟩, rfl⟩
  · exact ⟨Or.inl ⟨_, rfl⟩, rfl⟩
  · exact ⟨Or.inl ⟨_, rfl⟩, rfl⟩
  · exact ⟨Or.inl ⟨_, rfl⟩, rfl⟩
theorem ml_aald {E : ml_E} {own : String} {cc : ByteArray} {d : Nat} {ini : Bool} {m : ml_M} {pc pc' : Nat} {lv : List (Nat × ml_X)} {st : List ml_X} {a kd : Nat} {i : Int32} (hd : ml_d cc pc .aaload 1 pc') (h23 : 23 ≤ kd ∧ kd < 31) (hi : ml_in m a kd i) (kn : ml_V E own cc d ini m pc' lv (ml_r (ml_R m a i.toNatClampNeg) :: st)) : ml_V E own cc d ini m pc lv (ml_i i :: ml_r a :: st) := by
  obtain ⟨hd, rfl⟩ := hd
  refine kn.same fun C H locs ls a1 b1 hH hl kk => ?_
  obtain ⟨p, l, e, R, s, args, below, meth, c, Q, hW, hR, hx, hb, hml, hown, hts, hst, hin⟩ := C
  rw [hW] at kk ⊢
  obtain ⟨⟨h1, -⟩, h2⟩ := hH.arr hi.1 (by omega) (by omega)
  obtain ⟨h3, h4⟩ := ml_isR_ety kd h23.1 h23.2
  show W p l e R s (ml_em E) args below meth c H locs a1 b1 Q (F0 (ml_em E) pc ls (.int i :: ml_val (ml_b E) (ml_r a) :: ml_sv (ml_b E) st))
  rw [ml_refv h1]
  refine W.aald (v := ml_val (ml_b E) (ml_r (ml_R m a i.toNatClampNeg))) hx hb h2 ((hst.2.1 kd (by omega) h23.2).arr _ _) h4 (fun h => by cases h) (ml_len_in hi.2) ?_ rfl rfl hd kk
  rw [ml_len_rd hi.2, h3.v]
  rfl
theorem ml_alen {E : ml_E} {own : String} {cc : ByteArray} {d : Nat} {ini : Bool} {m : ml_M} {pc pc' : Nat} {lv : List (Nat × ml_X)} {st : List ml_X} {a kd : Nat} (hd : ml_d cc pc .arraylength 1 pc') (h23 : 20 ≤ kd ∧ kd < 31) (hi : (ml_K m a).1 = kd) (kn : ml_V E own cc d ini m pc' lv (ml_i (Int32.ofNat (ml_K m a).2) :: st)) : ml_V E own cc d ini m pc lv (ml_r a :: st) := by
  obtain ⟨hd, rfl⟩ := hd
  refine kn.same fun C H locs ls a1 b1 hH hl kk => ?_
  obtain ⟨p, l, e, R, s, args, below, meth, c, Q, hW, hR, hx, hb, hml, hown, hts, hst, hin⟩ := C
  rw [hW] at kk ⊢
  obtain ⟨⟨h1, -⟩, h2⟩ := hH.arr hi h23.1 h23.2
  show W p l e R s (ml_em E) args below meth c H locs a1 b1 Q (F0 (ml_em E) pc ls (ml_val (ml_b E) (ml_r a) :: ml_sv (ml_b E) st))
  rw [ml_refv h1]
  exact W.alen (n := Int32.ofNat (ml_K m a).2) hx hb h2 ((hst.2.1 kd h23.1 h23.2).arr _ _) (by rw [arrV_size]) rfl rfl hd kk
/-- what a store into an array leaves -/
theorem ml_HP.aput {G : ml_G} {m m' : ml_M} {H H1 : Heap} {a kd k : Nat} {v : Value} (hH : ml_HP G m H) (hK : (ml_K m a).1 = kd) (h20 : 20 ≤ kd) (h31 : kd < 31) (hn : ml_n m' = ml_n m) (hKK : ml_K m' = ml_K m) (ho : ∀ (B : Nat) (ty : FieldType) (b j : Nat), ¬ (b = a ∧ j = k) → ml_v B m' ty b j = ml_v B m ty b j) (hv : ml_v (ml_B G) m' (ml_ety kd) a k = v)
    (e1 : H1[ml_B G + a]? = some ((arrV (ml_cA G kd) (ml_K m a).2 (fun j => ml_v (ml_B G) m (ml_ety kd) a j)).setSlot k v)) (z : H1.size = H.size) (oq : ∀ q, q ≠ ml_B G + a → H1[q]? = H[q]?) : ml_HP G m' H1 := by
  obtain ⟨⟨h1, -⟩, h2⟩ := hH.arr hK h20 h31
  refine hH.put hn hKK ho h1 z oq (Or.inr ⟨by rw [hKK, hK]; exact ⟨h20, h31⟩, ?_⟩)
  rw [hKK, hK, e1, arrV_store]
  congr 2
  funext j
  by_cases hj : j = k
  · subst hj
    rw [hv]
    exact if_pos rfl
  · rw [ho _ _ _ _ (fun z => hj z.2)]
    exact if_neg hj
theorem ml_locs {b a k : Nat} {locs : List Loc} (h : ∀ q ∈ locs, b < q.base) (ha : 1 ≤ a) : ∀ q ∈ locs ++ [(⟨b + a, k⟩ : Loc)], b < q.base := by
  intro q hq
  rcases List.mem_append.mp hq with h2 | h2
  · exact h q h2
  · rw [List.mem_singleton.mp h2]
    show b < b + a
    omega
theorem ml_iast {E : ml_E} {own : String} {cc : ByteArray} {d : Nat} {ini : Bool} {m : ml_M} {pc pc' : Nat} {lv : List (Nat × ml_X)} {st : List ml_X} {a : Nat} {i x : Int32} (hd : ml_d cc pc .iastore 1 pc') (hi : ml_in m a 20 i) (kn : ml_V E own cc d ini (ml_sI m a i.toNatClampNeg x) pc' lv st) : ml_V E own cc d ini m pc lv (ml_i x :: ml_i i :: ml_r a :: st) := by
  obtain ⟨hd, rfl⟩ := hd
  intro n1 n2
  obtain ⟨kb, kk⟩ := kn n1 n2
  refine ⟨kb, fun C H locs ls hH hL hl => ?_⟩
  have kk := kk C
  obtain ⟨p, l, e, R, s, args, below, meth, c, Q, hW, hR, hx, hb, hml, hown, hts, hst, hin⟩ := C
  rw [hW] at kk ⊢
  obtain ⟨⟨h1, -⟩, h2⟩ := hH.arr hi.1 (by omega) (by omega)
  show W p l e R s (ml_em E) args below meth c H locs _ _ Q (F0 (ml_em E) pc ls (.int x :: .int i :: ml_val (ml_b E) (ml_r a) :: ml_sv (ml_b E) st))
  rw [ml_refv h1]
  refine W.iast hx hb h2 ((hst.2.1 20 (by omega) (by omega)).arr _ _) (fun h => by cases h) (ml_len_in hi.2) rfl rfl hd fun H1 e1 z oq => ?_
  exact kk H1 _ ls (hH.aput hi.1 (by omega) (by omega) rfl rfl (fun B ty b j h => ml_v_sI B m a i.toNatClampNeg x ty b j h) (by simp [ml_v, ml_ety, ml_sI, ml_I, ml_u2]) e1 z oq) (ml_locs hL h1) hl
theorem ml_bast {E : ml_E} {own : String} {cc : ByteArray} {d : Nat} {ini : Bool} {m : ml_M} {pc pc' : Nat} {lv : List (Nat × ml_X)} {st : List ml_X} {a : Nat} {i x : Int32} (hd : ml_d cc pc .bastore 1 pc') (hi : ml_in m a 21 i) (kn : ml_V E own cc d ini (ml_sI m a i.toNatClampNeg x.toInt8.toInt32) pc' lv st) : ml_V E own cc d ini m pc lv (ml_i x :: ml_i i :: ml_r a :: st) := by
  obtain ⟨hd, rfl⟩ := hd
  intro n1 n2
  obtain ⟨kb, kk⟩ := kn n1 n2
  refine ⟨kb, fun C H locs ls hH hL hl => ?_⟩
  have kk := kk C
  obtain ⟨p, l, e, R, s, args, below, meth, c, Q, hW, hR, hx, hb, hml, hown, hts, hst, hin⟩ := C
  rw [hW] at kk ⊢
  obtain ⟨⟨h1, -⟩, h2⟩ := hH.arr hi.1 (by omega) (by omega)
  show W p l e R s (ml_em E) args below meth c H locs _ _ Q (F0 (ml_em E) pc ls (.int x :: .int i :: ml_val (ml_b E) (ml_r a) :: ml_sv (ml_b E) st))
  rw [ml_refv h1]
  refine W.bast hx hb h2 ((hst.2.1 21 (by omega) (by omega)).arr _ _) (fun h => by cases h) (ml_len_in hi.2) rfl rfl hd fun H1 e1 z oq => ?_
  exact kk H1 _ ls (hH.aput hi.1 (by omega) (by omega) rfl rfl (fun B ty b j h => ml_v_sI B m a i.toNatClampNeg _ ty b j h) (by simp [ml_v, ml_ety, ml_sI, ml_I, ml_u2, narrow]) e1 z oq) (ml_locs hL h1) hl
theorem ml_zast {E : ml_E} {own : String} {cc : ByteArray} {d : Nat} {ini : Bool} {m : ml_M} {pc pc' : Nat} {lv : List (Nat × ml_X)} {st : List ml_X} {a : Nat} {i x : Int32} (hd : ml_d cc pc .bastore 1 pc') (hi : ml_in m a 22 i) (kn : ml_V E own cc d ini (ml_sI m a i.toNatClampNeg (x &&& 1)) pc' lv st) : ml_V E own cc d ini m pc lv (ml_i x :: ml_i i :: ml_r a :: st) := by
  obtain ⟨hd, rfl⟩ := hd
  intro n1 n2
  obtain ⟨kb, kk⟩ := kn n1 n2
  refine ⟨kb, fun C H locs ls hH hL hl => ?_⟩
  have kk := kk C
  obtain ⟨p, l, e, R, s, args, below, meth, c, Q, hW, hR, hx, hb, hml, hown, hts, hst, hin⟩ := C
  rw [hW] at kk ⊢
  obtain ⟨⟨h1, -⟩, h2⟩ := hH.arr hi.1 (by omega) (by omega)
  show W p l e R s (ml_em E) args below meth c H locs _ _ Q (F0 (ml_em E) pc ls (.int x :: .int i :: ml_val (ml_b E) (ml_r a) :: ml_sv (ml_b E) st))
  rw [ml_refv h1]
  refine W.zast hx hb h2 ((hst.2.1 22 (by omega) (by omega)).arr _ _) (fun h => by cases h) (ml_len_in hi.2) rfl rfl hd fun H1 e1 z oq => ?_
  exact kk H1 _ ls (hH.aput hi.1 (by omega) (by omega) rfl rfl (fun B ty b j h => ml_v_sI B m a i.toNatClampNeg _ ty b j h) (by simp [ml_v, ml_ety, ml_sI, ml_I, ml_u2, narrow]) e1 z oq) (ml_locs hL h1) hl

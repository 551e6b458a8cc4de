/-! ROWS OVER THE PLAIN MEMORY, one an instruction: those that change the frame alone (printed by wip/whole/gen_rules.py) -/
theorem ml_iconst {E : ml_E} {own : String} {cc : ByteArray} {d : Nat} {ini : Bool} {m : ml_M} {pc pc' : Nat} {lv : List (Nat × ml_X)} {st : List ml_X} {z : Int} {v : Int32} (hd : ml_d cc pc (.iconst z) 1 pc') (hv : Int32.ofInt z = v) (k : ml_V E own cc d ini m pc' lv (ml_i v :: st)) : ml_V E own cc d ini m pc lv st := by
  obtain ⟨hd, rfl⟩ := hd
  refine k.same fun C H locs ls a b hH hl kk => ?_
  obtain ⟨p, l, e, R, s, args, below, meth, c, Q, hW, hR, hx, hb, hml, hown, hts, hst, hin⟩ := C
  rw [hW] at kk ⊢
  exact lv_iconst hx hb hd hv kk
theorem ml_bipush {E : ml_E} {own : String} {cc : ByteArray} {d : Nat} {ini : Bool} {m : ml_M} {pc pc' : Nat} {lv : List (Nat × ml_X)} {st : List ml_X} {z : Int} {v : Int32} (hd : ml_d cc pc (.bipush z) 2 pc') (hv : (Int8.ofInt z).toInt32 = v) (k : ml_V E own cc d ini m pc' lv (ml_i v :: st)) : ml_V E own cc d ini m pc lv st := by
  obtain ⟨hd, rfl⟩ := hd
  refine k.same fun C H locs ls a b hH hl kk => ?_
  obtain ⟨p, l, e, R, s, args, below, meth, c, Q, hW, hR, hx, hb, hml, hown, hts, hst, hin⟩ := C
  rw [hW] at kk ⊢
  exact lv_bipush hx hb hd hv kk
theorem ml_sipush {E : ml_E} {own : String} {cc : ByteArray} {d : Nat} {ini : Bool} {m : ml_M} {pc pc' : Nat} {lv : List (Nat × ml_X)} {st : List ml_X} {z : Int} {v : Int32} (hd : ml_d cc pc (.sipush z) 3 pc') (hv : (Int16.ofInt z).toInt32 = v) (k : ml_V E own cc d ini m pc' lv (ml_i v :: st)) : ml_V E own cc d ini m pc lv st := by
  obtain ⟨hd, rfl⟩ := hd
  refine k.same fun C H locs ls a b hH hl kk => ?_
  obtain ⟨p, l, e, R, s, args, below, meth, c, Q, hW, hR, hx, hb, hml, hown, hts, hst, hin⟩ := C
  rw [hW] at kk ⊢
  exact lv_sipush hx hb hd hv kk
theorem ml_lconst {E : ml_E} {own : String} {cc : ByteArray} {d : Nat} {ini : Bool} {m : ml_M} {pc pc' : Nat} {lv : List (Nat × ml_X)} {st : List ml_X} {z : Fin 2} {v : Int64} (hd : ml_d cc pc (.lconst z) 1 pc') (hv : Int64.ofNat (z : Nat) = v) (k : ml_V E own cc d ini m pc' lv (ml_l v :: st)) : ml_V E own cc d ini m pc lv st := by
  obtain ⟨hd, rfl⟩ := hd
  refine k.same fun C H locs ls a b hH hl kk => ?_
  obtain ⟨p, l, e, R, s, args, below, meth, c, Q, hW, hR, hx, hb, hml, hown, hts, hst, hin⟩ := C
  rw [hW] at kk ⊢
  exact lv_lconst hx hb hd hv kk
theorem ml_aconst_null {E : ml_E} {own : String} {cc : ByteArray} {d : Nat} {ini : Bool} {m : ml_M} {pc pc' : Nat} {lv : List (Nat × ml_X)} {st : List ml_X} (hd : ml_d cc pc .aconst_null 1 pc') (k : ml_V E own cc d ini m pc' lv (ml_r 0 :: st)) : ml_V E own cc d ini m pc lv st := by
  obtain ⟨hd, rfl⟩ := hd
  refine k.same fun C H locs ls a b hH hl kk => ?_
  obtain ⟨p, l, e, R, s, args, below, meth, c, Q, hW, hR, hx, hb, hml, hown, hts, hst, hin⟩ := C
  rw [hW] at kk ⊢
  exact lv_null hx hb hd kk
theorem ml_iload_n {E : ml_E} {own : String} {cc : ByteArray} {d : Nat} {ini : Bool} {m : ml_M} {pc pc' : Nat} {lv : List (Nat × ml_X)} {st : List ml_X} {f : Fin 4} {x : Int32} (hd : ml_d cc pc (.iload_n f) 1 pc') (j : Nat) (hk : lv[j]? = some ((f : Nat), ml_i x)) (k : ml_V E own cc d ini m pc' lv (ml_i x :: st)) : ml_V E own cc d ini m pc lv st := by
  obtain ⟨hd, rfl⟩ := hd
  refine k.same fun C H locs ls a b hH hl kk => ?_
  obtain ⟨p, l, e, R, s, args, below, meth, c, Q, hW, hR, hx, hb, hml, hown, hts, hst, hin⟩ := C
  rw [hW] at kk ⊢
  exact lv_iload_n hx hb hd rfl (lv_at hl _ (ml_lv_at hk)) kk
theorem ml_iload {E : ml_E} {own : String} {cc : ByteArray} {d : Nat} {ini : Bool} {m : ml_M} {pc pc' : Nat} {lv : List (Nat × ml_X)} {st : List ml_X} {i : Nat} {x : Int32} (hd : ml_d cc pc (.iload i) 2 pc') (j : Nat) (hk : lv[j]? = some (i, ml_i x)) (k : ml_V E own cc d ini m pc' lv (ml_i x :: st)) : ml_V E own cc d ini m pc lv st := by
  obtain ⟨hd, rfl⟩ := hd
  refine k.same fun C H locs ls a b hH hl kk => ?_
  obtain ⟨p, l, e, R, s, args, below, meth, c, Q, hW, hR, hx, hb, hml, hown, hts, hst, hin⟩ := C
  rw [hW] at kk ⊢
  exact lv_iload hx hb hd (lv_at hl _ (ml_lv_at hk)) kk
theorem ml_lload_n {E : ml_E} {own : String} {cc : ByteArray} {d : Nat} {ini : Bool} {m : ml_M} {pc pc' : Nat} {lv : List (Nat × ml_X)} {st : List ml_X} {f : Fin 4} {x : Int64} (hd : ml_d cc pc (.lload_n f) 1 pc') (j : Nat) (hk : lv[j]? = some ((f : Nat), ml_l x)) (k : ml_V E own cc d ini m pc' lv (ml_l x :: st)) : ml_V E own cc d ini m pc lv st := by
  obtain ⟨hd, rfl⟩ := hd
  refine k.same fun C H locs ls a b hH hl kk => ?_
  obtain ⟨p, l, e, R, s, args, below, meth, c, Q, hW, hR, hx, hb, hml, hown, hts, hst, hin⟩ := C
  rw [hW] at kk ⊢
  exact lv_lload_n hx hb hd rfl (lv_at hl _ (ml_lv_at hk)) kk
theorem ml_lload {E : ml_E} {own : String} {cc : ByteArray} {d : Nat} {ini : Bool} {m : ml_M} {pc pc' : Nat} {lv : List (Nat × ml_X)} {st : List ml_X} {i : Nat} {x : Int64} (hd : ml_d cc pc (.lload i) 2 pc') (j : Nat) (hk : lv[j]? = some (i, ml_l x)) (k : ml_V E own cc d ini m pc' lv (ml_l x :: st)) : ml_V E own cc d ini m pc lv st := by
  obtain ⟨hd, rfl⟩ := hd
  refine k.same fun C H locs ls a b hH hl kk => ?_
  obtain ⟨p, l, e, R, s, args, below, meth, c, Q, hW, hR, hx, hb, hml, hown, hts, hst, hin⟩ := C
  rw [hW] at kk ⊢
  exact lv_lload hx hb hd (lv_at hl _ (ml_lv_at hk)) kk
theorem ml_aload_n {E : ml_E} {own : String} {cc : ByteArray} {d : Nat} {ini : Bool} {m : ml_M} {pc pc' : Nat} {lv : List (Nat × ml_X)} {st : List ml_X} {f : Fin 4} {x : Nat} (hd : ml_d cc pc (.aload_n f) 1 pc') (j : Nat) (hk : lv[j]? = some ((f : Nat), ml_r x)) (k : ml_V E own cc d ini m pc' lv (ml_r x :: st)) : ml_V E own cc d ini m pc lv st := by
  obtain ⟨hd, rfl⟩ := hd
  refine k.same fun C H locs ls a b hH hl kk => ?_
  obtain ⟨p, l, e, R, s, args, below, meth, c, Q, hW, hR, hx, hb, hml, hown, hts, hst, hin⟩ := C
  rw [hW] at kk ⊢
  have h9 := lv_at hl _ (ml_lv_at hk)
  by_cases hz : x = 0
  · subst hz
    exact lv_aload_nN hx hb hd rfl h9 kk
  · have e9 : ml_val (ml_b E) (ml_r x) = .ref (ml_b E + x) := if_neg hz
    have kk : W p l e R s (ml_em E) args below meth c H locs a b Q (F0 (ml_em E) (pc + 1) ls (ml_val (ml_b E) (ml_r x) :: ml_sv (ml_b E) st)) := kk
    rw [e9] at h9 kk
    exact lv_aload_n hx hb hd rfl h9 kk
theorem ml_aload {E : ml_E} {own : String} {cc : ByteArray} {d : Nat} {ini : Bool} {m : ml_M} {pc pc' : Nat} {lv : List (Nat × ml_X)} {st : List ml_X} {i : Nat} {x : Nat} (hd : ml_d cc pc (.aload i) 2 pc') (j : Nat) (hk : lv[j]? = some (i, ml_r x)) (k : ml_V E own cc d ini m pc' lv (ml_r x :: st)) : ml_V E own cc d ini m pc lv st := by
  obtain ⟨hd, rfl⟩ := hd
  refine k.same fun C H locs ls a b hH hl kk => ?_
  obtain ⟨p, l, e, R, s, args, below, meth, c, Q, hW, hR, hx, hb, hml, hown, hts, hst, hin⟩ := C
  rw [hW] at kk ⊢
  have h9 := lv_at hl _ (ml_lv_at hk)
  by_cases hz : x = 0
  · subst hz
    exact lv_aloadN hx hb hd h9 kk
  · have e9 : ml_val (ml_b E) (ml_r x) = .ref (ml_b E + x) := if_neg hz
    have kk : W p l e R s (ml_em E) args below meth c H locs a b Q (F0 (ml_em E) (pc + 2) ls (ml_val (ml_b E) (ml_r x) :: ml_sv (ml_b E) st)) := kk
    rw [e9] at h9 kk
    exact lv_aload hx hb hd h9 kk
theorem ml_iadd {E : ml_E} {own : String} {cc : ByteArray} {d : Nat} {ini : Bool} {m : ml_M} {pc pc' : Nat} {lv : List (Nat × ml_X)} {st : List ml_X} {x y : Int32} (hd : ml_d cc pc .iadd 1 pc') (k : ml_V E own cc d ini m pc' lv (ml_i (x + y) :: st)) : ml_V E own cc d ini m pc lv (ml_i y :: ml_i x :: st) := by
  obtain ⟨hd, rfl⟩ := hd
  refine k.same fun C H locs ls a b hH hl kk => ?_
  obtain ⟨p, l, e, R, s, args, below, meth, c, Q, hW, hR, hx, hb, hml, hown, hts, hst, hin⟩ := C
  rw [hW] at kk ⊢
  exact lv_iadd hx hb hd kk
theorem ml_isub {E : ml_E} {own : String} {cc : ByteArray} {d : Nat} {ini : Bool} {m : ml_M} {pc pc' : Nat} {lv : List (Nat × ml_X)} {st : List ml_X} {x y : Int32} (hd : ml_d cc pc .isub 1 pc') (k : ml_V E own cc d ini m pc' lv (ml_i (x - y) :: st)) : ml_V E own cc d ini m pc lv (ml_i y :: ml_i x :: st) := by
  obtain ⟨hd, rfl⟩ := hd
  refine k.same fun C H locs ls a b hH hl kk => ?_
  obtain ⟨p, l, e, R, s, args, below, meth, c, Q, hW, hR, hx, hb, hml, hown, hts, hst, hin⟩ := C
  rw [hW] at kk ⊢
  exact lv_isub hx hb hd kk
theorem ml_imul {E : ml_E} {own : String} {cc : ByteArray} {d : Nat} {ini : Bool} {m : ml_M} {pc pc' : Nat} {lv : List (Nat × ml_X)} {st : List ml_X} {x y : Int32} (hd : ml_d cc pc .imul 1 pc') (k : ml_V E own cc d ini m pc' lv (ml_i (x * y) :: st)) : ml_V E own cc d ini m pc lv (ml_i y :: ml_i x :: st) := by
  obtain ⟨hd, rfl⟩ := hd
  refine k.same fun C H locs ls a b hH hl kk => ?_
  obtain ⟨p, l, e, R, s, args, below, meth, c, Q, hW, hR, hx, hb, hml, hown, hts, hst, hin⟩ := C
  rw [hW] at kk ⊢
  exact lv_imul hx hb hd kk
theorem ml_iand {E : ml_E} {own : String} {cc : ByteArray} {d : Nat} {ini : Bool} {m : ml_M} {pc pc' : Nat} {lv : List (Nat × ml_X)} {st : List ml_X} {x y : Int32} (hd : ml_d cc pc .iand 1 pc') (k : ml_V E own cc d ini m pc' lv (ml_i (x &&& y) :: st)) : ml_V E own cc d ini m pc lv (ml_i y :: ml_i x :: st) := by
  obtain ⟨hd, rfl⟩ := hd
  refine k.same fun C H locs ls a b hH hl kk => ?_
  obtain ⟨p, l, e, R, s, args, below, meth, c, Q, hW, hR, hx, hb, hml, hown, hts, hst, hin⟩ := C
  rw [hW] at kk ⊢
  exact lv_iand hx hb hd kk
theorem ml_ior {E : ml_E} {own : String} {cc : ByteArray} {d : Nat} {ini : Bool} {m : ml_M} {pc pc' : Nat} {lv : List (Nat × ml_X)} {st : List ml_X} {x y : Int32} (hd : ml_d cc pc .ior 1 pc') (k : ml_V E own cc d ini m pc' lv (ml_i (x ||| y) :: st)) : ml_V E own cc d ini m pc lv (ml_i y :: ml_i x :: st) := by
  obtain ⟨hd, rfl⟩ := hd
  refine k.same fun C H locs ls a b hH hl kk => ?_
  obtain ⟨p, l, e, R, s, args, below, meth, c, Q, hW, hR, hx, hb, hml, hown, hts, hst, hin⟩ := C
  rw [hW] at kk ⊢
  exact lv_ior hx hb hd kk
theorem ml_ixor {E : ml_E} {own : String} {cc : ByteArray} {d : Nat} {ini : Bool} {m : ml_M} {pc pc' : Nat} {lv : List (Nat × ml_X)} {st : List ml_X} {x y : Int32} (hd : ml_d cc pc .ixor 1 pc') (k : ml_V E own cc d ini m pc' lv (ml_i (x ^^^ y) :: st)) : ml_V E own cc d ini m pc lv (ml_i y :: ml_i x :: st) := by
  obtain ⟨hd, rfl⟩ := hd
  refine k.same fun C H locs ls a b hH hl kk => ?_
  obtain ⟨p, l, e, R, s, args, below, meth, c, Q, hW, hR, hx, hb, hml, hown, hts, hst, hin⟩ := C
  rw [hW] at kk ⊢
  exact lv_ixor hx hb hd kk
theorem ml_ishl {E : ml_E} {own : String} {cc : ByteArray} {d : Nat} {ini : Bool} {m : ml_M} {pc pc' : Nat} {lv : List (Nat × ml_X)} {st : List ml_X} {x y : Int32} (hd : ml_d cc pc .ishl 1 pc') (k : ml_V E own cc d ini m pc' lv (ml_i (x <<< (y &&& 31)) :: st)) : ml_V E own cc d ini m pc lv (ml_i y :: ml_i x :: st) := by
  obtain ⟨hd, rfl⟩ := hd
  refine k.same fun C H locs ls a b hH hl kk => ?_
  obtain ⟨p, l, e, R, s, args, below, meth, c, Q, hW, hR, hx, hb, hml, hown, hts, hst, hin⟩ := C
  rw [hW] at kk ⊢
  exact lv_ishl hx hb hd kk
theorem ml_ishr {E : ml_E} {own : String} {cc : ByteArray} {d : Nat} {ini : Bool} {m : ml_M} {pc pc' : Nat} {lv : List (Nat × ml_X)} {st : List ml_X} {x y : Int32} (hd : ml_d cc pc .ishr 1 pc') (k : ml_V E own cc d ini m pc' lv (ml_i (x >>> (y &&& 31)) :: st)) : ml_V E own cc d ini m pc lv (ml_i y :: ml_i x :: st) := by
  obtain ⟨hd, rfl⟩ := hd
  refine k.same fun C H locs ls a b hH hl kk => ?_
  obtain ⟨p, l, e, R, s, args, below, meth, c, Q, hW, hR, hx, hb, hml, hown, hts, hst, hin⟩ := C
  rw [hW] at kk ⊢
  exact lv_ishr hx hb hd kk
theorem ml_ineg {E : ml_E} {own : String} {cc : ByteArray} {d : Nat} {ini : Bool} {m : ml_M} {pc pc' : Nat} {lv : List (Nat × ml_X)} {st : List ml_X} {x : Int32} (hd : ml_d cc pc .ineg 1 pc') (k : ml_V E own cc d ini m pc' lv (ml_i (-x) :: st)) : ml_V E own cc d ini m pc lv (ml_i x :: st) := by
  obtain ⟨hd, rfl⟩ := hd
  refine k.same fun C H locs ls a b hH hl kk => ?_
  obtain ⟨p, l, e, R, s, args, below, meth, c, Q, hW, hR, hx, hb, hml, hown, hts, hst, hin⟩ := C
  rw [hW] at kk ⊢
  exact lv_ineg hx hb hd kk
theorem ml_idiv {E : ml_E} {own : String} {cc : ByteArray} {d : Nat} {ini : Bool} {m : ml_M} {pc pc' : Nat} {lv : List (Nat × ml_X)} {st : List ml_X} {x y : Int32} (hd : ml_d cc pc .idiv 1 pc') (hne : ¬ y = 0) (k : ml_V E own cc d ini m pc' lv (ml_i (x / y) :: st)) : ml_V E own cc d ini m pc lv (ml_i y :: ml_i x :: st) := by
  obtain ⟨hd, rfl⟩ := hd
  refine k.same fun C H locs ls a b hH hl kk => ?_
  obtain ⟨p, l, e, R, s, args, below, meth, c, Q, hW, hR, hx, hb, hml, hown, hts, hst, hin⟩ := C
  rw [hW] at kk ⊢
  exact lv_idiv hx hb hd hne kk
theorem ml_irem {E : ml_E} {own : String} {cc : ByteArray} {d : Nat} {ini : Bool} {m : ml_M} {pc pc' : Nat} {lv : List (Nat × ml_X)} {st : List ml_X} {x y : Int32} (hd : ml_d cc pc .irem 1 pc') (hne : ¬ y = 0) (k : ml_V E own cc d ini m pc' lv (ml_i (x - x / y * y) :: st)) : ml_V E own cc d ini m pc lv (ml_i y :: ml_i x :: st) := by
  obtain ⟨hd, rfl⟩ := hd
  refine k.same fun C H locs ls a b hH hl kk => ?_
  obtain ⟨p, l, e, R, s, args, below, meth, c, Q, hW, hR, hx, hb, hml, hown, hts, hst, hin⟩ := C
  rw [hW] at kk ⊢
  exact lv_irem hx hb hd hne kk
theorem ml_iushr {E : ml_E} {own : String} {cc : ByteArray} {d : Nat} {ini : Bool} {m : ml_M} {pc pc' : Nat} {lv : List (Nat × ml_X)} {st : List ml_X} {x y : Int32} (hd : ml_d cc pc .iushr 1 pc') (k : ml_V E own cc d ini m pc' lv (ml_i (x.toUInt32 >>> (y.toUInt32 &&& Int32.toUInt32 31)).toInt32 :: st)) : ml_V E own cc d ini m pc lv (ml_i y :: ml_i x :: st) := by
  obtain ⟨hd, rfl⟩ := hd
  refine k.same fun C H locs ls a b hH hl kk => ?_
  obtain ⟨p, l, e, R, s, args, below, meth, c, Q, hW, hR, hx, hb, hml, hown, hts, hst, hin⟩ := C
  rw [hW] at kk ⊢
  exact lv_iushr hx hb hd rfl kk
theorem ml_ladd {E : ml_E} {own : String} {cc : ByteArray} {d : Nat} {ini : Bool} {m : ml_M} {pc pc' : Nat} {lv : List (Nat × ml_X)} {st : List ml_X} {x y : Int64} (hd : ml_d cc pc .ladd 1 pc') (k : ml_V E own cc d ini m pc' lv (ml_l (x + y) :: st)) : ml_V E own cc d ini m pc lv (ml_l y :: ml_l x :: st) := by
  obtain ⟨hd, rfl⟩ := hd
  refine k.same fun C H locs ls a b hH hl kk => ?_
  obtain ⟨p, l, e, R, s, args, below, meth, c, Q, hW, hR, hx, hb, hml, hown, hts, hst, hin⟩ := C
  rw [hW] at kk ⊢
  exact lv_ladd hx hb hd kk
theorem ml_lmul {E : ml_E} {own : String} {cc : ByteArray} {d : Nat} {ini : Bool} {m : ml_M} {pc pc' : Nat} {lv : List (Nat × ml_X)} {st : List ml_X} {x y : Int64} (hd : ml_d cc pc .lmul 1 pc') (k : ml_V E own cc d ini m pc' lv (ml_l (x * y) :: st)) : ml_V E own cc d ini m pc lv (ml_l y :: ml_l x :: st) := by
  obtain ⟨hd, rfl⟩ := hd
  refine k.same fun C H locs ls a b hH hl kk => ?_
  obtain ⟨p, l, e, R, s, args, below, meth, c, Q, hW, hR, hx, hb, hml, hown, hts, hst, hin⟩ := C
  rw [hW] at kk ⊢
  exact lv_lmul hx hb hd kk
theorem ml_ldiv {E : ml_E} {own : String} {cc : ByteArray} {d : Nat} {ini : Bool} {m : ml_M} {pc pc' : Nat} {lv : List (Nat × ml_X)} {st : List ml_X} {x y : Int64} (hd : ml_d cc pc .ldiv 1 pc') (hne : ¬ y = 0) (k : ml_V E own cc d ini m pc' lv (ml_l (x / y) :: st)) : ml_V E own cc d ini m pc lv (ml_l y :: ml_l x :: st) := by
  obtain ⟨hd, rfl⟩ := hd
  refine k.same fun C H locs ls a b hH hl kk => ?_
  obtain ⟨p, l, e, R, s, args, below, meth, c, Q, hW, hR, hx, hb, hml, hown, hts, hst, hin⟩ := C
  rw [hW] at kk ⊢
  exact lv_ldiv hx hb hd hne kk
theorem ml_lcmp {E : ml_E} {own : String} {cc : ByteArray} {d : Nat} {ini : Bool} {m : ml_M} {pc pc' : Nat} {lv : List (Nat × ml_X)} {st : List ml_X} {x y : Int64} (hd : ml_d cc pc .lcmp 1 pc') (k : ml_V E own cc d ini m pc' lv (ml_i (lg_cmp x y) :: st)) : ml_V E own cc d ini m pc lv (ml_l y :: ml_l x :: st) := by
  obtain ⟨hd, rfl⟩ := hd
  refine k.same fun C H locs ls a b hH hl kk => ?_
  obtain ⟨p, l, e, R, s, args, below, meth, c, Q, hW, hR, hx, hb, hml, hown, hts, hst, hin⟩ := C
  rw [hW] at kk ⊢
  exact W.lcmp hx hb hd kk
theorem ml_i2l {E : ml_E} {own : String} {cc : ByteArray} {d : Nat} {ini : Bool} {m : ml_M} {pc pc' : Nat} {lv : List (Nat × ml_X)} {st : List ml_X} {x : Int32} (hd : ml_d cc pc .i2l 1 pc') (k : ml_V E own cc d ini m pc' lv (ml_l x.toInt64 :: st)) : ml_V E own cc d ini m pc lv (ml_i x :: st) := by
  obtain ⟨hd, rfl⟩ := hd
  refine k.same fun C H locs ls a b hH hl kk => ?_
  obtain ⟨p, l, e, R, s, args, below, meth, c, Q, hW, hR, hx, hb, hml, hown, hts, hst, hin⟩ := C
  rw [hW] at kk ⊢
  exact lv_i2l hx hb hd rfl kk
theorem ml_l2i {E : ml_E} {own : String} {cc : ByteArray} {d : Nat} {ini : Bool} {m : ml_M} {pc pc' : Nat} {lv : List (Nat × ml_X)} {st : List ml_X} {x : Int64} (hd : ml_d cc pc .l2i 1 pc') (k : ml_V E own cc d ini m pc' lv (ml_i x.toInt32 :: st)) : ml_V E own cc d ini m pc lv (ml_l x :: st) := by
  obtain ⟨hd, rfl⟩ := hd
  refine k.same fun C H locs ls a b hH hl kk => ?_
  obtain ⟨p, l, e, R, s, args, below, meth, c, Q, hW, hR, hx, hb, hml, hown, hts, hst, hin⟩ := C
  rw [hW] at kk ⊢
  exact lv_l2i hx hb hd rfl kk
theorem ml_i2b {E : ml_E} {own : String} {cc : ByteArray} {d : Nat} {ini : Bool} {m : ml_M} {pc pc' : Nat} {lv : List (Nat × ml_X)} {st : List ml_X} {x : Int32} (hd : ml_d cc pc .i2b 1 pc') (k : ml_V E own cc d ini m pc' lv (ml_i x.toInt8.toInt32 :: st)) : ml_V E own cc d ini m pc lv (ml_i x :: st) := by
  obtain ⟨hd, rfl⟩ := hd
  refine k.same fun C H locs ls a b hH hl kk => ?_
  obtain ⟨p, l, e, R, s, args, below, meth, c, Q, hW, hR, hx, hb, hml, hown, hts, hst, hin⟩ := C
  rw [hW] at kk ⊢
  exact lv_i2b hx hb hd rfl kk
theorem ml_ldc2 {E : ml_E} {own : String} {cc : ByteArray} {d : Nat} {ini : Bool} {m : ml_M} {pc pc' : Nat} {lv : List (Nat × ml_X)} {st : List ml_X} {i : Nat} {v : Int64} (hd : ml_d cc pc (.ldc2_w i) 3 pc') (hw : Cond.constantLong own i v ∈ ml_TB) (k : ml_V E own cc d ini m pc' lv (ml_l v :: st)) : ml_V E own cc d ini m pc lv st := by
  obtain ⟨hd, rfl⟩ := hd
  refine k.same fun C H locs ls a b hH hl kk => ?_
  obtain ⟨p, l, e, R, s, args, below, meth, c, Q, hW, hR, hx, hb, hml, hown, hts, hst, hin⟩ := C
  rw [hW] at kk ⊢
  exact lv_ldc2 hx hb hown (hts _ hw) hd kk
theorem ml_ldcw {E : ml_E} {own : String} {cc : ByteArray} {d : Nat} {ini : Bool} {m : ml_M} {pc pc' : Nat} {lv : List (Nat × ml_X)} {st : List ml_X} {i : Nat} {v : Int32} (hd : ml_d cc pc (.ldc_w i) 3 pc') (hw : Cond.constant own i v ∈ ml_TB) (k : ml_V E own cc d ini m pc' lv (ml_i v :: st)) : ml_V E own cc d ini m pc lv st := by
  obtain ⟨hd, rfl⟩ := hd
  refine k.same fun C H locs ls a b hH hl kk => ?_
  obtain ⟨p, l, e, R, s, args, below, meth, c, Q, hW, hR, hx, hb, hml, hown, hts, hst, hin⟩ := C
  rw [hW] at kk ⊢
  exact lv_ldcw hx hb hown (hts _ hw) hd kk
theorem ml_dup {E : ml_E} {own : String} {cc : ByteArray} {d : Nat} {ini : Bool} {m : ml_M} {pc pc' : Nat} {lv : List (Nat × ml_X)} {st : List ml_X} {x : ml_X} (hd : ml_d cc pc .dup 1 pc') (h1 : ml_cat x = 1) (k : ml_V E own cc d ini m pc' lv (x :: x :: st)) : ml_V E own cc d ini m pc lv (x :: st) := by
  obtain ⟨hd, rfl⟩ := hd
  refine k.same fun C H locs ls a b hH hl kk => ?_
  obtain ⟨p, l, e, R, s, args, below, meth, c, Q, hW, hR, hx, hb, hml, hown, hts, hst, hin⟩ := C
  rw [hW] at kk ⊢
  exact lv_dup hx hb hd (by rw [ml_cat_val]; assumption) kk
theorem ml_dup_x1 {E : ml_E} {own : String} {cc : ByteArray} {d : Nat} {ini : Bool} {m : ml_M} {pc pc' : Nat} {lv : List (Nat × ml_X)} {st : List ml_X} {x y : ml_X} (hd : ml_d cc pc .dup_x1 1 pc') (h1 : ml_cat x = 1) (h2 : ml_cat y = 1) (k : ml_V E own cc d ini m pc' lv (x :: y :: x :: st)) : ml_V E own cc d ini m pc lv (x :: y :: st) := by
  obtain ⟨hd, rfl⟩ := hd
  refine k.same fun C H locs ls a b hH hl kk => ?_
  obtain ⟨p, l, e, R, s, args, below, meth, c, Q, hW, hR, hx, hb, hml, hown, hts, hst, hin⟩ := C
  rw [hW] at kk ⊢
  exact lv_dup_x1 hx hb hd (by rw [ml_cat_val]; assumption) (by rw [ml_cat_val]; assumption) kk
theorem ml_dup2 {E : ml_E} {own : String} {cc : ByteArray} {d : Nat} {ini : Bool} {m : ml_M} {pc pc' : Nat} {lv : List (Nat × ml_X)} {st : List ml_X} {x y : ml_X} (hd : ml_d cc pc .dup2 1 pc') (h1 : ml_cat x = 1) (h2 : ml_cat y = 1) (k : ml_V E own cc d ini m pc' lv (x :: y :: x :: y :: st)) : ml_V E own cc d ini m pc lv (x :: y :: st) := by
  obtain ⟨hd, rfl⟩ := hd
  refine k.same fun C H locs ls a b hH hl kk => ?_
  obtain ⟨p, l, e, R, s, args, below, meth, c, Q, hW, hR, hx, hb, hml, hown, hts, hst, hin⟩ := C
  rw [hW] at kk ⊢
  exact lv_dup2_11 hx hb hd (by rw [ml_cat_val]; assumption) (by rw [ml_cat_val]; assumption) kk
theorem ml_goto {E : ml_E} {own : String} {cc : ByteArray} {d : Nat} {ini : Bool} {m : ml_M} {pc pc' tgt : Nat} {lv : List (Nat × ml_X)} {st : List ml_X} (hd : ml_j cc pc .goto tgt pc') (k : ml_V E own cc d ini m tgt lv st) : ml_V E own cc d ini m pc lv st := by
  obtain ⟨off, hd, ht, -⟩ := hd
  refine k.same fun C H locs ls a b hH hl kk => ?_
  obtain ⟨p, l, e, R, s, args, below, meth, c, Q, hW, hR, hx, hb, hml, hown, hts, hst, hin⟩ := C
  rw [hW] at kk ⊢
  exact lv_goto hx hb hd ht kk
theorem ml_if_eq {E : ml_E} {own : String} {cc : ByteArray} {d : Nat} {ini : Bool} {m : ml_M} {pc pc' tgt : Nat} {lv : List (Nat × ml_X)} {st : List ml_X} {x : Int32} (hd : ml_j cc pc (.ifCond .eq) tgt pc') {α : Type} {r : α} {A B : Option α} {D : Decidable (x = 0)} (h : @ite (Option α) (x = 0) D A B = some r) (kt : x = 0 → A = some r → ml_V E own cc d ini m tgt lv st) (kf : ¬ x = 0 → B = some r → ml_V E own cc d ini m pc' lv st) : ml_V E own cc d ini m pc lv (ml_i x :: st) := by
  obtain ⟨off, hd, ht, rfl⟩ := hd
  by_cases hz : x = 0
  · rw [if_pos hz] at h
    refine (kt hz h).same fun C H locs ls a b hH hl kk => ?_
    obtain ⟨p, l, e, R, s, args, below, meth, c, Q, hW, hR, hx, hb, hml, hown, hts, hst, hin⟩ := C
    rw [hW] at kk ⊢
    exact lv_if_eq hx hb hd ht (fun _ => kk) (fun z => absurd hz z)
  · rw [if_neg hz] at h
    refine (kf hz h).same fun C H locs ls a b hH hl kk => ?_
    obtain ⟨p, l, e, R, s, args, below, meth, c, Q, hW, hR, hx, hb, hml, hown, hts, hst, hin⟩ := C
    rw [hW] at kk ⊢
    exact lv_if_eq hx hb hd ht (fun z => absurd z hz) (fun _ => kk)
theorem ml_if_ne {E : ml_E} {own : String} {cc : ByteArray} {d : Nat} {ini : Bool} {m : ml_M} {pc pc' tgt : Nat} {lv : List (Nat × ml_X)} {st : List ml_X} {x : Int32} (hd : ml_j cc pc (.ifCond .ne) tgt pc') {α : Type} {r : α} {A B : Option α} {D : Decidable (x = 0)} (h : @ite (Option α) (x = 0) D A B = some r) (kt : ¬ x = 0 → B = some r → ml_V E own cc d ini m tgt lv st) (kf : x = 0 → A = some r → ml_V E own cc d ini m pc' lv st) : ml_V E own cc d ini m pc lv (ml_i x :: st) := by
  obtain ⟨off, hd, ht, rfl⟩ := hd
  by_cases hz : x = 0
  · rw [if_pos hz] at h
    refine (kf hz h).same fun C H locs ls a b hH hl kk => ?_
    obtain ⟨p, l, e, R, s, args, below, meth, c, Q, hW, hR, hx, hb, hml, hown, hts, hst, hin⟩ := C
    rw [hW] at kk ⊢
    exact lv_if_ne hx hb hd ht (fun z => absurd hz z) (fun _ => kk)
  · rw [if_neg hz] at h
    refine (kt hz h).same fun C H locs ls a b hH hl kk => ?_
    obtain ⟨p, l, e, R, s, args, below, meth, c, Q, hW, hR, hx, hb, hml, hown, hts, hst, hin⟩ := C
    rw [hW] at kk ⊢
    exact lv_if_ne hx hb hd ht (fun _ => kk) (fun z => absurd z hz)
theorem ml_if_lt {E : ml_E} {own : String} {cc : ByteArray} {d : Nat} {ini : Bool} {m : ml_M} {pc pc' tgt : Nat} {lv : List (Nat × ml_X)} {st : List ml_X} {x : Int32} (hd : ml_j cc pc (.ifCond .lt) tgt pc') {α : Type} {r : α} {A B : Option α} {D : Decidable (x < 0)} (h : @ite (Option α) (x < 0) D A B = some r) (kt : x < 0 → A = some r → ml_V E own cc d ini m tgt lv st) (kf : ¬ x < 0 → B = some r → ml_V E own cc d ini m pc' lv st) : ml_V E own cc d ini m pc lv (ml_i x :: st) := by
  obtain ⟨off, hd, ht, rfl⟩ := hd
  by_cases hz : x < 0
  · rw [if_pos hz] at h
    refine (kt hz h).same fun C H locs ls a b hH hl kk => ?_
    obtain ⟨p, l, e, R, s, args, below, meth, c, Q, hW, hR, hx, hb, hml, hown, hts, hst, hin⟩ := C
    rw [hW] at kk ⊢
    exact lv_if_lt hx hb hd ht (fun _ => kk) (fun z => absurd hz z)
  · rw [if_neg hz] at h
    refine (kf hz h).same fun C H locs ls a b hH hl kk => ?_
    obtain ⟨p, l, e, R, s, args, below, meth, c, Q, hW, hR, hx, hb, hml, hown, hts, hst, hin⟩ := C
    rw [hW] at kk ⊢
    exact lv_if_lt hx hb hd ht (fun z => absurd z hz) (fun _ => kk)
theorem ml_if_ge {E : ml_E} {own : String} {cc : ByteArray} {d : Nat} {ini : Bool} {m : ml_M} {pc pc' tgt : Nat} {lv : List (Nat × ml_X)} {st : List ml_X} {x : Int32} (hd : ml_j cc pc (.ifCond .ge) tgt pc') {α : Type} {r : α} {A B : Option α} {D : Decidable (0 ≤ x)} (h : @ite (Option α) (0 ≤ x) D A B = some r) (kt : 0 ≤ x → A = some r → ml_V E own cc d ini m tgt lv st) (kf : ¬ 0 ≤ x → B = some r → ml_V E own cc d ini m pc' lv st) : ml_V E own cc d ini m pc lv (ml_i x :: st) := by
  obtain ⟨off, hd, ht, rfl⟩ := hd
  by_cases hz : 0 ≤ x
  · rw [if_pos hz] at h
    refine (kt hz h).same fun C H locs ls a b hH hl kk => ?_
    obtain ⟨p, l, e, R, s, args, below, meth, c, Q, hW, hR, hx, hb, hml, hown, hts, hst, hin⟩ := C
    rw [hW] at kk ⊢
    exact lv_if_ge hx hb hd ht (fun _ => kk) (fun z => absurd hz z)
  · rw [if_neg hz] at h
    refine (kf hz h).same fun C H locs ls a b hH hl kk => ?_
    obtain ⟨p, l, e, R, s, args, below, meth, c, Q, hW, hR, hx, hb, hml, hown, hts, hst, hin⟩ := C
    rw [hW] at kk ⊢
    exact lv_if_ge hx hb hd ht (fun z => absurd z hz) (fun _ => kk)
theorem ml_if_gt {E : ml_E} {own : String} {cc : ByteArray} {d : Nat} {ini : Bool} {m : ml_M} {pc pc' tgt : Nat} {lv : List (Nat × ml_X)} {st : List ml_X} {x : Int32} (hd : ml_j cc pc (.ifCond .gt) tgt pc') {α : Type} {r : α} {A B : Option α} {D : Decidable (0 < x)} (h : @ite (Option α) (0 < x) D A B = some r) (kt : 0 < x → A = some r → ml_V E own cc d ini m tgt lv st) (kf : ¬ 0 < x → B = some r → ml_V E own cc d ini m pc' lv st) : ml_V E own cc d ini m pc lv (ml_i x :: st) := by
  obtain ⟨off, hd, ht, rfl⟩ := hd
  by_cases hz : 0 < x
  · rw [if_pos hz] at h
    refine (kt hz h).same fun C H locs ls a b hH hl kk => ?_
    obtain ⟨p, l, e, R, s, args, below, meth, c, Q, hW, hR, hx, hb, hml, hown, hts, hst, hin⟩ := C
    rw [hW] at kk ⊢
    exact lv_if_gt hx hb hd ht (fun _ => kk) (fun z => absurd hz z)
  · rw [if_neg hz] at h
    refine (kf hz h).same fun C H locs ls a b hH hl kk => ?_
    obtain ⟨p, l, e, R, s, args, below, meth, c, Q, hW, hR, hx, hb, hml, hown, hts, hst, hin⟩ := C
    rw [hW] at kk ⊢
    exact lv_if_gt hx hb hd ht (fun z => absurd z hz) (fun _ => kk)
theorem ml_if_le {E : ml_E} {own : String} {cc : ByteArray} {d : Nat} {ini : Bool} {m : ml_M} {pc pc' tgt : Nat} {lv : List (Nat × ml_X)} {st : List ml_X} {x : Int32} (hd : ml_j cc pc (.ifCond .le) tgt pc') {α : Type} {r : α} {A B : Option α} {D : Decidable (x ≤ 0)} (h : @ite (Option α) (x ≤ 0) D A B = some r) (kt : x ≤ 0 → A = some r → ml_V E own cc d ini m tgt lv st) (kf : ¬ x ≤ 0 → B = some r → ml_V E own cc d ini m pc' lv st) : ml_V E own cc d ini m pc lv (ml_i x :: st) := by
  obtain ⟨off, hd, ht, rfl⟩ := hd
  by_cases hz : x ≤ 0
  · rw [if_pos hz] at h
    refine (kt hz h).same fun C H locs ls a b hH hl kk => ?_
    obtain ⟨p, l, e, R, s, args, below, meth, c, Q, hW, hR, hx, hb, hml, hown, hts, hst, hin⟩ := C
    rw [hW] at kk ⊢
    exact lv_if_le hx hb hd ht (fun _ => kk) (fun z => absurd hz z)
  · rw [if_neg hz] at h
    refine (kf hz h).same fun C H locs ls a b hH hl kk => ?_
    obtain ⟨p, l, e, R, s, args, below, meth, c, Q, hW, hR, hx, hb, hml, hown, hts, hst, hin⟩ := C
    rw [hW] at kk ⊢
    exact lv_if_le hx hb hd ht (fun z => absurd z hz) (fun _ => kk)
theorem ml_icmp_eq {E : ml_E} {own : String} {cc : ByteArray} {d : Nat} {ini : Bool} {m : ml_M} {pc pc' tgt : Nat} {lv : List (Nat × ml_X)} {st : List ml_X} {x y : Int32} (hd : ml_j cc pc (.if_icmp .eq) tgt pc') {α : Type} {r : α} {A B : Option α} {D : Decidable (x = y)} (h : @ite (Option α) (x = y) D A B = some r) (kt : x = y → A = some r → ml_V E own cc d ini m tgt lv st) (kf : ¬ x = y → B = some r → ml_V E own cc d ini m pc' lv st) : ml_V E own cc d ini m pc lv (ml_i y :: ml_i x :: st) := by
  obtain ⟨off, hd, ht, rfl⟩ := hd
  by_cases hz : x = y
  · rw [if_pos hz] at h
    refine (kt hz h).same fun C H locs ls a b hH hl kk => ?_
    obtain ⟨p, l, e, R, s, args, below, meth, c, Q, hW, hR, hx, hb, hml, hown, hts, hst, hin⟩ := C
    rw [hW] at kk ⊢
    exact lv_icmp_eq hx hb hd ht (fun _ => kk) (fun z => absurd hz z)
  · rw [if_neg hz] at h
    refine (kf hz h).same fun C H locs ls a b hH hl kk => ?_
    obtain ⟨p, l, e, R, s, args, below, meth, c, Q, hW, hR, hx, hb, hml, hown, hts, hst, hin⟩ := C
    rw [hW] at kk ⊢
    exact lv_icmp_eq hx hb hd ht (fun z => absurd z hz) (fun _ => kk)
theorem ml_icmp_ne {E : ml_E} {own : String} {cc : ByteArray} {d : Nat} {ini : Bool} {m : ml_M} {pc pc' tgt : Nat} {lv : List (Nat × ml_X)} {st : List ml_X} {x y : Int32} (hd : ml_j cc pc (.if_icmp .ne) tgt pc') {α : Type} {r : α} {A B : Option α} {D : Decidable (x = y)} (h : @ite (Option α) (x = y) D A B = some r) (kt : ¬ x = y → B = some r → ml_V E own cc d ini m tgt lv st) (kf : x = y → A = some r → ml_V E own cc d ini m pc' lv st) : ml_V E own cc d ini m pc lv (ml_i y :: ml_i x :: st) := by
  obtain ⟨off, hd, ht, rfl⟩ := hd
  by_cases hz : x = y
  · rw [if_pos hz] at h
    refine (kf hz h).same fun C H locs ls a b hH hl kk => ?_
    obtain ⟨p, l, e, R, s, args, below, meth, c, Q, hW, hR, hx, hb, hml, hown, hts, hst, hin⟩ := C
    rw [hW] at kk ⊢
    exact lv_icmp_ne hx hb hd ht (fun z => absurd hz z) (fun _ => kk)
  · rw [if_neg hz] at h
    refine (kt hz h).same fun C H locs ls a b hH hl kk => ?_
    obtain ⟨p, l, e, R, s, args, below, meth, c, Q, hW, hR, hx, hb, hml, hown, hts, hst, hin⟩ := C
    rw [hW] at kk ⊢
    exact lv_icmp_ne hx hb hd ht (fun _ => kk) (fun z => absurd z hz)
theorem ml_icmp_lt {E : ml_E} {own : String} {cc : ByteArray} {d : Nat} {ini : Bool} {m : ml_M} {pc pc' tgt : Nat} {lv : List (Nat × ml_X)} {st : List ml_X} {x y : Int32} (hd : ml_j cc pc (.if_icmp .lt) tgt pc') {α : Type} {r : α} {A B : Option α} {D : Decidable (x < y)} (h : @ite (Option α) (x < y) D A B = some r) (kt : x < y → A = some r → ml_V E own cc d ini m tgt lv st) (kf : ¬ x < y → B = some r → ml_V E own cc d ini m pc' lv st) : ml_V E own cc d ini m pc lv (ml_i y :: ml_i x :: st) := by
  obtain ⟨off, hd, ht, rfl⟩ := hd
  by_cases hz : x < y
  · rw [if_pos hz] at h
    refine (kt hz h).same fun C H locs ls a b hH hl kk => ?_
    obtain ⟨p, l, e, R, s, args, below, meth, c, Q, hW, hR, hx, hb, hml, hown, hts, hst, hin⟩ := C
    rw [hW] at kk ⊢
    exact lv_icmp_lt hx hb hd ht (fun _ => kk) (fun z => absurd hz z)
  · rw [if_neg hz] at h
    refine (kf hz h).same fun C H locs ls a b hH hl kk => ?_
    obtain ⟨p, l, e, R, s, args, below, meth, c, Q, hW, hR, hx, hb, hml, hown, hts, hst, hin⟩ := C
    rw [hW] at kk ⊢
    exact lv_icmp_lt hx hb hd ht (fun z => absurd z hz) (fun _ => kk)
theorem ml_icmp_ge {E : ml_E} {own : String} {cc : ByteArray} {d : Nat} {ini : Bool} {m : ml_M} {pc pc' tgt : Nat} {lv : List (Nat × ml_X)} {st : List ml_X} {x y : Int32} (hd : ml_j cc pc (.if_icmp .ge) tgt pc') {α : Type} {r : α} {A B : Option α} {D : Decidable (y ≤ x)} (h : @ite (Option α) (y ≤ x) D A B = some r) (kt : y ≤ x → A = some r → ml_V E own cc d ini m tgt lv st) (kf : ¬ y ≤ x → B = some r → ml_V E own cc d ini m pc' lv st) : ml_V E own cc d ini m pc lv (ml_i y :: ml_i x :: st) := by
  obtain ⟨off, hd, ht, rfl⟩ := hd
  by_cases hz : y ≤ x
  · rw [if_pos hz] at h
    refine (kt hz h).same fun C H locs ls a b hH hl kk => ?_
    obtain ⟨p, l, e, R, s, args, below, meth, c, Q, hW, hR, hx, hb, hml, hown, hts, hst, hin⟩ := C
    rw [hW] at kk ⊢
    exact lv_icmp_ge hx hb hd ht (fun _ => kk) (fun z => absurd hz z)
  · rw [if_neg hz] at h
    refine (kf hz h).same fun C H locs ls a b hH hl kk => ?_
    obtain ⟨p, l, e, R, s, args, below, meth, c, Q, hW, hR, hx, hb, hml, hown, hts, hst, hin⟩ := C
    rw [hW] at kk ⊢
    exact lv_icmp_ge hx hb hd ht (fun z => absurd z hz) (fun _ => kk)
theorem ml_icmp_gt {E : ml_E} {own : String} {cc : ByteArray} {d : Nat} {ini : Bool} {m : ml_M} {pc pc' tgt : Nat} {lv : List (Nat × ml_X)} {st : List ml_X} {x y : Int32} (hd : ml_j cc pc (.if_icmp .gt) tgt pc') {α : Type} {r : α} {A B : Option α} {D : Decidable (y < x)} (h : @ite (Option α) (y < x) D A B = some r) (kt : y < x → A = some r → ml_V E own cc d ini m tgt lv st) (kf : ¬ y < x → B = some r → ml_V E own cc d ini m pc' lv st) : ml_V E own cc d ini m pc lv (ml_i y :: ml_i x :: st) := by
  obtain ⟨off, hd, ht, rfl⟩ := hd
  by_cases hz : y < x
  · rw [if_pos hz] at h
    refine (kt hz h).same fun C H locs ls a b hH hl kk => ?_
    obtain ⟨p, l, e, R, s, args, below, meth, c, Q, hW, hR, hx, hb, hml, hown, hts, hst, hin⟩ := C
    rw [hW] at kk ⊢
    exact lv_icmp_gt hx hb hd ht (fun _ => kk) (fun z => absurd hz z)
  · rw [if_neg hz] at h
    refine (kf hz h).same fun C H locs ls a b hH hl kk => ?_
    obtain ⟨p, l, e, R, s, args, below, meth, c, Q, hW, hR, hx, hb, hml, hown, hts, hst, hin⟩ := C
    rw [hW] at kk ⊢
    exact lv_icmp_gt hx hb hd ht (fun z => absurd z hz) (fun _ => kk)
theorem ml_icmp_le {E : ml_E} {own : String} {cc : ByteArray} {d : Nat} {ini : Bool} {m : ml_M} {pc pc' tgt : Nat} {lv : List (Nat × ml_X)} {st : List ml_X} {x y : Int32} (hd : ml_j cc pc (.if_icmp .le) tgt pc') {α : Type} {r : α} {A B : Option α} {D : Decidable (x ≤ y)} (h : @ite (Option α) (x ≤ y) D A B = some r) (kt : x ≤ y → A = some r → ml_V E own cc d ini m tgt lv st) (kf : ¬ x ≤ y → B = some r → ml_V E own cc d ini m pc' lv st) : ml_V E own cc d ini m pc lv (ml_i y :: ml_i x :: st) := by
  obtain ⟨off, hd, ht, rfl⟩ := hd
  by_cases hz : x ≤ y
  · rw [if_pos hz] at h
    refine (kt hz h).same fun C H locs ls a b hH hl kk => ?_
    obtain ⟨p, l, e, R, s, args, below, meth, c, Q, hW, hR, hx, hb, hml, hown, hts, hst, hin⟩ := C
    rw [hW] at kk ⊢
    exact lv_icmp_le hx hb hd ht (fun _ => kk) (fun z => absurd hz z)
  · rw [if_neg hz] at h
    refine (kf hz h).same fun C H locs ls a b hH hl kk => ?_
    obtain ⟨p, l, e, R, s, args, below, meth, c, Q, hW, hR, hx, hb, hml, hown, hts, hst, hin⟩ := C
    rw [hW] at kk ⊢
    exact lv_icmp_le hx hb hd ht (fun z => absurd z hz) (fun _ => kk)
theorem ml_ifnull {E : ml_E} {own : String} {cc : ByteArray} {d : Nat} {ini : Bool} {m : ml_M} {pc pc' tgt : Nat} {lv : List (Nat × ml_X)} {st : List ml_X} {x : Nat} (hd : ml_j cc pc .ifnull tgt pc') {α : Type} {r : α} {A B : Option α} {D : Decidable (x = 0)} (h : @ite (Option α) (x = 0) D A B = some r) (kt : x = 0 → A = some r → ml_V E own cc d ini m tgt lv st) (kf : ¬ x = 0 → B = some r → ml_V E own cc d ini m pc' lv st) : ml_V E own cc d ini m pc lv (ml_r x :: st) := by
  obtain ⟨off, hd, ht, rfl⟩ := hd
  by_cases hz : x = 0
  · rw [if_pos hz] at h
    refine (kt hz h).same fun C H locs ls a b hH hl kk => ?_
    obtain ⟨p, l, e, R, s, args, below, meth, c, Q, hW, hR, hx, hb, hml, hown, hts, hst, hin⟩ := C
    rw [hW] at kk ⊢
    subst hz
    exact lv_ifnullN hx hb hd ht kk
  · rw [if_neg hz] at h
    refine (kf hz h).same fun C H locs ls a b hH hl kk => ?_
    obtain ⟨p, l, e, R, s, args, below, meth, c, Q, hW, hR, hx, hb, hml, hown, hts, hst, hin⟩ := C
    rw [hW] at kk ⊢
    have e9 : ml_val (ml_b E) (ml_r x) = .ref (ml_b E + x) := if_neg hz
    show W p l e R s (ml_em E) args below meth c H locs a b Q (F0 (ml_em E) pc ls (ml_val (ml_b E) (ml_r x) :: ml_sv (ml_b E) st))
    rw [e9]
    exact lv_ifnull hx hb hd kk
theorem ml_ifnonnull {E : ml_E} {own : String} {cc : ByteArray} {d : Nat} {ini : Bool} {m : ml_M} {pc pc' tgt : Nat} {lv : List (Nat × ml_X)} {st : List ml_X} {x : Nat} (hd : ml_j cc pc .ifnonnull tgt pc') {α : Type} {r : α} {A B : Option α} {D : Decidable (x = 0)} (h : @ite (Option α) (x = 0) D A B = some r) (kt : ¬ x = 0 → B = some r → ml_V E own cc d ini m tgt lv st) (kf : x = 0 → A = some r → ml_V E own cc d ini m pc' lv st) : ml_V E own cc d ini m pc lv (ml_r x :: st) := by
  obtain ⟨off, hd, ht, rfl⟩ := hd
  by_cases hz : x = 0
  · rw [if_pos hz] at h
    refine (kf hz h).same fun C H locs ls a b hH hl kk => ?_
    obtain ⟨p, l, e, R, s, args, below, meth, c, Q, hW, hR, hx, hb, hml, hown, hts, hst, hin⟩ := C
    rw [hW] at kk ⊢
    subst hz
    exact lv_ifnonnullN hx hb hd kk
  · rw [if_neg hz] at h
    refine (kt hz h).same fun C H locs ls a b hH hl kk => ?_
    obtain ⟨p, l, e, R, s, args, below, meth, c, Q, hW, hR, hx, hb, hml, hown, hts, hst, hin⟩ := C
    rw [hW] at kk ⊢
    have e9 : ml_val (ml_b E) (ml_r x) = .ref (ml_b E + x) := if_neg hz
    show W p l e R s (ml_em E) args below meth c H locs a b Q (F0 (ml_em E) pc ls (ml_val (ml_b E) (ml_r x) :: ml_sv (ml_b E) st))
    rw [e9]
    exact lv_ifnonnull hx hb hd ht kk
theorem ml_istore_n {E : ml_E} {own : String} {cc : ByteArray} {d : Nat} {ini : Bool} {m : ml_M} {pc pc' : Nat} {lv lv' : List (Nat × ml_X)} {st : List ml_X} {f : Fin 4} {x : Int32} (hd : ml_d cc pc (.istore_n f) 1 pc') (hn : (f : Nat) < ml_eL E) (hl' : ml_st (f : Nat) (ml_i x) lv = lv') (k : ml_V E own cc d ini m pc' lv' st) : ml_V E own cc d ini m pc lv (ml_i x :: st) := by
  obtain ⟨hd, rfl⟩ := hd
  refine k.frame fun C H locs ls a b hl kk => ?_
  obtain ⟨p, l, e, R, s, args, below, meth, c, Q, hW, hR, hx, hb, hml, hown, hts, hst, hin⟩ := C
  rw [hW] at kk ⊢
  exact lv_istore_n hx hb hd rfl hl hn (((ml_st_lv (ml_b E) _ (ml_i x) lv)).trans (by rw [hl'])) kk
theorem ml_istore {E : ml_E} {own : String} {cc : ByteArray} {d : Nat} {ini : Bool} {m : ml_M} {pc pc' : Nat} {lv lv' : List (Nat × ml_X)} {st : List ml_X} {i : Nat} {x : Int32} (hd : ml_d cc pc (.istore i) 2 pc') (hn : i < ml_eL E) (hl' : ml_st i (ml_i x) lv = lv') (k : ml_V E own cc d ini m pc' lv' st) : ml_V E own cc d ini m pc lv (ml_i x :: st) := by
  obtain ⟨hd, rfl⟩ := hd
  refine k.frame fun C H locs ls a b hl kk => ?_
  obtain ⟨p, l, e, R, s, args, below, meth, c, Q, hW, hR, hx, hb, hml, hown, hts, hst, hin⟩ := C
  rw [hW] at kk ⊢
  exact lv_istore hx hb hd hl hn (((ml_st_lv (ml_b E) _ (ml_i x) lv)).trans (by rw [hl'])) kk
theorem ml_lstore_n {E : ml_E} {own : String} {cc : ByteArray} {d : Nat} {ini : Bool} {m : ml_M} {pc pc' : Nat} {lv lv' : List (Nat × ml_X)} {st : List ml_X} {f : Fin 4} {x : Int64} (hd : ml_d cc pc (.lstore_n f) 1 pc') (hn : (f : Nat) + 1 < ml_eL E) (hl' : ml_st2 (f : Nat) (ml_l x) lv = lv') (k : ml_V E own cc d ini m pc' lv' st) : ml_V E own cc d ini m pc lv (ml_l x :: st) := by
  obtain ⟨hd, rfl⟩ := hd
  refine k.frame fun C H locs ls a b hl kk => ?_
  obtain ⟨p, l, e, R, s, args, below, meth, c, Q, hW, hR, hx, hb, hml, hown, hts, hst, hin⟩ := C
  rw [hW] at kk ⊢
  exact lv_lstore_n hx hb hd rfl hl hn (((ml_st2_lv (ml_b E) _ (ml_l x) lv)).trans (by rw [hl'])) kk
theorem ml_lstore {E : ml_E} {own : String} {cc : ByteArray} {d : Nat} {ini : Bool} {m : ml_M} {pc pc' : Nat} {lv lv' : List (Nat × ml_X)} {st : List ml_X} {i : Nat} {x : Int64} (hd : ml_d cc pc (.lstore i) 2 pc') (hn : i + 1 < ml_eL E) (hl' : ml_st2 i (ml_l x) lv = lv') (k : ml_V E own cc d ini m pc' lv' st) : ml_V E own cc d ini m pc lv (ml_l x :: st) := by
  obtain ⟨hd, rfl⟩ := hd
  refine k.frame fun C H locs ls a b hl kk => ?_
  obtain ⟨p, l, e, R, s, args, below, meth, c, Q, hW, hR, hx, hb, hml, hown, hts, hst, hin⟩ := C
  rw [hW] at kk ⊢
  exact lv_lstore hx hb hd hl hn (((ml_st2_lv (ml_b E) _ (ml_l x) lv)).trans (by rw [hl'])) kk
theorem ml_astore_n {E : ml_E} {own : String} {cc : ByteArray} {d : Nat} {ini : Bool} {m : ml_M} {pc pc' : Nat} {lv lv' : List (Nat × ml_X)} {st : List ml_X} {f : Fin 4} {x : Nat} (hd : ml_d cc pc (.astore_n f) 1 pc') (hn : (f : Nat) < ml_eL E) (hl' : ml_st (f : Nat) (ml_r x) lv = lv') (k : ml_V E own cc d ini m pc' lv' st) : ml_V E own cc d ini m pc lv (ml_r x :: st) := by
  obtain ⟨hd, rfl⟩ := hd
  refine k.frame fun C H locs ls a b hl kk => ?_
  obtain ⟨p, l, e, R, s, args, below, meth, c, Q, hW, hR, hx, hb, hml, hown, hts, hst, hin⟩ := C
  rw [hW] at kk ⊢
  have h8 := (ml_st_lv (ml_b E) (f : Nat) (ml_r x) lv).trans (by rw [hl'])
  by_cases hz : x = 0
  · subst hz
    exact lv_astore_nN hx hb hd rfl hl hn h8 kk
  · have e9 : ml_val (ml_b E) (ml_r x) = .ref (ml_b E + x) := if_neg hz
    show W p l e R s (ml_em E) args below meth c H locs a b Q (F0 (ml_em E) pc ls (ml_val (ml_b E) (ml_r x) :: ml_sv (ml_b E) st))
    rw [e9] at h8 ⊢
    exact lv_astore_n hx hb hd rfl hl hn h8 kk
theorem ml_astore {E : ml_E} {own : String} {cc : ByteArray} {d : Nat} {ini : Bool} {m : ml_M} {pc pc' : Nat} {lv lv' : List (Nat × ml_X)} {st : List ml_X} {i x : Nat} (hd : ml_d cc pc (.astore i) 2 pc') (hn : i < ml_eL E) (hl' : ml_st i (ml_r x) lv = lv') (k : ml_V E own cc d ini m pc' lv' st) : ml_V E own cc d ini m pc lv (ml_r x :: st) := by
  obtain ⟨hd, rfl⟩ := hd
  refine k.frame fun C H locs ls a b hl kk => ?_
  obtain ⟨p, l, e, R, s, args, below, meth, c, Q, hW, hR, hx, hb, hml, hown, hts, hst, hin⟩ := C
  rw [hW] at kk ⊢
  have h8 := (ml_st_lv (ml_b E) i (ml_r x) lv).trans (by rw [hl'])
  by_cases hz : x = 0
  · subst hz
    exact lv_astoreN hx hb hd hl hn h8 kk
  · have e9 : ml_val (ml_b E) (ml_r x) = .ref (ml_b E + x) := if_neg hz
    show W p l e R s (ml_em E) args below meth c H locs a b Q (F0 (ml_em E) pc ls (ml_val (ml_b E) (ml_r x) :: ml_sv (ml_b E) st))
    rw [e9] at h8 ⊢
    exact lv_astore hx hb hd hl hn h8 kk
theorem ml_iinc {E : ml_E} {own : String} {cc : ByteArray} {d : Nat} {ini : Bool} {m : ml_M} {pc pc' : Nat} {lv lv' : List (Nat × ml_X)} {st : List ml_X} {i : Nat} {z : Int} {x v : Int32} (hd : ml_d cc pc (.iinc i z) 3 pc') (j : Nat) (hk : lv[j]? = some (i, ml_i x)) (hv : x + Int32.ofInt z = v) (hn : i < ml_eL E) (hl' : ml_st i (ml_i v) lv = lv') (k : ml_V E own cc d ini m pc' lv' st) : ml_V E own cc d ini m pc lv st := by
  obtain ⟨hd, rfl⟩ := hd
  refine k.frame fun C H locs ls a b hl kk => ?_
  obtain ⟨p, l, e, R, s, args, below, meth, c, Q, hW, hR, hx, hb, hml, hown, hts, hst, hin⟩ := C
  rw [hW] at kk ⊢
  exact lv_iinc hx hb hd hl (k := j) (ml_lv_at hk) hv hn ((ml_st_lv (ml_b E) i (ml_i v) lv).trans (by rw [hl'])) kk
theorem ml_swOut {E : ml_E} {own : String} {cc : ByteArray} {d : Nat} {ini : Bool} {m : ml_M} {pc tgt : Nat} {lv : List (Nat × ml_X)} {st : List ml_X} {df lo hi : Int} {offs : Array Int} {n : Nat} {x : Int32} (hd : decode cc pc = .ok (.tableswitch df lo hi offs, n)) (h : x.toInt < lo ∨ hi < x.toInt) (ht : (pc : Int) + df = (tgt : Int)) (k : ml_V E own cc d ini m tgt lv st) : ml_V E own cc d ini m pc lv (ml_i x :: st) := by
  refine k.same fun C H locs ls a b hH hl kk => ?_
  obtain ⟨p, l, e, R, s, args, below, meth, c, Q, hW, hR, hx, hb, hml, hown, hts, hst, hin⟩ := C
  rw [hW] at kk ⊢
  exact lv_tableOut hx hb hd h ht kk
theorem ml_swIn {E : ml_E} {own : String} {cc : ByteArray} {d : Nat} {ini : Bool} {m : ml_M} {pc tgt : Nat} {lv : List (Nat × ml_X)} {st : List ml_X} {df lo hi : Int} {offs : Array Int} {n : Nat} {x : Int32} {off : Int} (hd : decode cc pc = .ok (.tableswitch df lo hi offs, n)) (h1 : ¬ x.toInt < lo) (h2 : ¬ hi < x.toInt) (ho : offs[(x.toInt - lo).toNat]? = some off) (ht : (pc : Int) + off = (tgt : Int)) (k : ml_V E own cc d ini m tgt lv st) : ml_V E own cc d ini m pc lv (ml_i x :: st) := by
  refine k.same fun C H locs ls a b hH hl kk => ?_
  obtain ⟨p, l, e, R, s, args, below, meth, c, Q, hW, hR, hx, hb, hml, hown, hts, hst, hin⟩ := C
  rw [hW] at kk ⊢
  exact lv_tableIn hx hb hd h1 h2 ho ht kk
theorem ml_swL {E : ml_E} {own : String} {cc : ByteArray} {d : Nat} {ini : Bool} {m : ml_M} {pc tgt : Nat} {lv : List (Nat × ml_X)} {st : List ml_X} {df : Int} {ps : Array (Int × Int)} {n : Nat} {x : Int32} {off : Int} (hd : decode cc pc = .ok (.lookupswitch df ps, n)) (hp : (ps.toList.zip (ps.toList.drop 1)).all (fun (a, next) => a.1 < next.1) = true) (ho : Op.lookupswitch.offset ps.toList df x.toInt = off) (ht : (pc : Int) + off = (tgt : Int)) (k : ml_V E own cc d ini m tgt lv st) : ml_V E own cc d ini m pc lv (ml_i x :: st) := by
  refine k.same fun C H locs ls a b hH hl kk => ?_
  obtain ⟨p, l, e, R, s, args, below, meth, c, Q, hW, hR, hx, hb, hml, hown, hts, hst, hin⟩ := C
  rw [hW] at kk ⊢
  exact lv_lookup hx hb hd hp ho ht kk

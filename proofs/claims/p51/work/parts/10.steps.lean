/-! STEPS WITH WHAT IS CHECKED: forms for the printed walks -/
theorem ml_newOs {E : ml_E} {own : String} {cc : ByteArray} {d : Nat} {ini : Bool} {m : ml_M} {pc pc' : Nat} {lv : List (Nat × ml_X)} {st : List ml_X} {idx ci N : Nat} {α : Type} {r : α} {f : Nat → ml_M → Option α} (hd : ml_d cc pc (.new idx) 3 pc') (ho : ml_o own idx ci N) (h : ml_let (ml_n m + 1) (fun a => ml_let (ml_al m ci 0 N) (f a)) = some r) (k : ∀ a m1, a ≠ 0 → (ml_K m1 a).1 = ci → f a m1 = some r → ml_V E own cc d ini m1 pc' lv (ml_r a :: st)) : ml_V E own cc d ini m pc lv st :=
  ml_newO hd ho (k _ _ (Nat.succ_ne_zero _) (by rw [ml_K_al, if_pos rfl]) h)
theorem ml_newAs {E : ml_E} {own : String} {cc : ByteArray} {d : Nat} {ini : Bool} {m : ml_M} {pc pc' : Nat} {lv : List (Nat × ml_X)} {st : List ml_X} {n : Int32} {ty : Jvm.ClassFile.ArrayType} {kd : Nat} {α : Type} {r : α} {f : Nat → ml_M → Option α} (hd : ml_d cc pc (.newarray ty) 2 pc') (hk : 20 ≤ kd ∧ kd < 23 ∧ newarray.typeOf ty = ml_ety kd ∧ Cond.arrayClass (ml_ety kd) ∈ ml_TB) (hn : ml_len n) (h : ml_let (ml_n m + 1) (fun a => ml_let (ml_al m kd n.toNatClampNeg n.toNatClampNeg) (f a)) = some r) (k : ∀ a m1, a ≠ 0 → (ml_K m1 a).1 = kd → f a m1 = some r → ml_V E own cc d ini m1 pc' lv (ml_r a :: st)) : ml_V E own cc d ini m pc lv (ml_i n :: st) :=
  ml_newA hd hk hn (k _ _ (Nat.succ_ne_zero _) (by rw [ml_K_al, if_pos rfl]) h)
theorem ml_newQs {E : ml_E} {own : String} {cc : ByteArray} {d : Nat} {ini : Bool} {m : ml_M} {pc pc' : Nat} {lv : List (Nat × ml_X)} {st : List ml_X} {n : Int32} {idx kd : Nat} {c9 : String} {α : Type} {r : α} {f : Nat → ml_M → Option α} (hd : ml_d cc pc (.anewarray idx) 3 pc') (hk : 25 ≤ kd ∧ kd < 31 ∧ ml_ety kd = .object c9 ∧ c9 ∈ [RX0, RX2, RX5, RX6, RX8, RX9] ∧ Cond.classLink own idx c9 ∈ ml_TB) (hn : ml_len n) (h : ml_let (ml_n m + 1) (fun a => ml_let (ml_al m kd n.toNatClampNeg n.toNatClampNeg) (f a)) = some r) (k : ∀ a m1, a ≠ 0 → (ml_K m1 a).1 = kd → f a m1 = some r → ml_V E own cc d ini m1 pc' lv (ml_r a :: st)) : ml_V E own cc d ini m pc lv (ml_i n :: st) :=
  ml_newQ hd hk hn (k _ _ (Nat.succ_ne_zero _) (by rw [ml_K_al, if_pos rfl]) h)
theorem ml_newQAs {E : ml_E} {own : String} {cc : ByteArray} {d : Nat} {ini : Bool} {m : ml_M} {pc pc' : Nat} {lv : List (Nat × ml_X)} {st : List ml_X} {n : Int32} {idx kd : Nat} {t9 : FieldType} {α : Type} {r : α} {f : Nat → ml_M → Option α} (hd : ml_d cc pc (.anewarray idx) 3 pc') (hk : 23 ≤ kd ∧ kd < 25 ∧ ml_ety kd = .array t9 ∧ t9 ∈ [FieldType.int, FieldType.byte] ∧ Cond.classLink own idx (FieldType.array t9).toString ∈ ml_TB) (hn : ml_len n) (h : ml_let (ml_n m + 1) (fun a => ml_let (ml_al m kd n.toNatClampNeg n.toNatClampNeg) (f a)) = some r) (k : ∀ a m1, a ≠ 0 → (ml_K m1 a).1 = kd → f a m1 = some r → ml_V E own cc d ini m1 pc' lv (ml_r a :: st)) : ml_V E own cc d ini m pc lv (ml_i n :: st) :=
  ml_newQA hd hk hn (k _ _ (Nat.succ_ne_zero _) (by rw [ml_K_al, if_pos rfl]) h)
theorem ml_clones {E : ml_E} {own : String} {cc : ByteArray} {d : Nat} {ini : Bool} {m : ml_M} {pc pc' : Nat} {lv : List (Nat × ml_X)} {st : List ml_X} {a idx : Nat} {α : Type} {r : α} {f : Nat → ml_M → Option α} (hd : ml_d cc pc (.invokevirtual idx) 3 pc') (hw : Cond.methodLink own idx ⟨"[I", "clone", "()Ljava/lang/Object;"⟩ ∈ ml_TB ∧ Cond.sameMethod "[I" "java/lang/Object" "clone" "()Ljava/lang/Object;" ∈ ml_TB ∧ Cond.native ⟨"java/lang/Object", "clone", "()Ljava/lang/Object;"⟩ ∈ ml_TB ∧ Cond.instanceMethod ⟨"java/lang/Object", "clone", "()Ljava/lang/Object;"⟩ ∈ ml_TB ∧ Cond.selects "[I" ⟨"[I", "clone", "()Ljava/lang/Object;"⟩ ⟨"java/lang/Object", "clone", "()Ljava/lang/Object;"⟩ ∈ ml_TB) (hd1 : 1 ≤ d) (hst8 : ml_words st ≤ 8) (ho : (ml_K m a).1 = 20) (h : ml_let (ml_n m + 1) (fun b => ml_let (ml_cl2 m a) (f b)) = some r) (k : ∀ b m1, b ≠ 0 → (ml_K m1 b).1 = 20 → f b m1 = some r → ml_V E own cc d ini m1 pc' lv (ml_r b :: st)) : ml_V E own cc d ini m pc lv (ml_r a :: st) :=
  ml_clone hd hw hd1 hst8 ho (k _ _ (Nat.succ_ne_zero _) (by show ((if ml_n m + 1 = ml_n m + 1 then ml_K m a else ml_K m (ml_n m + 1))).1 = 20; rw [if_pos rfl]; exact ho) h)
theorem ml_swInC {E : ml_E} {own : String} {cc : ByteArray} {d : Nat} {ini : Bool} {m : ml_M} {pc tgt : Nat} {lv : List (Nat × ml_X)} {st : List ml_X} {df lo hi : Int} {offs : Array Int} {n : Nat} {x : Int32} {off : Int} (c : Int32) (hc : x = c) (hd : decode cc pc = .ok (.tableswitch df lo hi offs, n)) (h1 : (¬ c.toInt < lo ∧ ¬ hi < c.toInt) ∧ offs[(c.toInt - lo).toNat]? = some off ∧ (pc : Int) + off = (tgt : Int)) (k : ml_V E own cc d ini m tgt lv st) : ml_V E own cc d ini m pc lv (ml_i x :: st) := by
  subst hc
  exact ml_swIn hd h1.1.1 h1.1.2 h1.2.1 h1.2.2 k
theorem ml_swLC {E : ml_E} {own : String} {cc : ByteArray} {d : Nat} {ini : Bool} {m : ml_M} {pc tgt : Nat} {lv : List (Nat × ml_X)} {st : List ml_X} {df : Int} {ps : Array (Int × Int)} {n : Nat} {x : Int32} {off : Int} (c : Int32) (hc : x = c) (hd : decode cc pc = .ok (.lookupswitch df ps, n)) (hp : (ps.toList.zip (ps.toList.drop 1)).all (fun (a, next) => a.1 < next.1) = true) (ho : Op.lookupswitch.offset ps.toList df c.toInt = off ∧ (pc : Int) + off = (tgt : Int)) (k : ml_V E own cc d ini m tgt lv st) : ml_V E own cc d ini m pc lv (ml_i x :: st) := by
  subst hc
  exact ml_swL hd hp ho.1 ho.2 k
theorem ml_copys {E : ml_E} {own : String} {cc : ByteArray} {d : Nat} {ini : Bool} {m : ml_M} {pc pc' : Nat} {lv : List (Nat × ml_X)} {st : List ml_X} {sa da idx : Nat} {sp dp n : Int32} {α : Type} {r : α} {f : ml_M → Option α} (hd : ml_d cc pc (.invokestatic idx) 3 pc') (hw : Cond.methodLink own idx arraycopyName ∈ ml_TB ∧ Cond.native arraycopyName ∈ ml_TB ∧ Cond.static arraycopyName ∈ ml_TB ∧ Cond.initialized "java/lang/System" ∈ ml_TB) (hd1 : 1 ≤ d) (hst8 : ml_words st ≤ 8) (ho : ml_cpo m sa da sp dp n) (h : ml_let (ml_cp m sa sp.toNatClampNeg da dp.toNatClampNeg n.toNatClampNeg) f = some r) (k : ∀ m1 : ml_M, ml_K m1 = ml_K m → f m1 = some r → ml_V E own cc d ini m1 pc' lv st) : ml_V E own cc d ini m pc lv (ml_i n :: ml_i dp :: ml_r da :: ml_i sp :: ml_r sa :: st) :=
  ml_copy hd hw hd1 hst8 ho (k _ rfl h)
def ml_fu : Nat := 4194304
theorem ml_none {α : Type} {r : α} {P : Prop} (h : (none : Option α) = some r) : P := by cases h
theorem ml_hn {E : ml_E} {i nl : Nat} (hL : ml_eL E = nl) (h : Nat.ble (i + 1) nl = true) : i < ml_eL E := by
  rw [hL]
  exact Nat.le_of_ble_eq_true h
theorem ml_mmax {E : ml_E} {own : String} {cc : ByteArray} {d : Nat} {ini : Bool} {m : ml_M} {pc pc' : Nat} {lv : List (Nat × ml_X)} {st : List ml_X} {idx : Nat} {x y : Int32} (hd : ml_d cc pc (.invokestatic idx) 3 pc') (hw : Cond.methodLink own idx Lib.Math.max.name ∈ ml_TB ∧ Cond.static Lib.Math.max.name ∈ ml_TB ∧ Cond.initialized "java/lang/Math" ∈ ml_TB ∧ Cond.code Lib.Math.max.name Lib.Math.max.code 2 (some .int) ∈ ml_TB) (hd1 : 1 ≤ d) (hst8 : ml_words st ≤ 8) (kn : ml_V E own cc d ini m pc' lv (ml_i (if x < y then y else x) :: st)) : ml_V E own cc d ini m pc lv (ml_i y :: ml_i x :: st) := by
  obtain ⟨hd, rfl⟩ := hd
  intro n1 n2
  obtain ⟨kb, kk⟩ := kn n1 n2
  refine ⟨kb, fun C H locs ls hH hL hl => ?_⟩
  have kk := kk C H locs ls hH hL hl
  obtain ⟨p, l, e, R, s, args, below, meth, c, Q, hW, hR, hx, hb, hml, hown, hts, hst, hin⟩ := C
  rw [hW] at kk ⊢
  exact va_mmax hx hb (by rw [hml]; exact hl.1.symm) hown (hts _ hw.1) (hts _ hw.2.1) (hts _ hw.2.2.1) (hts _ hw.2.2.2) (by omega) (by have h9 := ml_sum_cat (ml_b E) st; unfold ml_sv at h9; rw [h9]; omega) (by omega) (by omega) hd kk
theorem ml_mmin {E : ml_E} {own : String} {cc : ByteArray} {d : Nat} {ini : Bool} {m : ml_M} {pc pc' : Nat} {lv : List (Nat × ml_X)} {st : List ml_X} {idx : Nat} {x y : Int32} (hd : ml_d cc pc (.invokestatic idx) 3 pc') (hw : Cond.methodLink own idx Lib.Math.min.name ∈ ml_TB ∧ Cond.static Lib.Math.min.name ∈ ml_TB ∧ Cond.initialized "java/lang/Math" ∈ ml_TB ∧ Cond.code Lib.Math.min.name Lib.Math.min.code 2 (some .int) ∈ ml_TB) (hd1 : 1 ≤ d) (hst8 : ml_words st ≤ 8) (kn : ml_V E own cc d ini m pc' lv (ml_i (if y < x then y else x) :: st)) : ml_V E own cc d ini m pc lv (ml_i y :: ml_i x :: st) := by
  obtain ⟨hd, rfl⟩ := hd
  intro n1 n2
  obtain ⟨kb, kk⟩ := kn n1 n2
  refine ⟨kb, fun C H locs ls hH hL hl => ?_⟩
  have kk := kk C H locs ls hH hL hl
  obtain ⟨p, l, e, R, s, args, below, meth, c, Q, hW, hR, hx, hb, hml, hown, hts, hst, hin⟩ := C
  rw [hW] at kk ⊢
  exact va_mmin hx hb (by rw [hml]; exact hl.1.symm) hown (hts _ hw.1) (hts _ hw.2.1) (hts _ hw.2.2.1) (hts _ hw.2.2.2) (by omega) (by have h9 := ml_sum_cat (ml_b E) st; unfold ml_sv at h9; rw [h9]; omega) (by omega) (by omega) hd kk
theorem ml_mabs {E : ml_E} {own : String} {cc : ByteArray} {d : Nat} {ini : Bool} {m : ml_M} {pc pc' : Nat} {lv : List (Nat × ml_X)} {st : List ml_X} {idx : Nat} {x : Int32} (hd : ml_d cc pc (.invokestatic idx) 3 pc') (hw : Cond.methodLink own idx Lib.Math.abs.name ∈ ml_TB ∧ Cond.static Lib.Math.abs.name ∈ ml_TB ∧ Cond.initialized "java/lang/Math" ∈ ml_TB ∧ Cond.code Lib.Math.abs.name Lib.Math.abs.code 1 (some .int) ∈ ml_TB) (hd1 : 1 ≤ d) (hst8 : ml_words st ≤ 8) (kn : ml_V E own cc d ini m pc' lv (ml_i (if 0 ≤ x then x else 0 - x) :: st)) : ml_V E own cc d ini m pc lv (ml_i x :: st) := by
  obtain ⟨hd, rfl⟩ := hd
  intro n1 n2
  obtain ⟨kb, kk⟩ := kn n1 n2
  refine ⟨kb, fun C H locs ls hH hL hl => ?_⟩
  have kk := kk C H locs ls hH hL hl
  obtain ⟨p, l, e, R, s, args, below, meth, c, Q, hW, hR, hx, hb, hml, hown, hts, hst, hin⟩ := C
  rw [hW] at kk ⊢
  exact va_mabs hx hb (by rw [hml]; exact hl.1.symm) hown (hts _ hw.1) (hts _ hw.2.1) (hts _ hw.2.2.1) (hts _ hw.2.2.2) (by omega) (by have h9 := ml_sum_cat (ml_b E) st; unfold ml_sv at h9; rw [h9]; omega) (by omega) (by omega) hd kk

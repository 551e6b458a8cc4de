/-! A METHOD'S CONTRACT OUT OF A WALK OF ITS BODY OVER THE PLAIN MEMORY -/
def ml_E0dummy (m m' : ml_M) (nl : Nat) : ml_E := ((#[], 0, (fun _ => (0 : Nat), fun _ _ => 0), (fun _ => (0 : Nat)), 0, 0, fun _ => 0), ml_n m', ml_s m', ml_n m, ml_s m, nl, ⟨0, 0⟩, fun _ _ _ _ _ => True)
/-- how a method ends, by its instruction -/
def ml_Rk (b : ByteArray) (ret : Option FieldType) (ins : Jvm.ClassFile.Instr) (out : Option ml_X) : Prop :=
  ∀ (B : Nat) (p : Program) (l : Launch) (e : Env) (R : Room) (s : State) (m : MethodId) (args : Array Value) (below : List Frame) (meth : Method) (c : Code) (H : Heap) (locs : List Loc) (pc cells slots : Nat) (ls : Array Slot) (Qc : Array Value → State → Outcome → State → Prop) (free : Addr → Prop), p.tables.exec = Jvm.exec → c.code = b → meth.sig.returnType = ret → meth.locks = false → decode b pc = .ok (ins, 1) →
    (∀ t : State, t.heap = H → Qc args s (.returned (out.map (ml_val B))) t) → (∀ q ∈ locs, free q.base) → W p l e R s m args below meth c H locs cells slots (MQ below Qc args s cells slots free) (F0 m pc ls (ml_sv B out.toList))
theorem ml_RkI {b : ByteArray} (v : Int32) : ml_Rk b (some .int) .ireturn (some (ml_i v)) := by
  intro B p l e R s m args below meth c H locs pc cells slots ls Qc free hx hb hr hlocks hd hq hf
  exact W.iret (v := v) hx hb hr (fun t ht _ => hq t ht) hf hd hlocks
theorem ml_RkZ {b : ByteArray} (v : Int32) (h : v = 0 ∨ v = 1) : ml_Rk b (some .boolean) .ireturn (some (ml_i v)) := by
  intro B p l e R s m args below meth c H locs pc cells slots ls Qc free hx hb hr hlocks hd hq hf
  exact W.zret (v := v) (ty := .boolean) hx hb hr (by rcases h with rfl | rfl <;> rfl) (fun t ht _ => hq t ht) hf hd hlocks
theorem ml_RkJ {b : ByteArray} (v : Int64) : ml_Rk b (some .long) .lreturn (some (ml_l v)) := by
  intro B p l e R s m args below meth c H locs pc cells slots ls Qc free hx hb hr hlocks hd hq hf
  exact W.lret (v := v) hx hb hr (fun t ht _ => hq t ht) hf hd hlocks
theorem ml_RkV {b : ByteArray} : ml_Rk b none .return_ none := by
  intro B p l e R s m args below meth c H locs pc cells slots ls Qc free hx hb hr hlocks hd hq hf
  exact W.vret hx hb hr (fun t ht _ => hq t ht) hf hd hlocks
theorem ml_RkA {b : ByteArray} {rt : FieldType} (h : ml_isR rt) (a : Nat) : ml_Rk b (some rt) .areturn (some (ml_r a)) := by
  intro B p l e R s m args below meth c H locs pc cells slots ls Qc free hx hb hr hlocks hd hq hf
  refine W.aret (v := ml_rf B a) hx hb hr h ?_ (fun t ht _ => hq t ht) hf hd hlocks
  unfold ml_rf
  split
  · exact Or.inl rfl
  · exact Or.inr ⟨_, rfl⟩
theorem ml_Sn_of {y : MethodName} {b : ByteArray} {nl : Nat} {ret : Option FieldType} {d : Nat} {av : List ml_X} {m : ml_M} {out : Option ml_X} {m' : ml_M} {ins : Jvm.ClassFile.Instr} {ini : Bool} (hy : plainName y.cls = true) (hwd : ml_words av ≤ nl) (hini : ini = true → y.name = "<init>") {P : Prop} (hret : P → ml_Rk b ret ins out)
    (body : ∀ E : ml_E, ml_eL E = nl → (∀ (pc pc' : Nat) (lv : List (Nat × ml_X)), ml_d b pc ins 1 pc' → P → ml_V E y.cls b d ini m' pc lv out.toList) → ml_V E y.cls b d ini m 0 (ml_args 0 av) []) : ml_Sn y b nl ret d av m out m' := by
  have hbnd : ml_n m ≤ ml_n m' ∧ ml_s m ≤ ml_s m' := (body (ml_E0dummy m m' nl) rfl (fun pc pc' lv hd hp h1 h2 => ⟨⟨Nat.le_refl _, Nat.le_refl _⟩, fun _ _ _ _ _ _ _ => trivial⟩) (Nat.le_refl _) (Nat.le_refl _)).1
  refine ⟨hbnd, fun l G => ?_⟩
  refine Met.ofW (cc := b) (maxL := nl) (ret := ret) hy rfl ?_
  intro p e s m0 args below meth c s₁ B hml hv
  obtain ⟨rfl, hHP, hST⟩ := hv
  have hts := atoms_spec (ws := .code y b nl ret :: ml_TB) B.pre
  have hown : s.vm.findClass y.cls = some m0.cls := findClass_of_methodNamed B.named
  have hnm : meth.name = y.name := (name_of_methodNamed B.named B.method).1
  have hl := lv_entry (ml_sv (ml_B G) av) (n := nl) (by rw [ml_words_sl]; exact hwd)
  rw [lg_entry_eq]
  generalize (lg_sl (ml_sv (ml_B G) av) ++ List.replicate (nl - (lg_sl (ml_sv (ml_B G) av)).length) Slot.unset).toArray = ls at hl ⊢
  rw [ml_args_lv] at hl
  have k := body (G, ml_n m', ml_s m', ml_n m, ml_s m, nl, m0, fun H locs cells slots g => W p l e { frames := d, cells := ml_n m' - ml_n m, slots := ml_s m' - ml_s m, locals := 64 * d } s m0 (ml_sv (ml_B G) av).toArray below meth c H locs cells slots (MQ below (fun _ _ o t => o = .returned (out.map (ml_val (ml_B G))) ∧ ml_HP G m' t.heap) (ml_sv (ml_B G) av).toArray s (ml_n m' - ml_n m) (ml_s m' - ml_s m) (fun q => ml_B G < q)) g) rfl ?_ (Nat.le_refl _) (Nat.le_refl _)
  · have k2 := k.2 ⟨p, l, e, _, s, _, below, meth, c, _, rfl, ⟨Nat.le_refl _, rfl, rfl, Nat.le_refl _⟩, B.exec, B.bytes, hml, hown, fun w hw => hts w (List.mem_cons_of_mem _ hw), hST, fun h => by rw [hnm]; exact hini h⟩ s.heap [] ls hHP (fun q hq => by cases hq) hl
    have k3 : W p l e { frames := d, cells := ml_n m' - ml_n m, slots := ml_s m' - ml_s m, locals := 64 * d } s m0 (ml_sv (ml_B G) av).toArray below meth c s.heap [] (ml_n m - ml_n m) (ml_s m - ml_s m) (MQ below (fun _ _ o t => o = .returned (out.map (ml_val (ml_B G))) ∧ ml_HP G m' t.heap) (ml_sv (ml_B G) av).toArray s (ml_n m' - ml_n m) (ml_s m' - ml_s m) (fun q => ml_B G < q)) (F0 m0 0 ls []) := k2
    rw [Nat.sub_self, Nat.sub_self] at k3
    exact k3
  · intro pc pc' lv hd hp h1 h2
    refine ⟨⟨Nat.le_refl _, Nat.le_refl _⟩, fun C H locs ls hH hL hl => ?_⟩
    exact hret hp (ml_B G) p l e _ s m0 _ below meth c H locs pc _ _ ls (fun _ _ o t => o = .returned (out.map (ml_val (ml_B G))) ∧ ml_HP G m' t.heap) (fun q => ml_B G < q) B.exec B.bytes B.returns B.notSynchronized hd.1 (fun t ht => ⟨rfl, by rw [ht]; exact hH⟩) hL
theorem ml_sld {E : ml_E} {own : String} {cc : ByteArray} {d : Nat} {ini : Bool} {m : ml_M} {pc pc' : Nat} {lv : List (Nat × ml_X)} {st : List ml_X} {i : Int32} (hd : ml_d cc pc .iaload 1 pc') (hi : vp_in i (ml_sl (ml_eG E))) (kn : ml_V E own cc d ini m pc' lv (ml_i (ml_sx (ml_eG E) i.toNatClampNeg) :: st)) : ml_V E own cc d ini m pc lv (ml_i i :: ml_q (ml_sb (ml_eG E)) :: st) := by
  obtain ⟨hd, rfl⟩ := hd
  refine kn.same fun C H locs ls a1 b1 hH hl kk => ?_
  obtain ⟨p, l, e, R, s, args, below, meth, c, Q, hW, hR, hx, hb, hml, hown, hts, hst, hin⟩ := C
  rw [hW] at kk ⊢
  obtain ⟨hle, scr, x1, x2, x3, x4, x5⟩ := hst.2.2.2.2.2.2
  have x1 : H[ml_sb (ml_eG E)]? = some scr := by rw [hH.2.1 _ hle]; exact x1
  have hlt : i.toNatClampNeg < ml_sl (ml_eG E) := Nat.not_le.mp fun z => hi (Or.inr z)
  show W p l e R s (ml_em E) args below meth c H locs a1 b1 Q (F0 (ml_em E) pc ls (.int i :: .ref (ml_sb (ml_eG E)) :: ml_sv (ml_b E) st))
  exact W.iald (v := .int (ml_sx (ml_eG E) i.toNatClampNeg)) hx hb x1 x2 x3 (by rw [x4]; exact hi) (x5 _ hlt) rfl rfl hd kk
theorem ml_slen {E : ml_E} {own : String} {cc : ByteArray} {d : Nat} {ini : Bool} {m : ml_M} {pc pc' : Nat} {lv : List (Nat × ml_X)} {st : List ml_X} (hd : ml_d cc pc .arraylength 1 pc') (kn : ml_V E own cc d ini m pc' lv (ml_i (Int32.ofNat (ml_sl (ml_eG E))) :: st)) : ml_V E own cc d ini m pc lv (ml_q (ml_sb (ml_eG E)) :: st) := by
  obtain ⟨hd, rfl⟩ := hd
  refine kn.same fun C H locs ls a1 b1 hH hl kk => ?_
  obtain ⟨p, l, e, R, s, args, below, meth, c, Q, hW, hR, hx, hb, hml, hown, hts, hst, hin⟩ := C
  rw [hW] at kk ⊢
  obtain ⟨hle, scr, x1, x2, x3, x4, x5⟩ := hst.2.2.2.2.2.2
  have x1 : H[ml_sb (ml_eG E)]? = some scr := by rw [hH.2.1 _ hle]; exact x1
  show W p l e R s (ml_em E) args below meth c H locs a1 b1 Q (F0 (ml_em E) pc ls (.ref (ml_sb (ml_eG E)) :: ml_sv (ml_b E) st))
  exact W.alen (n := Int32.ofNat (ml_sl (ml_eG E))) hx hb x1 x2 (by rw [x4]) rfl rfl hd kk
theorem ml_sload {E : ml_E} {own : String} {cc : ByteArray} {d : Nat} {ini : Bool} {m : ml_M} {pc pc' : Nat} {lv : List (Nat × ml_X)} {st : List ml_X} {f : Fin 4} {x : Nat} (hd : ml_d cc pc (.aload_n f) 1 pc') (j : Nat) (hk : lv[j]? = some ((f : Nat), ml_q x)) (k : ml_V E own cc d ini m pc' lv (ml_q x :: st)) : ml_V E own cc d ini m pc lv st := by
  obtain ⟨hd, rfl⟩ := hd
  refine k.same fun C H locs ls a b hH hl kk => ?_
  obtain ⟨p, l, e, R, s, args, below, meth, c, Q, hW, hR, hx, hb, hml, hown, hts, hst, hin⟩ := C
  rw [hW] at kk ⊢
  exact lv_aload_n hx hb hd rfl (lv_at hl _ (ml_lv_at hk)) kk
-- the plain functions: bound values, results of calls
def ml_let {α β : Type} (e : α) (f : α → Option β) : Option β := f e
def ml_b1 {α β : Type} (x : Option α) (f : α → Option β) : Option β := match x with
  | none => none
  | some a => f a
def ml_b2 {α β : Type} (x : Option (α × ml_M)) (f : α → ml_M → Option β) : Option β := match x with
  | none => none
  | some q => f q.1 q.2
theorem ml_b1_of {α β : Type} {x : Option α} {f : α → Option β} {r : β} {P : Prop} (h : ml_b1 x f = some r) (k : ∀ a, x = some a → f a = some r → P) : P := by
  cases x with
  | none => cases h
  | some a => exact k a rfl h
theorem ml_b2_of {α β : Type} {x : Option (α × ml_M)} {f : α → ml_M → Option β} {r : β} {P : Prop} (h : ml_b2 x f = some r) (k : ∀ a m, x = some (a, m) → f a m = some r → P) : P := by
  cases x with
  | none => cases h
  | some q => exact k q.1 q.2 rfl h
theorem ml_ck_of {β : Type} {c : Prop} {D : Decidable c} {A : Option β} {r : β} {P : Prop} (h : @ite (Option β) c D A none = some r) (k : c → A = some r → P) : P := by
  by_cases hc : c
  · rw [if_pos hc] at h
    exact k hc h
  · rw [if_neg hc] at h
    cases h
-- a new name for the memory behind a store
theorem ml_lt {E : ml_E} {own : String} {cc : ByteArray} {d : Nat} {ini : Bool} {e m : ml_M} {pc : Nat} {lv : List (Nat × ml_X)} {st : List ml_X} {α : Type} {r : α} {f : ml_M → Option α} (hK : ml_K e = ml_K m) (h : ml_let e f = some r) (k : ∀ m1 : ml_M, ml_K m1 = ml_K m → f m1 = some r → ml_V E own cc d ini m1 pc lv st) : ml_V E own cc d ini e pc lv st := k e hK h
theorem ml_ltn {E : ml_E} {own : String} {cc : ByteArray} {d : Nat} {ini : Bool} {e : ml_M} {pc : Nat} {lv : List (Nat × ml_X)} {st : List ml_X} {α : Type} {r : α} {f : ml_M → Option α} (h : ml_let e f = some r) (k : ∀ m1 : ml_M, f m1 = some r → ml_V E own cc d ini m1 pc lv st) : ml_V E own cc d ini e pc lv st := k e h
theorem ml_kk {m m1 : ml_M} {x c : Nat} (e : ml_K m1 = ml_K m) (h : (ml_K m x).1 = c) : (ml_K m1 x).1 = c := by rw [e]; exact h
/-- a new name for what lies on the stack -/
theorem ml_lx {E : ml_E} {own : String} {cc : ByteArray} {d : Nat} {ini : Bool} {m : ml_M} {pc : Nat} {lv : List (Nat × ml_X)} {st : List ml_X} {α β : Type} {x : β} {mk : β → ml_X} {r : α} {f : β → Option α} (h : ml_let x f = some r) (k : ∀ y : β, f y = some r → ml_V E own cc d ini m pc lv (mk y :: st)) : ml_V E own cc d ini m pc lv (mk x :: st) := k x h
-- ends
theorem ml_rI {E : ml_E} {own : String} {cc : ByteArray} {d : Nat} {ini : Bool} {m rm : ml_M} {pc pc' : Nat} {lv : List (Nat × ml_X)} {α : Type} {mk : α → ml_X} {ins : Jvm.ClassFile.Instr} {v rv : α} {P : Prop} (hr : ∀ (pc pc' : Nat) (lv : List (Nat × ml_X)), ml_d cc pc ins 1 pc' → P → ml_V E own cc d ini rm pc lv [mk rv]) (hd : ml_d cc pc ins 1 pc') (hp : v = rv → P) (h : some (v, m) = some (rv, rm)) : ml_V E own cc d ini m pc lv [mk v] := by
  cases h
  exact hr _ _ _ hd (hp rfl)
theorem ml_rp {E : ml_E} {own : String} {cc : ByteArray} {d : Nat} {ini : Bool} {m : ml_M} {pc pc' : Nat} {lv : List (Nat × ml_X)} {α : Type} {mk : α → ml_X} {ins : Jvm.ClassFile.Instr} {v rv : α} {P : Prop} (hr : ∀ (pc pc' : Nat) (lv : List (Nat × ml_X)), ml_d cc pc ins 1 pc' → P → ml_V E own cc d ini m pc lv [mk rv]) (hd : ml_d cc pc ins 1 pc') (hp : v = rv → P) (h : some v = some rv) : ml_V E own cc d ini m pc lv [mk v] := by
  cases h
  exact hr _ _ _ hd (hp rfl)
theorem ml_rv {E : ml_E} {own : String} {cc : ByteArray} {d : Nat} {ini : Bool} {m rm : ml_M} {pc pc' : Nat} {lv : List (Nat × ml_X)} {ins : Jvm.ClassFile.Instr} {P : Prop} (hr : ∀ (pc pc' : Nat) (lv : List (Nat × ml_X)), ml_d cc pc ins 1 pc' → P → ml_V E own cc d ini rm pc lv []) (hd : ml_d cc pc ins 1 pc') (hp : P) (h : some m = some rm) : ml_V E own cc d ini m pc lv [] := by
  cases h
  exact hr _ _ _ hd hp

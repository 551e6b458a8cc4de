/-! A METHOD'S CONTRACT OUT OF A WALK OF ITS BODY OVER THE PLAIN MEMORY -/
def ml_E0dummy (m m' : ml_M) (nl : Nat) : ml_E := ((#[], 0, (fun _ => (0 : Nat), fun _ _ => 0), fun _ => (0 : Nat)), ml_n m', ml_s m', ml_n m, ml_s m, nl, ⟨0, 0⟩, fun _ _ _ _ _ => True)
/-- how a method ends, by its instruction -/
def ml_Rk (b : ByteArray) (ret : Option FieldType) (ins : Jvm.ClassFile.Instr) (out : Option ml_X) : Prop :=
  ∀ (B : Nat) (p : Program) (l : Launch) (e : Env) (R : Room) (s : State) (m : MethodId) (args : Array Value) (below : List Frame) (meth : Method) (c : Code) (H : Heap) (locs : List Loc) (pc cells slots : Nat) (ls : Array Slot) (Qc : Array Value → State → Outcome → State → Prop) (free : Addr → Prop), p.tables.exec = Jvm.exec → c.code = b → meth.sig.returnType = ret → meth.locks = false → decode b pc = .ok (ins, 1) →
    (∀ t : State, t.heap = H → Qc args s (.returned (out.map (ml_val B))) t) → (∀ q ∈ locs, free q.base) → W p l e R s m args below meth c H locs cells slots (MQ below Qc args s cells slots free) (F0 m pc ls (ml_sv B out.toList))
theorem ml_RkI {b : ByteArray} (v : Int32) : ml_Rk b (some .int) .ireturn (some (ml_i v)) := by
  intro B p l e R s m args below meth c H locs pc cells slots ls Qc free hx hb hr hlocks hd hq hf
  exact W.iret (v := v) hx hb hr (fun t ht _ => hq t ht) hf hd hlocks
theorem ml_RkZ {b : ByteArray} (v : Int32) (h : v = 0 ∨ v = 1) : ml_Rk b (some .boolean) .ireturn (some (ml_i v)) := by
  intro B p l e R s m args below meth c H locs pc cells slots ls Qc free hx hb hr hlocks hd hq hf
  exact W.zret (v := v) (ty := .boolean) hx hb hr (by rcases h with rfl | rfl <;> rfl) (fun t ht _ => hq t ht) hf hd hlocks
theorem ml_RkJ {b : ByteArray} (v : Int64) : ml_Rk b (some .long) .lreturn (some (ml_l v)) := by
  intro B p l e R s m args below meth c H locs pc cells slots ls Qc free hx hb hr hlocks hd hq hf
  exact W.lret (v := v) hx hb hr (fun t ht _ => hq t ht) hf hd hlocks
theorem ml_RkV {b : ByteArray} : ml_Rk b none .return_ none := by
  intro B p l e R s m args below meth c H locs pc cells slots ls Qc free hx hb hr hlocks hd hq hf
  exact W.vret hx hb hr (fun t ht _ => hq t ht) hf hd hlocks
theorem ml_RkA {b : ByteArray} {rt : FieldType} (h : ml_isR rt) (a : Nat) : ml_Rk b (some rt) .areturn (some (ml_r a)) := by
  intro B p l e R s m args below meth c H locs pc cells slots ls Qc free hx hb hr hlocks hd hq hf
  refine W.aret (v := ml_rf B a) hx hb hr h ?_ (fun t ht _ => hq t ht) hf hd hlocks
  unfold ml_rf
  split
  · exact Or.inl rfl
  · exact Or.inr ⟨_, rfl⟩
theorem ml_Sn_of {y : MethodName} {b : ByteArray} {nl : Nat} {ret : Option FieldType} {d : Nat} {av : List ml_X} {m : ml_M} {out : Option ml_X} {m' : ml_M} {ins : Jvm.ClassFile.Instr} {ini : Bool} (hy : plainName y.cls = true) (hwd : ml_words av ≤ nl) (hini : ini = true → y.name = "<init>") (hret : ml_Rk b ret ins out)
    (body : ∀ E : ml_E, ml_eL E = nl → (∀ (pc pc' : Nat) (lv : List (Nat × ml_X)), ml_d b pc ins 1 pc' → ml_V E y.cls b d ini m' pc lv out.toList) → ml_V E y.cls b d ini m 0 (ml_args 0 av) []) : ml_Sn y b nl ret d av m out m' := by
  have hbnd : ml_n m ≤ ml_n m' ∧ ml_s m ≤ ml_s m' := (body (ml_E0dummy m m' nl) rfl (fun pc pc' lv hd h1 h2 => ⟨⟨Nat.le_refl _, Nat.le_refl _⟩, fun _ _ _ _ _ _ _ => trivial⟩) (Nat.le_refl _) (Nat.le_refl _)).1
  refine ⟨hbnd, fun l G => ?_⟩
  refine Met.ofW (cc := b) (maxL := nl) (ret := ret) hy rfl ?_
  intro p e s m0 args below meth c s₁ B hml hv
  obtain ⟨rfl, hHP, hST⟩ := hv
  have hts := atoms_spec (ws := .code y b nl ret :: ml_TB) B.pre
  have hown : s.vm.findClass y.cls = some m0.cls := findClass_of_methodNamed B.named
  have hnm : meth.name = y.name := (name_of_methodNamed B.named B.method).1
  have hl := lv_entry (ml_sv (ml_B G) av) (n := nl) (by rw [ml_words_sl]; exact hwd)
  rw [lg_entry_eq]
  generalize (lg_sl (ml_sv (ml_B G) av) ++ List.replicate (nl - (lg_sl (ml_sv (ml_B G) av)).length) Slot.unset).toArray = ls at hl ⊢
  rw [ml_args_lv] at hl
  have k := body (G, ml_n m', ml_s m', ml_n m, ml_s m, nl, m0, fun H locs cells slots g => W p l e { frames := d, cells := ml_n m' - ml_n m, slots := ml_s m' - ml_s m, locals := 64 * d } s m0 (ml_sv (ml_B G) av).toArray below meth c H locs cells slots (MQ below (fun _ _ o t => o = .returned (out.map (ml_val (ml_B G))) ∧ ml_HP G m' t.heap) (ml_sv (ml_B G) av).toArray s (ml_n m' - ml_n m) (ml_s m' - ml_s m) (fun q => ml_B G < q)) g) rfl ?_ (Nat.le_refl _) (Nat.le_refl _)
  · have k2 := k.2 ⟨p, l, e, _, s, _, below, meth, c, _, rfl, ⟨Nat.le_refl _, rfl, rfl, Nat.le_refl _⟩, B.exec, B.bytes, hml, hown, fun w hw => hts w (List.mem_cons_of_mem _ hw), hST, fun h => by rw [hnm]; exact hini h⟩ s.heap [] ls hHP (fun q hq => by cases hq) hl
    have k3 : W p l e { frames := d, cells := ml_n m' - ml_n m, slots := ml_s m' - ml_s m, locals := 64 * d } s m0 (ml_sv (ml_B G) av).toArray below meth c s.heap [] (ml_n m - ml_n m) (ml_s m - ml_s m) (MQ below (fun _ _ o t => o = .returned (out.map (ml_val (ml_B G))) ∧ ml_HP G m' t.heap) (ml_sv (ml_B G) av).toArray s (ml_n m' - ml_n m) (ml_s m' - ml_s m) (fun q => ml_B G < q)) (F0 m0 0 ls []) := k2
    rw [Nat.sub_self, Nat.sub_self] at k3
    exact k3
  · intro pc pc' lv hd h1 h2
    refine ⟨⟨Nat.le_refl _, Nat.le_refl _⟩, fun C H locs ls hH hL hl => ?_⟩
    exact hret (ml_B G) p l e _ s m0 _ below meth c H locs pc _ _ ls (fun _ _ o t => o = .returned (out.map (ml_val (ml_B G))) ∧ ml_HP G m' t.heap) (fun q => ml_B G < q) B.exec B.bytes B.returns B.notSynchronized hd.1 (fun t ht => ⟨rfl, by rw [ht]; exact hH⟩) hL

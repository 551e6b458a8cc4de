/-! METHODS THAT ARE GIVEN THE SCRIPT: their contract speaks of one world -/
def ml_SnG (G : ml_G) (y : MethodName) (b : ByteArray) (nl : Nat) (ret : Option FieldType) (d : Nat) (av : List ml_X) (m : ml_M) (out : Option ml_X) (m' : ml_M) : Prop :=
  (ml_n m ≤ ml_n m' ∧ ml_s m ≤ ml_s m') ∧ ∀ (l : Launch), Met l y (.code y b nl ret :: ml_TB) { frames := d, cells := ml_n m' - ml_n m, slots := ml_s m' - ml_s m, locals := 64 * d } (va_Pc (ml_sv (ml_B G) av) (fun U => ml_HP G m U.heap ∧ ml_ST G U)) (fun _ _ o t => o = .returned (out.map (ml_val (ml_B G))) ∧ ml_HP G m' t.heap) (ml_n m' - ml_n m) (ml_s m' - ml_s m) (fun q => ml_B G < q)
theorem ml_callSg {E : ml_E} {own : String} {cc : ByteArray} {d d' : Nat} {ini : Bool} {m m' : ml_M} {pc pc' idx n : Nat} {lv : List (Nat × ml_X)} {st st0 As : List ml_X} {out : Option ml_X} {y : MethodName} {b : ByteArray} {nl : Nat} {ret : Option FieldType} (hd : ml_d cc pc (.invokestatic idx) 3 pc') (hw : Cond.methodLink own idx y ∈ ml_TB) (hy : ml_y y b nl ret n ∧ Cond.static y ∈ ml_TB)
    (S : ml_SnG (ml_eG E) y b nl ret d' As m out m') (hn : As.length = n) (hdd : d' + 1 ≤ d) (hst8 : ml_words st ≤ 8) (hs : As.reverse ++ st = st0) (kn : ml_V E own cc d ini m' pc' lv (out.toList ++ st)) : ml_V E own cc d ini m pc lv st0 := by
  obtain ⟨hd, hpc⟩ := hd
  obtain ⟨⟨y1, y2, ⟨y3, y4, y5⟩, y6⟩, y7⟩ := hy
  refine kn.called hpc S.1 fun p l e R s args below meth c H locs ls hR hx hb hml hown hts hst hH hls hroom => ?_
  have hM := S.2 l
  have hG : GoodIn ml_TB (Cond.code y b nl ret :: ml_TB) := ml_goodT fun w hw => by
    rcases List.mem_cons.mp hw with rfl | h
    · exact y1
    · exact h
  have hCB := callB_of (R := R) (s := s) (args := args) (own := own) (index := idx) (y := y) (bytes := b) (maxL := nl) (ret := ret) (ws' := ml_TB) (rm := { frames := d', cells := ml_n m' - ml_n m, slots := ml_s m' - ml_s m, locals := 64 * d' }) n hts hG rfl rfl rfl (hts _ y2) (hts _ hw) ⟨y3, y4, y5⟩ ⟨by show d' + 1 ≤ _; omega, by show 8 + (nl + 11) + 64 * d' ≤ _; omega⟩
  refine va_runS (As := ml_sv (ml_b E) As) (n := n) ⟨hx, hb, hml, hown, hts⟩ hM ⟨hCB, hts _ y7⟩ ⟨ml_blind _ _ _, fun U hU hWm => ⟨rfl, by rw [hU]; exact hH, hst.warm hWm⟩⟩ rfl (by rw [← hn]; simp [ml_sv]) hls ?_ (lv_room (by rw [ml_sum_cat]; exact hst8)) hd hroom
  show ml_sv (ml_b E) st0 = _
  rw [← hs, ml_rev]
theorem ml_SnG_of {G : ml_G} {y : MethodName} {b : ByteArray} {nl : Nat} {ret : Option FieldType} {d : Nat} {av : List ml_X} {m : ml_M} {out : Option ml_X} {m' : ml_M} {ins : Jvm.ClassFile.Instr} {ini : Bool} (hy : plainName y.cls = true) (hwd : ml_words av ≤ nl) (hini : ini = true → y.name = "<init>") {P : Prop} (hret : P → ml_Rk b ret ins out)
    (body : ∀ E : ml_E, ml_eG E = G → ml_eL E = nl → (∀ (pc pc' : Nat) (lv : List (Nat × ml_X)), ml_d b pc ins 1 pc' → P → ml_V E y.cls b d ini m' pc lv out.toList) → ml_V E y.cls b d ini m 0 (ml_args 0 av) []) : ml_SnG G y b nl ret d av m out m' := by
  have hbnd : ml_n m ≤ ml_n m' ∧ ml_s m ≤ ml_s m' := (body (G, ml_n m', ml_s m', ml_n m, ml_s m, nl, ⟨0, 0⟩, fun _ _ _ _ _ => True) rfl rfl (fun pc pc' lv hd hp h1 h2 => ⟨⟨Nat.le_refl _, Nat.le_refl _⟩, fun _ _ _ _ _ _ _ => trivial⟩) (Nat.le_refl _) (Nat.le_refl _)).1
  refine ⟨hbnd, fun l => ?_⟩
  refine Met.ofW (cc := b) (maxL := nl) (ret := ret) hy rfl ?_
  intro p e s m0 args below meth c s₁ B hml hv
  obtain ⟨rfl, hHP, hST⟩ := hv
  have hts := atoms_spec (ws := .code y b nl ret :: ml_TB) B.pre
  have hown : s.vm.findClass y.cls = some m0.cls := findClass_of_methodNamed B.named
  have hnm : meth.name = y.name := (name_of_methodNamed B.named B.method).1
  have hl := lv_entry (ml_sv (ml_B G) av) (n := nl) (by rw [ml_words_sl]; exact hwd)
  rw [lg_entry_eq]
  generalize (lg_sl (ml_sv (ml_B G) av) ++ List.replicate (nl - (lg_sl (ml_sv (ml_B G) av)).length) Slot.unset).toArray = ls at hl ⊢
  rw [ml_args_lv] at hl
  have k := body (G, ml_n m', ml_s m', ml_n m, ml_s m, nl, m0, fun H locs cells slots g => W p l e { frames := d, cells := ml_n m' - ml_n m, slots := ml_s m' - ml_s m, locals := 64 * d } s m0 (ml_sv (ml_B G) av).toArray below meth c H locs cells slots (MQ below (fun _ _ o t => o = .returned (out.map (ml_val (ml_B G))) ∧ ml_HP G m' t.heap) (ml_sv (ml_B G) av).toArray s (ml_n m' - ml_n m) (ml_s m' - ml_s m) (fun q => ml_B G < q)) g) rfl rfl ?_ (Nat.le_refl _) (Nat.le_refl _)
  · have k2 := k.2 ⟨p, l, e, _, s, _, below, meth, c, _, rfl, ⟨Nat.le_refl _, rfl, rfl, Nat.le_refl _⟩, B.exec, B.bytes, hml, hown, fun w hw => hts w (List.mem_cons_of_mem _ hw), hST, fun h => by rw [hnm]; exact hini h⟩ s.heap [] ls hHP (fun q hq => by cases hq) hl
    have k3 : W p l e { frames := d, cells := ml_n m' - ml_n m, slots := ml_s m' - ml_s m, locals := 64 * d } s m0 (ml_sv (ml_B G) av).toArray below meth c s.heap [] (ml_n m - ml_n m) (ml_s m - ml_s m) (MQ below (fun _ _ o t => o = .returned (out.map (ml_val (ml_B G))) ∧ ml_HP G m' t.heap) (ml_sv (ml_B G) av).toArray s (ml_n m' - ml_n m) (ml_s m' - ml_s m) (fun q => ml_B G < q)) (F0 m0 0 ls []) := k2
    rw [Nat.sub_self, Nat.sub_self] at k3
    exact k3
  · intro pc pc' lv hd hp h1 h2
    refine ⟨⟨Nat.le_refl _, Nat.le_refl _⟩, fun C H locs ls hH hL hl => ?_⟩
    exact hret hp (ml_B G) p l e _ s m0 _ below meth c H locs pc _ _ ls (fun _ _ o t => o = .returned (out.map (ml_val (ml_B G))) ∧ ml_HP G m' t.heap) (fun q => ml_B G < q) B.exec B.bytes B.returns B.notSynchronized hd.1 (fun t ht => ⟨rfl, by rw [ht]; exact hH⟩) hL
theorem ml_ldc {E : ml_E} {own : String} {cc : ByteArray} {d : Nat} {ini : Bool} {m : ml_M} {pc pc' : Nat} {lv : List (Nat × ml_X)} {st : List ml_X} {i : Nat} {v : Int32} (hd : ml_d cc pc (.ldc i) 2 pc') (hw : Cond.constant own i v ∈ ml_TB) (k : ml_V E own cc d ini m pc' lv (ml_i v :: st)) : ml_V E own cc d ini m pc lv st := by
  obtain ⟨hd, rfl⟩ := hd
  refine k.same fun C H locs ls a b hH hl kk => ?_
  obtain ⟨p, l, e, R, s, args, below, meth, c, Q, hW, hR, hx, hb, hml, hown, hts, hst, hin⟩ := C
  rw [hW] at kk ⊢
  exact lv_ldc hx hb hown (hts _ hw) hd kk

/-! ROWS OVER THE PLAIN MEMORY: copies, casts, calls, ends; a method's contract -/
theorem ml_HP.putA {G : ml_G} {m m' : ml_M} {H H1 : Heap} {x : Nat} (hH : ml_HP G m H) (hn : ml_n m' = ml_n m) (hKK : ml_K m' = ml_K m) (ho : ∀ (B : Nat) (ty : FieldType) (a j : Nat), a ≠ x → ml_v B m' ty a j = ml_v B m ty a j) (hx : 1 ≤ x) (z : H1.size = H.size)
    (oq : ∀ q, q ≠ ml_B G + x → H1[q]? = H[q]?) (hat : ml_at G m' x H1) : ml_HP G m' H1 := by
  refine ⟨by rw [z, hn]; exact hH.1, fun q hq => by rw [oq q (by omega)]; exact hH.2.1 q hq, fun a ha => ?_⟩
  rw [hKK] at ha
  refine ⟨by rw [hn]; exact (hH.2.2 a ha).1, ?_⟩
  by_cases h : a = x
  · rw [h]; exact hat
  · exact (hH.2.2 a ha).2.to (by rw [hKK]) (fun ty j => ho _ _ _ _ h) (oq _ (by omega))
theorem ml_nn (z : Int32) (hz : ¬ z < 0) : z.toInt = (z.toNatClampNeg : Int) := by
  have hz0 : (0 : Int) ≤ z.toInt := by
    have := Int32.not_lt.mp hz
    simpa using Int32.le_iff_toInt_le.mp this
  show z.toInt = ((z.toInt.toNat : Nat) : Int)
  omega
abbrev ml_cpo (m : ml_M) (sa da : Nat) (sp dp n : Int32) : Prop := ((ml_K m sa).1 = 20 ∧ (ml_K m da).1 = 20) ∧ (¬ sp < 0 ∧ ¬ dp < 0 ∧ ¬ n < 0) ∧ sp.toNatClampNeg + n.toNatClampNeg ≤ (ml_K m sa).2 ∧ dp.toNatClampNeg + n.toNatClampNeg ≤ (ml_K m da).2
theorem ml_v_cp (B : Nat) (m : ml_M) (sa sp da dp n : Nat) (ty : FieldType) (a j : Nat) (h : a ≠ da) : ml_v B (ml_cp m sa sp da dp n) ty a j = ml_v B m ty a j := by
  cases ty <;> simp [ml_v, ml_cp, ml_I, ml_R, ml_J, h]
theorem ml_copy {E : ml_E} {own : String} {cc : ByteArray} {d : Nat} {ini : Bool} {m : ml_M} {pc pc' : Nat} {lv : List (Nat × ml_X)} {st : List ml_X} {sa da idx : Nat} {sp dp n : Int32} (hd : ml_d cc pc (.invokestatic idx) 3 pc') (hw : Cond.methodLink own idx arraycopyName ∈ ml_TB ∧ Cond.native arraycopyName ∈ ml_TB ∧ Cond.static arraycopyName ∈ ml_TB ∧ Cond.initialized "java/lang/System" ∈ ml_TB) (hd1 : 1 ≤ d) (hst8 : ml_words st ≤ 8) (ho : ml_cpo m sa da sp dp n) (kn : ml_V E own cc d ini (ml_cp m sa sp.toNatClampNeg da dp.toNatClampNeg n.toNatClampNeg) pc' lv st) : ml_V E own cc d ini m pc lv (ml_i n :: ml_i dp :: ml_r da :: ml_i sp :: ml_r sa :: st) := by
  obtain ⟨hd, rfl⟩ := hd
  obtain ⟨w1, w2, w3, w4⟩ := hw
  obtain ⟨⟨o1, o2⟩, ⟨o3, o4, o5⟩, o6, o7⟩ := ho
  intro n1 n2
  obtain ⟨kb, kk⟩ := kn n1 n2
  refine ⟨kb, fun C H locs ls hH hL hl => ?_⟩
  have kk := kk C
  obtain ⟨p, l, e, R, s, args, below, meth, c, Q, hW, hR, hx, hb, hml, hown, hts, hst, hin⟩ := C
  rw [hW] at kk ⊢
  obtain ⟨⟨h1, -⟩, h2⟩ := hH.arr o1 (by omega) (by omega)
  obtain ⟨⟨h3, -⟩, h4⟩ := hH.arr o2 (by omega) (by omega)
  obtain ⟨kA, kc, comp, f1, f2, -⟩ := hst.2.1 20 (by omega) (by omega)
  show W p l e R s (ml_em E) args below meth c H locs _ _ Q (F0 (ml_em E) pc ls (.int n :: .int dp :: ml_val (ml_b E) (ml_r da) :: .int sp :: ml_val (ml_b E) (ml_r sa) :: ml_sv (ml_b E) st))
  rw [ml_refv h1, ml_refv h3]
  intro T hT X
  obtain ⟨vm', X', step⟩ := X.arraycopy hx hown (hts _ w1) (hts _ w2) (hts _ w3) (hts _ w4) (src := ml_b E + sa) (dst := ml_b E + da) (cs := arrV (ml_cA (ml_eG E) 20) (ml_K m sa).2 (fun j => .int (ml_I m sa j))) (cd := arrV (ml_cA (ml_eG E) 20) (ml_K m da).2 (fun j => .int (ml_I m da j))) (srcPos := sp) (destPos := dp) (n := n) (by rw [hT]; exact h2) (by rw [hT]; exact h4)
    (fun _ h => by cases h) (fun _ h => by cases h) (fun h => by cases h) (fun h => by cases h) f1 f1 f2 f2 (by rfl) o3 o4 o5
    (by rw [ml_nn sp o3, ml_nn n o5, arrV_size]; omega)
    (by rw [ml_nn dp o4, ml_nn n o5, arrV_size]; omega)
    (fun vm₁ _ i hi => by
      have e : (arrV (ml_cA (ml_eG E) 20) (ml_K m sa).2 (fun j => .int (ml_I m sa j))).slots.getD (sp.toNatClampNeg + i) .null = .int (ml_I m sa (sp.toNatClampNeg + i)) := by
        rw [Array.getD_eq_getD_getElem?, arrV_read _ _ (by omega)]
        rfl
      refine ⟨?_, ?_⟩
      · rw [e]
        rfl
      · rw [e]
        exact trivial)
    (g := F0 (ml_em E) pc ls (.int n :: .int dp :: .ref (ml_b E + da) :: .int sp :: .ref (ml_b E + sa) :: ml_sv (ml_b E) st)) rfl (by rw [hml]; exact hl.1) (rest := ml_sv (ml_b E) st) rfl (by rw [hb]; exact hd) (by omega) (by
      show 2 * 0 + _ + _ ≤ _
      rw [ml_sum_cat]
      have : nativeFrameWords "java/lang/System" "arraycopy" 5 + 11 ≤ 48 := by decide +kernel
      omega)
  have e1 : copied (arrV (ml_cA (ml_eG E) 20) (ml_K m sa).2 (fun j => .int (ml_I m sa j))) (arrV (ml_cA (ml_eG E) 20) (ml_K m da).2 (fun j => .int (ml_I m da j))) sp dp n = arrV (ml_cA (ml_eG E) 20) (ml_K m da).2 (fun j => .int (va_cpy (ml_I m sa) (ml_I m da) sp.toNatClampNeg dp.toNatClampNeg n.toNatClampNeg j)) := va_copied (fun z => .int z) _ _ _ _ o6
  rw [e1] at X' step
  have hlt : ml_b E + da < H.size := (Array.getElem?_eq_some_iff.mp h4).1
  generalize hY : arrV (ml_cA (ml_eG E) 20) (ml_K m da).2 (fun j => .int (va_cpy (ml_I m sa) (ml_I m da) sp.toNatClampNeg dp.toNatClampNeg n.toNatClampNeg j)) = Y at X' step
  have hheap : ((T.setVm vm').setCell (ml_b E + da) Y).heap = H.setIfInBounds (ml_b E + da) Y := by rw [← hT]; rfl
  have oq : ∀ q : Nat, q ≠ ml_B (ml_eG E) + da → (H.setIfInBounds (ml_b E + da) Y)[q]? = H[q]? := fun q hq => by
    rw [Array.getElem?_setIfInBounds, if_neg (fun z => hq z.symm)]
  have hHP : ml_HP (ml_eG E) (ml_cp m sa sp.toNatClampNeg da dp.toNatClampNeg n.toNatClampNeg) (H.setIfInBounds (ml_b E + da) Y) := by
    refine hH.putA (x := da) rfl rfl (fun B ty a j h => ml_v_cp B m _ _ _ _ _ ty a j h) h3 (by simp) oq (Or.inr ⟨by show 20 ≤ (ml_K m da).1 ∧ (ml_K m da).1 < 31; omega, ?_⟩)
    have hk9 : ml_K (ml_cp m sa sp.toNatClampNeg da dp.toNatClampNeg n.toNatClampNeg) da = ml_K m da := rfl
    rw [hk9, o2, show (H.setIfInBounds (ml_b E + da) Y)[ml_B (ml_eG E) + da]? = some Y by
      rw [Array.getElem?_setIfInBounds, if_pos (show ml_b E + da = ml_B (ml_eG E) + da from rfl)]
      exact if_pos hlt, ← hY]
    congr 2
    funext j
    simp [ml_v, ml_ety, ml_cp, ml_I, va_cpy]
  obtain ⟨t, a1, b1⟩ := kk _ _ ls hHP (fun q hq => by
      rcases List.mem_append.mp hq with h | h
      · exact hL q h
      · obtain ⟨z, -, hz⟩ := List.mem_map.mp h
        rw [← hz]
        show ml_b E < ml_b E + da
        omega) hl _ hheap X'
  exact ⟨t, step t a1, b1⟩
theorem ml_v_cl2 (B : Nat) (m : ml_M) (a : Nat) (ty : FieldType) (b j : Nat) (h : ¬ b = ml_n m + 1) : ml_v B (ml_cl2 m a) ty b j = ml_v B m ty b j := by
  cases ty <;> simp [ml_v, ml_cl2, ml_I, ml_R, ml_J, h]
theorem ml_clone {E : ml_E} {own : String} {cc : ByteArray} {d : Nat} {ini : Bool} {m : ml_M} {pc pc' : Nat} {lv : List (Nat × ml_X)} {st : List ml_X} {a idx : Nat} (hd : ml_d cc pc (.invokevirtual idx) 3 pc') (hw : Cond.methodLink own idx ⟨"[I", "clone", "()Ljava/lang/Object;"⟩ ∈ ml_TB ∧ Cond.sameMethod "[I" "java/lang/Object" "clone" "()Ljava/lang/Object;" ∈ ml_TB ∧ Cond.native ⟨"java/lang/Object", "clone", "()Ljava/lang/Object;"⟩ ∈ ml_TB ∧ Cond.instanceMethod ⟨"java/lang/Object", "clone", "()Ljava/lang/Object;"⟩ ∈ ml_TB ∧ Cond.selects "[I" ⟨"[I", "clone", "()Ljava/lang/Object;"⟩ ⟨"java/lang/Object", "clone", "()Ljava/lang/Object;"⟩ ∈ ml_TB) (hd1 : 1 ≤ d) (hst8 : ml_words st ≤ 8) (ho : (ml_K m a).1 = 20) (kn : ml_V E own cc d ini (ml_cl2 m a) pc' lv (ml_r (ml_n m + 1) :: st)) : ml_V E own cc d ini m pc lv (ml_r a :: st) := by
  obtain ⟨hd, rfl⟩ := hd
  obtain ⟨w1, w2, w3, w4, w5⟩ := hw
  intro n1 n2
  obtain ⟨⟨k1, k2⟩, kk⟩ := kn (by show _ ≤ ml_n m + 1; omega) (by show _ ≤ ml_s m + (ml_K m a).2; omega)
  have k1 : ml_n m + 1 ≤ ml_eN E := k1
  have k2 : ml_s m + (ml_K m a).2 ≤ ml_eS E := k2
  refine ⟨⟨by omega, by omega⟩, fun C H locs ls hH hL hl => ?_⟩
  have kk := kk C
  obtain ⟨p, l, e, R, s, args, below, meth, c, Q, hW, hR, hx, hb, hml, hown, hts, hst, hin⟩ := C
  rw [hW] at kk ⊢
  obtain ⟨⟨h1, -⟩, h2⟩ := hH.arr ho (by omega) (by omega)
  obtain ⟨kA, kc, comp, f1, f2, f3, -⟩ := hst.2.1 20 (by omega) (by omega)
  obtain ⟨c0, t0', g1, g2, g3⟩ := Cond.castable_spec (va_Nw.use (A := args) rfl hst.2.2.2.1)
  have hc0 : c0 = ml_cA (ml_eG E) 20 := Option.some.inj (g1.symm.trans f3)
  subst hc0
  show W p l e R s (ml_em E) args below meth c H locs _ _ Q (F0 (ml_em E) pc ls (ml_val (ml_b E) (ml_r a) :: ml_sv (ml_b E) st))
  rw [ml_refv h1]
  intro T hT X
  obtain ⟨k', hk', he⟩ := X.warmed.alike.2.2 _ _ f1
  have hkind' : k'.kind = .array comp (ml_ety 20) := by rw [he]; exact f2
  obtain ⟨vm', X', step⟩ := X.cloneArray hx hown (hts _ w1) (hts _ w2) (hts _ w3) (hts _ w4) (hts _ w5) (a := ml_b E + a) (cell := arrV (ml_cA (ml_eG E) 20) (ml_K m a).2 (fun j => .int (ml_I m a j))) (by rw [hT]; exact h2) (fun k h => by cases h) (fun h => by cases h) f3 g2 g3
    (fun i v hv => by
      have hi : i < (ml_K m a).2 := by
        have := (Array.getElem?_eq_some_iff.mp hv).1
        rw [arrV_size] at this
        exact this
      rw [arrV_read _ _ hi] at hv
      cases hv
      have hk2 : T.vm.classes[ml_cA (ml_eG E) 20]? = some k' := hk'
      simp [State.fitsSlot, State.slotType?, arrV, hk2, hkind', ml_ety, fits])
    (g := F0 (ml_em E) pc ls (.ref (ml_b E + a) :: ml_sv (ml_b E) st)) rfl (by rw [hml]; exact hl.1) rfl (by rw [hb]; exact hd) (by omega) (by
      show 2 * 0 + _ + 14 ≤ _
      rw [ml_sum_cat]
      omega) (by omega) (by rw [arrV_size]; omega) (hloader := Vm.clonesLoader_of_array f1 f2)
  have hcellE : ({ cls := (arrV (ml_cA (ml_eG E) 20) (ml_K m a).2 (fun j => .int (ml_I m a j))).cls, slots := (arrV (ml_cA (ml_eG E) 20) (ml_K m a).2 (fun j => .int (ml_I m a j))).slots } : Cell) = arrV (ml_cA (ml_eG E) 20) (ml_K m a).2 (fun j => .int (ml_I m a j)) := rfl
  rw [hcellE, arrV_size] at X'
  generalize hY : arrV (ml_cA (ml_eG E) 20) (ml_K m a).2 (fun j => .int (ml_I m a j)) = Y at X' step
  generalize hH1 : H.push Y = H1
  have z1 : H1.size = H.size + 1 := by rw [← hH1, Array.size_push]
  have e1 : H1[H.size]? = some Y := by rw [← hH1, Array.getElem?_push_size]
  have o1 : ∀ q : Nat, q < H.size → H1[q]? = H[q]? := fun q hq => by rw [← hH1, Array.getElem?_push, if_neg (Nat.ne_of_lt hq)]
  have hHP : ml_HP (ml_eG E) (ml_cl2 m a) H1 := by
    have hs := hH.1
    refine ⟨by rw [z1, hs]; show _ = _ + (ml_n m + 1); omega, fun q hq => by rw [o1 q (by omega)]; exact hH.2.1 q hq, fun b hb9 => ?_⟩
    by_cases h : b = ml_n m + 1
    · subst h
      have hk9 : ml_K (ml_cl2 m a) (ml_n m + 1) = ml_K m a := if_pos rfl
      refine ⟨⟨by omega, Nat.le_refl _⟩, Or.inr ⟨by rw [hk9]; omega, ?_⟩⟩
      rw [hk9, ho, show ml_B (ml_eG E) + (ml_n m + 1) = H.size by rw [hs]; omega, e1, ← hY]
      congr 2
      funext j
      simp [ml_v, ml_ety, ml_cl2, ml_I]
    · have hk9 : ml_K (ml_cl2 m a) b = ml_K m b := if_neg h
      rw [hk9] at hb9
      obtain ⟨⟨q1, q2⟩, q3⟩ := hH.2.2 b hb9
      exact ⟨⟨q1, Nat.le_succ_of_le q2⟩, q3.to hk9 (fun ty j => ml_v_cl2 _ _ _ _ _ _ h) (o1 _ (by omega))⟩
  have k3 := kk H1 locs ls hHP hL hl
  rw [show ml_n (ml_cl2 m a) - ml_en E = ml_n m - ml_en E + 1 by show ml_n m + 1 - _ = _; omega, show ml_s (ml_cl2 m a) - ml_es E = ml_s m - ml_es E + (ml_K m a).2 by show ml_s m + (ml_K m a).2 - _ = _; omega] at k3
  have k4 : W p l e R s (ml_em E) args below meth c H1 locs _ _ Q (F0 (ml_em E) (pc + 3) ls (ml_val (ml_b E) (ml_r (ml_n m + 1)) :: ml_sv (ml_b E) st)) := k3
  rw [show ml_val (ml_b E) (ml_r (ml_n m + 1)) = .ref H.size from ml_new1 _ hH] at k4
  obtain ⟨t, b1, b2⟩ := k4 ((T.setVm vm').pushCell Y) (by rw [← hH1, ← hT]; rfl) X'
  refine ⟨t, step t ?_, b2⟩
  rw [hT]
  subst hY
  exact b1
theorem ml_cast {E : ml_E} {own : String} {cc : ByteArray} {d : Nat} {ini : Bool} {m : ml_M} {pc pc' : Nat} {lv : List (Nat × ml_X)} {st : List ml_X} {a idx : Nat} (hd : ml_d cc pc (.checkcast idx) 3 pc') (hw : Cond.classLink own idx "[I" ∈ ml_TB) (ho : (ml_K m a).1 = 20) (kn : ml_V E own cc d ini m pc' lv (ml_r a :: st)) : ml_V E own cc d ini m pc lv (ml_r a :: st) := by
  obtain ⟨hd, rfl⟩ := hd
  refine kn.same fun C H locs ls a1 b1 hH hl kk => ?_
  obtain ⟨p, l, e, R, s, args, below, meth, c, Q, hW, hR, hx, hb, hml, hown, hts, hst, hin⟩ := C
  rw [hW] at kk ⊢
  obtain ⟨⟨h1, -⟩, h2⟩ := hH.arr ho (by omega) (by omega)
  obtain ⟨kA, kc, comp, f1, f2, f3, -⟩ := hst.2.1 20 (by omega) (by omega)
  have kk : W p l e R s (ml_em E) args below meth c H locs _ _ Q (F0 (ml_em E) (pc + 3) ls (ml_val (ml_b E) (ml_r a) :: ml_sv (ml_b E) st)) := kk
  show W p l e R s (ml_em E) args below meth c H locs _ _ Q (F0 (ml_em E) pc ls (ml_val (ml_b E) (ml_r a) :: ml_sv (ml_b E) st))
  rw [ml_refv h1] at kk ⊢
  intro T hT X
  obtain ⟨vm', X', st9⟩ := X.checkcastYes hx hown (hts _ hw) (by rw [hT]; exact h2) (by rfl) f3 (by exact va_asg _ _) (g := F0 (ml_em E) pc ls (.ref (ml_b E + a) :: ml_sv (ml_b E) st)) rfl rfl (by rw [hb]; exact hd)
  obtain ⟨t, a1, b1⟩ := kk (T.setVm vm') hT X'
  exact ⟨t, st9 t a1, b1⟩
theorem ml_objInit {E : ml_E} {own : String} {cc : ByteArray} {d : Nat} {ini : Bool} {m : ml_M} {pc pc' : Nat} {lv : List (Nat × ml_X)} {st : List ml_X} {a idx : Nat} (hd : ml_d cc pc (.invokespecial idx) 3 pc') (hw : Cond.methodLink own idx Lib.objectInit ∈ ml_TB ∧ Cond.instanceMethod Lib.objectInit ∈ ml_TB ∧ Cond.code Lib.objectInit ⟨#[0xb1]⟩ 1 none ∈ ml_TB) (hd1 : 1 ≤ d) (hst8 : ml_words st ≤ 8) (ho : a ≠ 0) (kn : ml_V E own cc d ini m pc' lv st) : ml_V E own cc d ini m pc lv (ml_r a :: st) := by
  obtain ⟨hd, rfl⟩ := hd
  refine kn.same fun C H locs ls a1 b1 hH hl kk => ?_
  obtain ⟨p, l, e, R, s, args, below, meth, c, Q, hW, hR, hx, hb, hml, hown, hts, hst, hin⟩ := C
  rw [hW] at kk ⊢
  show W p l e R s (ml_em E) args below meth c H locs _ _ Q (F0 (ml_em E) pc ls (ml_val (ml_b E) (ml_r a) :: ml_sv (ml_b E) st))
  rw [ml_refv (by omega)]
  refine W.objInit hx hb hown (hts _ hw.1) (hts _ hw.2.1) (hts _ hw.2.2) rfl (by rw [hml]; exact hl.1) rfl hd (by omega) ?_ kk
  show 2 * 0 + _ + 12 ≤ _
  rw [ml_sum_cat]
  omega
-- a method's contract over the plain memory: from m, with these arguments, it returns out, and leaves m'
def ml_Sn (y : MethodName) (b : ByteArray) (nl : Nat) (ret : Option FieldType) (d : Nat) (av : List ml_X) (m : ml_M) (out : Option ml_X) (m' : ml_M) : Prop :=
  (ml_n m ≤ ml_n m' ∧ ml_s m ≤ ml_s m') ∧ ∀ (l : Launch) (G : ml_G), Met l y (.code y b nl ret :: ml_TB) { frames := d, cells := ml_n m' - ml_n m, slots := ml_s m' - ml_s m, locals := 64 * d } (va_Pc (ml_sv (ml_B G) av) (fun U => ml_HP G m U.heap ∧ ml_ST G U)) (fun _ _ o t => o = .returned (out.map (ml_val (ml_B G))) ∧ ml_HP G m' t.heap) (ml_n m' - ml_n m) (ml_s m' - ml_s m) (fun q => ml_B G < q)
/-- what the tables say of a method that is called -/
def ml_y (y : MethodName) (b : ByteArray) (nl : Nat) (ret : Option FieldType) (n : Nat) : Prop :=
  Cond.code y b nl ret ∈ ml_TB ∧ Cond.initialized y.cls ∈ ml_TB ∧ (y.cls ≠ "java/lang/invoke/MethodHandle" ∧ y.cls ≠ "java/lang/invoke/VarHandle" ∧ (parseMethodDescriptor y.desc).map (fun d => d.parameters.length) = some n) ∧ nl ≤ 40
theorem ml_blind (G : ml_G) (m : ml_M) (av : List Value) : FrameBlind (va_Pc av (fun U => ml_HP G m U.heap ∧ ml_ST G U)) := fun a U g mk h => ⟨h.1, h.2.1, h.2.2.calling g mk a⟩
/-- behind a call -/
theorem ml_V.called {E : ml_E} {own : String} {cc : ByteArray} {d : Nat} {ini : Bool} {m m' : ml_M} {pc pc' : Nat} {lv : List (Nat × ml_X)} {st st0 : List ml_X} {out : Option ml_X} (hpc : pc + 3 = pc') (hb : ml_n m ≤ ml_n m' ∧ ml_s m ≤ ml_s m') (kn : ml_V E own cc d ini m' pc' lv (out.toList ++ st))
    (h : ∀ (p : Program) (l : Launch) (e : Env) (R : Room) (s : State) (args : Array Value) (below : List Frame) (meth : Method) (c : Code) (H : Heap) (locs : List Loc) (ls : Array Slot), (d ≤ R.frames ∧ R.cells = ml_eN E - ml_en E ∧ R.slots = ml_eS E - ml_es E ∧ 64 * d ≤ R.locals) → p.tables.exec = Jvm.exec → c.code = cc → c.maxLocals = ml_eL E → s.vm.findClass own = some (ml_em E).cls → (∀ w ∈ ml_TB, w.before args s = true) → ml_ST (ml_eG E) s → ml_HP (ml_eG E) m H → ls.size = ml_eL E → (ml_n m - ml_en E + (ml_n m' - ml_n m) ≤ R.cells ∧ ml_s m - ml_es E + (ml_s m' - ml_s m) ≤ R.slots) →
      va_Run p l e R s (ml_em E) args below meth c H locs (ml_n m - ml_en E) (ml_s m - ml_es E) (ml_n m' - ml_n m) (ml_s m' - ml_s m) (F0 (ml_em E) pc ls (ml_sv (ml_b E) st0)) (ml_sv (ml_b E) st) (fun _ o t => o = .returned (out.map (ml_val (ml_b E))) ∧ ml_HP (ml_eG E) m' t.heap) (fun q => ml_b E < q)) : ml_V E own cc d ini m pc lv st0 := by
  subst hpc
  intro n1 n2
  obtain ⟨kb, kk⟩ := kn (by omega) (by omega)
  refine ⟨⟨by omega, by omega⟩, fun C H locs ls hH hL hl => ?_⟩
  have kk := kk C
  obtain ⟨p, l, e, R, s, args, below, meth, c, Q, hW, hR, hx, hb9, hml, hown, hts, hst, hin⟩ := C
  rw [hW] at kk ⊢
  intro T hT X
  obtain ⟨v, st₀, t, T', L, h0, X', hL', e1, e2, ⟨ho, hHP⟩, stp⟩ := h p l e R s args below meth c H locs ls hR hx hb9 hml hown hts hst hH hl.1 ⟨by omega, by omega⟩ T hT X
  cases ho
  rw [show ml_n m - ml_en E + (ml_n m' - ml_n m) = ml_n m' - ml_en E by omega, show ml_s m - ml_es E + (ml_s m' - ml_s m) = ml_s m' - ml_es E by omega] at X'
  have k2 := kk T'.heap (locs ++ L) ls (by rw [e1]; exact hHP) (fun q hq => by
    rcases List.mem_append.mp hq with z | z
    · exact hL q z
    · exact hL' q z) hl
  have hs : ml_sv (ml_b E) (out.toList ++ st) = (out.map (ml_val (ml_b E))).toList ++ ml_sv (ml_b E) st := by
    cases out <;> rfl
  rw [hs] at k2
  obtain ⟨t2, a1, b1⟩ := k2 T' rfl X'
  exact ⟨t2, stp t2 a1, b1⟩
theorem ml_rev (B : Nat) (As st : List ml_X) : ml_sv B (As.reverse ++ st) = (ml_sv B As).reverse ++ ml_sv B st := by
  simp [ml_sv]
/-- a call of an object's own method -/
theorem ml_callV {E : ml_E} {own : String} {cc : ByteArray} {d d' : Nat} {ini : Bool} {m m' : ml_M} {pc pc' idx n : Nat} {lv : List (Nat × ml_X)} {st st0 As : List ml_X} {out : Option ml_X} {y : MethodName} {b : ByteArray} {nl ci a : Nat} {ret : Option FieldType} (hd : ml_d cc pc (.invokevirtual idx) 3 pc') (hw : Cond.methodLink own idx y ∈ ml_TB) (hy : ml_y y b nl ret n ∧ Cond.instanceMethod y ∈ ml_TB ∧ Cond.selects y.cls y y ∈ ml_TB ∧ ∃ q : vw_C, ml_cs[ci]? = some q ∧ q.1 = y.cls)
    (hK : (ml_K m a).1 = ci) (S : ml_Sn y b nl ret d' (ml_r a :: As) m out m') (hn : As.length = n) (hdd : d' + 1 ≤ d) (hst8 : ml_words st ≤ 8) (hs : As.reverse ++ ml_r a :: st = st0) (kn : ml_V E own cc d ini m' pc' lv (out.toList ++ st)) : ml_V E own cc d ini m pc lv st0 := by
  obtain ⟨hd, hpc⟩ := hd
  obtain ⟨⟨y1, y2, ⟨y3, y4, y5⟩, y6⟩, y7, y8, q, hq, hqc⟩ := hy
  refine kn.called hpc S.1 fun p l e R s args below meth c H locs ls hR hx hb hml hown hts hst hH hls hroom => ?_
  have hM := S.2 l (ml_eG E)
  have hG : GoodIn ml_TB (Cond.code y b nl ret :: ml_TB) := ml_goodT fun w hw => by
    rcases List.mem_cons.mp hw with rfl | h
    · exact y1
    · exact h
  have hCB := callB_of (R := R) (s := s) (args := args) (own := own) (index := idx) (y := y) (bytes := b) (maxL := nl) (ret := ret) (ws' := ml_TB) (rm := { frames := d', cells := ml_n m' - ml_n m, slots := ml_s m' - ml_s m, locals := 64 * d' }) n hts hG rfl rfl rfl (hts _ y2) (hts _ hw) ⟨y3, y4, y5⟩ ⟨by show d' + 1 ≤ _; omega, by show 8 + (nl + 11) + 64 * d' ≤ _; omega⟩
  obtain ⟨⟨h1, -⟩, cell, g1, g2, g3, g4⟩ := hH.obj hq hK
  have hcls := (hst.1 ci q hq).2.1
  refine va_runV (C := y.cls) (b := ml_b E + a) (As := ml_sv (ml_b E) As) (n := n) ⟨hx, hb, hml, hown, hts⟩ hM ⟨hCB, hts _ y7, hts _ y8⟩ ⟨ml_blind _ _ _, ⟨cell, g1, by rw [g3]; rfl, by rw [← hqc, g2]; exact hcls⟩, fun U hU hWm => ⟨?_, by rw [hU]; exact hH, hst.warm hWm⟩⟩ rfl (by rw [← hn]; simp [ml_sv]) hls ?_ (lv_room (by rw [ml_sum_cat]; exact hst8)) hd hroom
  · rw [← ml_refv h1]; rfl
  · show ml_sv (ml_b E) st0 = _
    rw [← hs, ml_rev, ← ml_refv h1]
    rfl
/-- a call of a static method -/
theorem ml_callS {E : ml_E} {own : String} {cc : ByteArray} {d d' : Nat} {ini : Bool} {m m' : ml_M} {pc pc' idx n : Nat} {lv : List (Nat × ml_X)} {st st0 As : List ml_X} {out : Option ml_X} {y : MethodName} {b : ByteArray} {nl : Nat} {ret : Option FieldType} (hd : ml_d cc pc (.invokestatic idx) 3 pc') (hw : Cond.methodLink own idx y ∈ ml_TB) (hy : ml_y y b nl ret n ∧ Cond.static y ∈ ml_TB)
    (S : ml_Sn y b nl ret d' As m out m') (hn : As.length = n) (hdd : d' + 1 ≤ d) (hst8 : ml_words st ≤ 8) (hs : As.reverse ++ st = st0) (kn : ml_V E own cc d ini m' pc' lv (out.toList ++ st)) : ml_V E own cc d ini m pc lv st0 := by
  obtain ⟨hd, hpc⟩ := hd
  obtain ⟨⟨y1, y2, ⟨y3, y4, y5⟩, y6⟩, y7⟩ := hy
  refine kn.called hpc S.1 fun p l e R s args below meth c H locs ls hR hx hb hml hown hts hst hH hls hroom => ?_
  have hM := S.2 l (ml_eG E)
  have hG : GoodIn ml_TB (Cond.code y b nl ret :: ml_TB) := ml_goodT fun w hw => by
    rcases List.mem_cons.mp hw with rfl | h
    · exact y1
    · exact h
  have hCB := callB_of (R := R) (s := s) (args := args) (own := own) (index := idx) (y := y) (bytes := b) (maxL := nl) (ret := ret) (ws' := ml_TB) (rm := { frames := d', cells := ml_n m' - ml_n m, slots := ml_s m' - ml_s m, locals := 64 * d' }) n hts hG rfl rfl rfl (hts _ y2) (hts _ hw) ⟨y3, y4, y5⟩ ⟨by show d' + 1 ≤ _; omega, by show 8 + (nl + 11) + 64 * d' ≤ _; omega⟩
  refine va_runS (As := ml_sv (ml_b E) As) (n := n) ⟨hx, hb, hml, hown, hts⟩ hM ⟨hCB, hts _ y7⟩ ⟨ml_blind _ _ _, fun U hU hWm => ⟨rfl, by rw [hU]; exact hH, hst.warm hWm⟩⟩ rfl (by rw [← hn]; simp [ml_sv]) hls ?_ (lv_room (by rw [ml_sum_cat]; exact hst8)) hd hroom
  show ml_sv (ml_b E) st0 = _
  rw [← hs, ml_rev]
/-- a call of a constructor -/
theorem ml_callI {E : ml_E} {own : String} {cc : ByteArray} {d d' : Nat} {ini : Bool} {m m' : ml_M} {pc pc' idx n : Nat} {lv : List (Nat × ml_X)} {st st0 As : List ml_X} {y : MethodName} {b : ByteArray} {nl a : Nat} (hd : ml_d cc pc (.invokespecial idx) 3 pc') (hw : Cond.methodLink own idx y ∈ ml_TB) (hy : ml_y y b nl none n ∧ Cond.instanceMethod y ∈ ml_TB ∧ y.name = "<init>")
    (ha : a ≠ 0) (S : ml_Sn y b nl none d' (ml_r a :: As) m none m') (hn : As.length = n) (hdd : d' + 1 ≤ d) (hst8 : ml_words st ≤ 8) (hs : As.reverse ++ ml_r a :: st = st0) (kn : ml_V E own cc d ini m' pc' lv st) : ml_V E own cc d ini m pc lv st0 := by
  obtain ⟨hd, hpc⟩ := hd
  obtain ⟨⟨y1, y2, ⟨y3, y4, y5⟩, y6⟩, y7, y8⟩ := hy
  refine ml_V.called (out := none) hpc S.1 kn fun p l e R s args below meth c H locs ls hR hx hb hml hown hts hst hH hls hroom => ?_
  have hM := S.2 l (ml_eG E)
  have hG : GoodIn ml_TB (Cond.code y b nl none :: ml_TB) := ml_goodT fun w hw => by
    rcases List.mem_cons.mp hw with rfl | h
    · exact y1
    · exact h
  have hCB := callB_of (R := R) (s := s) (args := args) (own := own) (index := idx) (y := y) (bytes := b) (maxL := nl) (ret := none) (ws' := ml_TB) (rm := { frames := d', cells := ml_n m' - ml_n m, slots := ml_s m' - ml_s m, locals := 64 * d' }) n hts hG rfl rfl rfl (hts _ y2) (hts _ hw) ⟨y3, y4, y5⟩ ⟨by show d' + 1 ≤ _; omega, by show 8 + (nl + 11) + 64 * d' ≤ _; omega⟩
  refine va_runI (b := ml_b E + a) (As := ml_sv (ml_b E) As) (n := n) ⟨hx, hb, hml, hown, hts⟩ hM ⟨hCB, y8, hts _ y7⟩ ⟨ml_blind _ _ _, fun U hU hWm => ⟨?_, by rw [hU]; exact hH, hst.warm hWm⟩⟩ rfl (by rw [← hn]; simp [ml_sv]) hls ?_ (lv_room (by rw [ml_sum_cat]; exact hst8)) hd hroom
  · rw [← ml_refv (show 1 ≤ a by omega)]; rfl
  · show ml_sv (ml_b E) st0 = _
    rw [← hs, ml_rev, ← ml_refv (show 1 ≤ a by omega)]
    rfl
/-- a nest mate's private static method, constructor -/
theorem ml_callSN {E : ml_E} {own host : String} {cc : ByteArray} {d d' : Nat} {ini : Bool} {m m' : ml_M} {pc pc' idx n : Nat} {lv : List (Nat × ml_X)} {st st0 As : List ml_X} {out : Option ml_X} {y : MethodName} {b : ByteArray} {nl : Nat} {ret : Option FieldType} (hd : ml_d cc pc (.invokestatic idx) 3 pc') (hw : (own, idx, y, host) ∈ ml_nests) (hy : ml_y y b nl ret n ∧ Cond.static y ∈ ml_TB)
    (S : ml_Sn y b nl ret d' As m out m') (hn : As.length = n) (hdd : d' + 1 ≤ d) (hst8 : ml_words st ≤ 8) (hs : As.reverse ++ st = st0) (kn : ml_V E own cc d ini m' pc' lv (out.toList ++ st)) : ml_V E own cc d ini m pc lv st0 := by
  obtain ⟨hd, hpc⟩ := hd
  obtain ⟨⟨y1, y2, ⟨y3, y4, y5⟩, y6⟩, y7⟩ := hy
  refine kn.called hpc S.1 fun p l e R s args below meth c H locs ls hR hx hb hml hown hts hst hH hls hroom => ?_
  have hM := S.2 l (ml_eG E)
  have hG : GoodIn ml_TB (Cond.code y b nl ret :: ml_TB) := ml_goodT fun w hw => by
    rcases List.mem_cons.mp hw with rfl | h
    · exact y1
    · exact h
  have hCB := va_cnB (R := R) (s := s) (args := args) (own := own) (host := host) (index := idx) (y := y) (bytes := b) (maxL := nl) (ret := ret) (ws' := ml_TB) (rm := { frames := d', cells := ml_n m' - ml_n m, slots := ml_s m' - ml_s m, locals := 64 * d' }) n hts hG rfl rfl rfl (hst.2.2.1 _ hw) (hts _ y2) ⟨y3, y4, y5⟩ ⟨by show d' + 1 ≤ _; omega, by show 8 + (nl + 11) + 64 * d' ≤ _; omega⟩
  refine va_runSN (As := ml_sv (ml_b E) As) (n := n) ⟨hx, hb, hml, hown, hts⟩ hM ⟨hCB, hts _ y7, trivial⟩ ⟨ml_blind _ _ _, fun U hU hWm => ⟨rfl, by rw [hU]; exact hH, hst.warm hWm⟩⟩ rfl (by rw [← hn]; simp [ml_sv]) hls ?_ (lv_room (by rw [ml_sum_cat]; exact hst8)) hd hroom
  show ml_sv (ml_b E) st0 = _
  rw [← hs, ml_rev]
theorem ml_callIN {E : ml_E} {own host : String} {cc : ByteArray} {d d' : Nat} {ini : Bool} {m m' : ml_M} {pc pc' idx n : Nat} {lv : List (Nat × ml_X)} {st st0 As : List ml_X} {y : MethodName} {b : ByteArray} {nl a : Nat} (hd : ml_d cc pc (.invokespecial idx) 3 pc') (hw : (own, idx, y, host) ∈ ml_nests) (hy : ml_y y b nl none n ∧ Cond.instanceMethod y ∈ ml_TB ∧ y.name = "<init>")
    (ha : a ≠ 0) (S : ml_Sn y b nl none d' (ml_r a :: As) m none m') (hn : As.length = n) (hdd : d' + 1 ≤ d) (hst8 : ml_words st ≤ 8) (hs : As.reverse ++ ml_r a :: st = st0) (kn : ml_V E own cc d ini m' pc' lv st) : ml_V E own cc d ini m pc lv st0 := by
  obtain ⟨hd, hpc⟩ := hd
  obtain ⟨⟨y1, y2, ⟨y3, y4, y5⟩, y6⟩, y7, y8⟩ := hy
  refine ml_V.called (out := none) hpc S.1 kn fun p l e R s args below meth c H locs ls hR hx hb hml hown hts hst hH hls hroom => ?_
  have hM := S.2 l (ml_eG E)
  have hG : GoodIn ml_TB (Cond.code y b nl none :: ml_TB) := ml_goodT fun w hw => by
    rcases List.mem_cons.mp hw with rfl | h
    · exact y1
    · exact h
  have hCB := va_cnB (R := R) (s := s) (args := args) (own := own) (host := host) (index := idx) (y := y) (bytes := b) (maxL := nl) (ret := none) (ws' := ml_TB) (rm := { frames := d', cells := ml_n m' - ml_n m, slots := ml_s m' - ml_s m, locals := 64 * d' }) n hts hG rfl rfl rfl (hst.2.2.1 _ hw) (hts _ y2) ⟨y3, y4, y5⟩ ⟨by show d' + 1 ≤ _; omega, by show 8 + (nl + 11) + 64 * d' ≤ _; omega⟩
  refine va_runIN (b := ml_b E + a) (As := ml_sv (ml_b E) As) (n := n) ⟨hx, hb, hml, hown, hts⟩ hM ⟨hCB, y8, hts _ y7⟩ ⟨ml_blind _ _ _, fun U hU hWm => ⟨?_, by rw [hU]; exact hH, hst.warm hWm⟩⟩ rfl (by rw [← hn]; simp [ml_sv]) hls ?_ (lv_room (by rw [ml_sum_cat]; exact hst8)) hd hroom
  · rw [← ml_refv (show 1 ≤ a by omega)]; rfl
  · show ml_sv (ml_b E) st0 = _
    rw [← hs, ml_rev, ← ml_refv (show 1 ≤ a by omega)]
    rfl

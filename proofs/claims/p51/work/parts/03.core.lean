/-! THE PLAIN MEMORY: what the heap holds, as numbers. Addresses are 1, 2 .. in the order in which the cells were made; 0 is null. -/
abbrev ml_M : Type := Nat × Nat × (Nat → Nat × Nat) × (Nat → Nat → Int32) × (Nat → Nat → Nat) × (Nat → Nat → Int64)
def ml_n (m : ml_M) : Nat := m.1
def ml_s (m : ml_M) : Nat := m.2.1
def ml_K (m : ml_M) : Nat → Nat × Nat := m.2.2.1
def ml_I (m : ml_M) : Nat → Nat → Int32 := m.2.2.2.1
def ml_R (m : ml_M) : Nat → Nat → Nat := m.2.2.2.2.1
def ml_J (m : ml_M) : Nat → Nat → Int64 := m.2.2.2.2.2
def ml_u2 {α : Type} (f : Nat → Nat → α) (a k : Nat) (v : α) : Nat → Nat → α := fun b j => if b = a ∧ j = k then v else f b j
def ml_sI (m : ml_M) (a k : Nat) (v : Int32) : ml_M := (ml_n m, ml_s m, ml_K m, ml_u2 (ml_I m) a k v, ml_R m, ml_J m)
def ml_sR (m : ml_M) (a k : Nat) (v : Nat) : ml_M := (ml_n m, ml_s m, ml_K m, ml_I m, ml_u2 (ml_R m) a k v, ml_J m)
def ml_sJ (m : ml_M) (a k : Nat) (v : Int64) : ml_M := (ml_n m, ml_s m, ml_K m, ml_I m, ml_R m, ml_u2 (ml_J m) a k v)
/-- a new cell, all noughts -/
def ml_al (m : ml_M) (kind len sz : Nat) : ml_M :=
  (ml_n m + 1, ml_s m + sz, fun b => if b = ml_n m + 1 then (kind, len) else ml_K m b, fun b j => if b = ml_n m + 1 then 0 else ml_I m b j, fun b j => if b = ml_n m + 1 then 0 else ml_R m b j, fun b j => if b = ml_n m + 1 then 0 else ml_J m b j)
/-- ints copied from one array to another -/
def ml_cp (m : ml_M) (sa sp da dp n : Nat) : ml_M := (ml_n m, ml_s m, ml_K m, fun b j => if b = da ∧ dp ≤ j ∧ j < dp + n then ml_I m sa (sp + (j - dp)) else ml_I m b j, ml_R m, ml_J m)
/-- a new array of ints with the ints of another -/
def ml_cl2 (m : ml_M) (a : Nat) : ml_M :=
  (ml_n m + 1, ml_s m + (ml_K m a).2, fun b => if b = ml_n m + 1 then ml_K m a else ml_K m b, fun b j => if b = ml_n m + 1 then ml_I m a j else ml_I m b j, fun b j => if b = ml_n m + 1 then 0 else ml_R m b j, fun b j => if b = ml_n m + 1 then 0 else ml_J m b j)
def ml_E0 : ml_M := (0, 0, fun _ => (99, 0), fun _ _ => 0, fun _ _ => 0, fun _ _ => 0)
-- the classes whose objects there are, by their kind; arrays have kinds 20 to 30
abbrev ml_cs : List vw_C := [(RX0, TX0, 4), (RX1, TX1, 8), (RX0, TX0, 4), (RX3, TX3, 6), (RX4, TX4, 8), (RX0, TX0, 4), (RX6, TX6, 5), (RX7, TX7, 13), (RX8, TX8, 8), (RX9, TX9, 4), (RX10, TX10, 19), (RX0, TX0, 4)]
def ml_ty (c k : Nat) : FieldType := match c with
  | 0 => tyX0 k
  | 1 => tyX1 k
  | 2 => tyX0 k
  | 3 => tyX3 k
  | 4 => tyX4 k
  | 5 => tyX0 k
  | 6 => tyX6 k
  | 7 => tyX7 k
  | 8 => tyX8 k
  | 9 => tyX9 k
  | 10 => tyX10 k
  | _ => tyX0 k
def ml_ety (k : Nat) : FieldType := match k with
  | 20 => .int
  | 21 => .byte
  | 22 => .boolean
  | 23 => .array .int
  | 24 => .array .byte
  | 25 => .object RX0
  | 26 => .object RX2
  | 27 => .object RX5
  | 28 => .object RX6
  | 29 => .object RX8
  | _ => .object RX9
def ml_rf (B : Nat) (x : Nat) : Value := if x = 0 then .null else .ref (B + x)
def ml_v (B : Nat) (m : ml_M) (ty : FieldType) (a k : Nat) : Value := match ty with
  | .long => .long (ml_J m a k)
  | .object _ => ml_rf B (ml_R m a k)
  | .array _ => ml_rf B (ml_R m a k)
  | _ => .int (ml_I m a k)
/-- the heap at the law's start, the last address of it, the numbers of the classes and of their fields, of the array classes; the script: where, how long, what -/
abbrev ml_G : Type := Heap × Nat × va_G × (Nat → ClassId) × Nat × Nat × (Nat → Int32)
def ml_B (G : ml_G) : Nat := G.2.1
def ml_D (G : ml_G) : va_G := G.2.2.1
def ml_cA (G : ml_G) : Nat → ClassId := G.2.2.2.1
def ml_sb (G : ml_G) : Nat := G.2.2.2.2.1
def ml_sl (G : ml_G) : Nat := G.2.2.2.2.2.1
def ml_sx (G : ml_G) : Nat → Int32 := G.2.2.2.2.2.2
def ml_at (G : ml_G) (m : ml_M) (a : Nat) (H : Heap) : Prop :=
  (∃ q : vw_C, ml_cs[(ml_K m a).1]? = some q ∧ t_OB (ml_B G + a) ((ml_D G).1 (ml_K m a).1) q.2.2 ((ml_D G).2 (ml_K m a).1) H (fun j => ml_v (ml_B G) m (ml_ty (ml_K m a).1 j) a j)) ∨
  ((20 ≤ (ml_K m a).1 ∧ (ml_K m a).1 < 31) ∧ H[ml_B G + a]? = some (arrV (ml_cA G (ml_K m a).1) (ml_K m a).2 (fun j => ml_v (ml_B G) m (ml_ety (ml_K m a).1) a j)))
def ml_HP (G : ml_G) (m : ml_M) (H : Heap) : Prop :=
  H.size = ml_B G + 1 + ml_n m ∧ (∀ q, q ≤ ml_B G → H[q]? = G.1[q]?) ∧ (∀ a, (ml_K m a).1 ≠ 99 → (1 ≤ a ∧ a ≤ ml_n m) ∧ ml_at G m a H)
def ml_AK (s : State) (cA : ClassId) (ty : FieldType) : Prop := ∃ (kA kc : Class) (comp : ClassId), s.vm.classes[cA]? = some kA ∧ kA.kind = .array comp ty ∧ s.vm.findClass ("[" ++ ty.toString) = some cA ∧ (ty.isReference = true → s.vm.classes[comp]? = some kc) ∧ (∀ C, ty = .object C → s.vm.findClass C = some comp) ∧ (∀ t, ty = .array t → s.vm.findClass (FieldType.array t).toString = some comp)
theorem ml_AK.arr {s : State} {cA : ClassId} {ty : FieldType} (h : ml_AK s cA ty) : ArrOfT s cA ty := by
  obtain ⟨kA, kc, comp, h1, h2, -⟩ := h
  exact fun n z => ⟨fun k h => (by cases h), kA, h1, comp, h2⟩
theorem ml_AK.moved {u U : State} (hvm : u.vm.Alike U.vm) {cA : ClassId} {ty : FieldType} (h : ml_AK u cA ty) : ml_AK U cA ty := by
  obtain ⟨kA, kc, comp, h1, h2, h3, h4, h5, h6⟩ := h
  obtain ⟨k', hk', he⟩ := hvm.2.2 _ _ h1
  have h4' : ∃ k2, ty.isReference = true → U.vm.classes[comp]? = some k2 := by
    by_cases hr : ty.isReference = true
    · obtain ⟨k2, hk2, he2⟩ := hvm.2.2 _ _ (h4 hr)
      exact ⟨k2, fun _ => hk2⟩
    · exact ⟨kc, fun h => absurd h hr⟩
  obtain ⟨k2, hk2⟩ := h4'
  exact ⟨k', k2, comp, hk', by rw [he]; exact h2, by rw [hvm.findClass]; exact h3, hk2, fun C h => by rw [hvm.findClass]; exact h5 C h, fun t h => by rw [hvm.findClass]; exact h6 t h⟩
def ml_nests : List (String × Nat × MethodName × String) := [("LostRoom", 60, ⟨"LostRoom$Sharings", "<init>", "()V"⟩, "LostRoom"), ("LostRoom", 67, ⟨"LostRoom$Lays", "<init>", "()V"⟩, "LostRoom"), ("LostRoom", 74, ⟨"LostRoom$Journeys", "<init>", "()V"⟩, "LostRoom"), ("LostRoom$Book", 80, ⟨"LostRoom", "within", "(III)Z"⟩, "LostRoom"), ("LostRoom$Sharings", 93, ⟨"LostRoom", "has", "(II)Z"⟩, "LostRoom"), ("LostRoom$Sharings", 85, ⟨"LostRoom", "within", "(III)Z"⟩, "LostRoom"), ("LostRoom$Lays", 38, ⟨"LostRoom", "has", "(II)Z"⟩, "LostRoom"), ("LostRoom$Journeys", 30, ⟨"LostRoom", "has", "(II)Z"⟩, "LostRoom")]
def ml_AOA (t : FieldType) (U : State) : Prop := (Cond.arrayOver (.array t)).before #[] U = true
theorem ml_AOA.moved {t : FieldType} {u U : State} (hvm : u.vm.Alike U.vm) (h : ml_AOA t u) : ml_AOA t U := by
  obtain ⟨comp, c, k, h1, h2, h3, h4, h5⟩ := arrayOverA_spec h
  obtain ⟨k', hk', he⟩ := hvm.2.2 _ _ h3
  have hi : (U.vm.classes.findIdx? fun (x : Class) => match x.kind with | .array component _ => component == comp | _ => false) = some c := by
    rw [hvm.findIdx?_eq _ (fun _ => rfl)]
    exact h2
  have hkind : k'.kind = .array comp (.array t) := by rw [he]; exact h4
  have f1 : U.vm.findClass (FieldType.array t).toString = some comp := by rw [hvm.findClass]; exact h1
  have f2 : U.vm.findClass ("[" ++ (FieldType.array t).toString) = some c := by rw [hvm.findClass]; exact h5
  unfold ml_AOA Cond.before Cond.holds
  simp only [Cond.value]
  rw [f1, Option.bind_some]
  refine (congrArg (fun o : Option Nat => (o.bind (fun c => (U.vm.classes[c]?).map fun (k : Class) => match k.kind with | .array _ ty => decide (ty = FieldType.array t) && decide (U.vm.findClass ("[" ++ (FieldType.array t).toString) = some c) | _ => false) == some true)) hi).trans ?_
  simp [hk', hkind, f2]
def ml_ST (G : ml_G) (s : State) : Prop :=
  (∀ (c : Nat) (q : vw_C), ml_cs[c]? = some q → u_Kn s q.1 q.2.1 q.2.2 ((ml_D G).1 c) ((ml_D G).2 c)) ∧ (∀ k, 20 ≤ k → k < 31 → ml_AK s (ml_cA G k) (ml_ety k)) ∧ (∀ q ∈ ml_nests, va_Nw (.methodLinkNest q.1 q.2.1 q.2.2.1 q.2.2.2) s) ∧ va_Nw (.castable "[I" "java/lang/Cloneable") s ∧ (∀ C ∈ [RX0, RX2, RX5, RX6, RX8, RX9], va_AO C s) ∧ (∀ t ∈ [FieldType.int, FieldType.byte], ml_AOA t s) ∧ (ml_sb G ≤ ml_B G ∧ va_X (ml_sb G) (ml_sl G) (ml_sx G) s G.1)
theorem ml_ST.warm {G : ml_G} {s U : State} (hW : s.WarmedH U.vm) (h : ml_ST G s) : ml_ST G U :=
  ⟨fun c q hq => u_Kn_moved hW.alike (h.1 c q hq), fun k h1 h2 => (h.2.1 k h1 h2).moved hW.alike, fun q hq => va_Nw.warmM hW (h.2.2.1 q hq), va_Nw.warmC hW h.2.2.2.1, fun C hC => (h.2.2.2.2.1 C hC).moved hW.alike, fun t ht => (h.2.2.2.2.2.1 t ht).moved hW.alike, h.2.2.2.2.2.2.1, h.2.2.2.2.2.2.2.moved hW.alike⟩
theorem ml_ST.calling {G : ml_G} {U : State} (g : JFrame) (mk : MethodId) (a : Array Value) (h : ml_ST G U) : ml_ST G (U.calling g mk a) :=
  ⟨fun c q hq => u_Kn_moved (Vm.Alike.refl U.vm) (h.1 c q hq), fun k h1 h2 => (h.2.1 k h1 h2).moved (Vm.Alike.refl U.vm), fun q hq => va_Nw.same (u := U) rfl rfl (h.2.2.1 q hq), va_Nw.same (u := U) rfl rfl h.2.2.2.1, fun C hC => (h.2.2.2.2.1 C hC).moved (Vm.Alike.refl U.vm), fun t ht => (h.2.2.2.2.2.1 t ht).moved (Vm.Alike.refl U.vm), h.2.2.2.2.2.2.1, h.2.2.2.2.2.2.2.moved (Vm.Alike.refl U.vm)⟩
/-- the good words of the tables -/
def ml_TB : List Cond := lw_tbl.filter goodWord
theorem ml_inTB {w : Cond} (h : w ∈ lw_tbl) (hg : goodWord w = true) : w ∈ ml_TB := List.mem_filter.mpr ⟨h, hg⟩
theorem ml_good {c : Cond} {ws : List Cond} (h : ∀ w ∈ ws, w ∈ ml_TB) : GoodIn (c :: ml_TB) ws := fun w hw => ⟨List.mem_cons_of_mem _ (h w hw), good_of_word (List.mem_filter.mp (h w hw)).2⟩
theorem ml_goodT {ws : List Cond} (h : ∀ w ∈ ws, w ∈ ml_TB) : GoodIn ml_TB ws := fun w hw => ⟨h w hw, good_of_word (List.mem_filter.mp (h w hw)).2⟩
/-- an operand: an int, a reference, a long -/
abbrev ml_X : Type := Int32 ⊕ Nat ⊕ Int64 ⊕ Nat
abbrev ml_i (x : Int32) : ml_X := Sum.inl x
abbrev ml_r (a : Nat) : ml_X := Sum.inr (Sum.inl a)
abbrev ml_l (x : Int64) : ml_X := Sum.inr (Sum.inr (Sum.inl x))
/-- a cell that was there at the start: the script -/
abbrev ml_q (a : Nat) : ml_X := Sum.inr (Sum.inr (Sum.inr a))
def ml_val (B : Nat) : ml_X → Value
  | Sum.inl x => .int x
  | Sum.inr (Sum.inl a) => ml_rf B a
  | Sum.inr (Sum.inr (Sum.inl x)) => .long x
  | Sum.inr (Sum.inr (Sum.inr a)) => .ref a
def ml_cat : ml_X → Nat
  | Sum.inr (Sum.inr (Sum.inl _)) => 2
  | _ => 1
theorem ml_cat_val (B : Nat) (x : ml_X) : (ml_val B x).category = ml_cat x := by
  rcases x with x | a | x | a
  · rfl
  · show (ml_rf B a).category = 1
    unfold ml_rf
    split <;> rfl
  · rfl
  · rfl
def ml_lv (B : Nat) (lv : List (Nat × ml_X)) : List (Nat × Value) := lv.map fun q => (q.1, ml_val B q.2)
def ml_sv (B : Nat) (st : List ml_X) : List Value := st.map (ml_val B)
theorem ml_lv_at {B : Nat} {lv : List (Nat × ml_X)} {k i : Nat} {x : ml_X} (h : lv[k]? = some (i, x)) : (ml_lv B lv)[k]? = some (i, ml_val B x) := by
  unfold ml_lv
  rw [List.getElem?_map, h]; rfl
def ml_pick (lv : List (Nat × ml_X)) (ks : List Nat) : List (Nat × ml_X) := ks.filterMap (fun k => lv[k]?)
theorem ml_pick_lv (B : Nat) (lv : List (Nat × ml_X)) (ks : List Nat) : lv_pick (ml_lv B lv) ks = ml_lv B (ml_pick lv ks) := by
  unfold lv_pick ml_pick ml_lv
  rw [List.map_filterMap]
  congr 1
  funext k
  rw [List.getElem?_map]
/-- the list of locals behind a store of one word, of two -/
def ml_st (i : Nat) (v : ml_X) (lv : List (Nat × ml_X)) : List (Nat × ml_X) := (i, v) :: lv.filter (fun q => !(q.1 == i) && !(q.1 + 1 == i && ml_cat q.2 == 2))
def ml_st2 (i : Nat) (v : ml_X) (lv : List (Nat × ml_X)) : List (Nat × ml_X) := (i, v) :: lv.filter (fun q => !(q.1 == i) && (!(q.1 == i + 1) && !(q.1 + 1 == i && ml_cat q.2 == 2)))
theorem ml_st_lv (B i : Nat) (v : ml_X) (lv : List (Nat × ml_X)) : (i, ml_val B v) :: (ml_lv B lv).filter (fun q => !(q.1 == i) && !(q.1 + 1 == i && q.2.category == 2)) = ml_lv B (ml_st i v lv) := by
  unfold ml_lv ml_st
  rw [List.filter_map, List.map_cons]
  congr 2
  apply List.filter_congr
  intro q _
  simp only [Function.comp, ml_cat_val]
theorem ml_st2_lv (B i : Nat) (v : ml_X) (lv : List (Nat × ml_X)) : (i, ml_val B v) :: (ml_lv B lv).filter (fun q => !(q.1 == i) && (!(q.1 == i + 1) && !(q.1 + 1 == i && q.2.category == 2))) = ml_lv B (ml_st2 i v lv) := by
  unfold ml_lv ml_st2
  rw [List.filter_map, List.map_cons]
  congr 2
  apply List.filter_congr
  intro q _
  simp only [Function.comp, ml_cat_val]
def ml_args : Nat → List ml_X → List (Nat × ml_X)
  | _, [] => []
  | i, v :: vs => (i, v) :: ml_args (i + ml_cat v) vs
theorem ml_args_lv (B : Nat) (vs : List ml_X) : ∀ i : Nat, lv_args i (ml_sv B vs) = ml_lv B (ml_args i vs) := by
  induction vs with
  | nil => intro i; rfl
  | cons v vs ih =>
    intro i
    show (i, ml_val B v) :: lv_args (if (ml_val B v).category = 2 then i + 2 else i + 1) (ml_sv B vs) = (i, ml_val B v) :: ml_lv B (ml_args (i + ml_cat v) vs)
    rw [ml_cat_val, ih]
    congr 3
    rcases v with x | a | x | a <;> rfl
def ml_words : List ml_X → Nat
  | [] => 0
  | v :: vs => ml_cat v + ml_words vs
theorem ml_words_sl (B : Nat) (vs : List ml_X) : (lg_sl (ml_sv B vs)).length = ml_words vs := by
  induction vs with
  | nil => rfl
  | cons v vs ih =>
    show (List.flatMap _ (ml_val B v :: ml_sv B vs)).length = _
    rw [List.flatMap_cons, List.length_append]
    rw [show (List.flatMap (fun v : Value => if v.category = 2 then [Slot.val v, Slot.second] else [Slot.val v]) (ml_sv B vs)).length = ml_words vs from ih]
    show _ = ml_cat v + ml_words vs
    rw [ml_cat_val]
    rcases v with x | a | x | a <;> rfl
theorem ml_sum_cat (B : Nat) (st : List ml_X) : ((ml_sv B st).map fun v => v.category).sum = ml_words st := by
  induction st with
  | nil => rfl
  | cons v st ih =>
    show (ml_val B v).category + ((ml_sv B st).map fun v => v.category).sum = ml_cat v + ml_words st
    rw [ih, ml_cat_val]
/-- how a run goes on from a frame, the heap, what was written, what was made being such -/
abbrev ml_W : Type := Heap → List Loc → Nat → Nat → JFrame → Prop
/-- what stays the same all through a method's run: the world's numbers, room's ends (cells, slots), what there was at its start (cells, slots), how many locals, its number, how a run goes on -/
abbrev ml_E : Type := ml_G × Nat × Nat × Nat × Nat × Nat × MethodId × ml_W
def ml_eG (E : ml_E) : ml_G := E.1
def ml_eN (E : ml_E) : Nat := E.2.1
def ml_eS (E : ml_E) : Nat := E.2.2.1
def ml_en (E : ml_E) : Nat := E.2.2.2.1
def ml_es (E : ml_E) : Nat := E.2.2.2.2.1
def ml_eL (E : ml_E) : Nat := E.2.2.2.2.2.1
def ml_em (E : ml_E) : MethodId := E.2.2.2.2.2.2.1
def ml_eW (E : ml_E) : ml_W := E.2.2.2.2.2.2.2
def ml_b (E : ml_E) : Nat := ml_B (ml_eG E)
def ml_Cx (E : ml_E) (own : String) (cc : ByteArray) (d : Nat) (ini : Bool) : Prop :=
  ∃ (p : Program) (l : Launch) (e : Env) (R : Room) (s : State) (args : Array Value) (below : List Frame) (meth : Method) (c : Code) (Q : State → Prop),
    ml_eW E = (fun H locs cells slots g => W p l e R s (ml_em E) args below meth c H locs cells slots Q g) ∧
    (d ≤ R.frames ∧ R.cells = ml_eN E - ml_en E ∧ R.slots = ml_eS E - ml_es E ∧ 64 * d ≤ R.locals) ∧ p.tables.exec = Jvm.exec ∧ c.code = cc ∧ c.maxLocals = ml_eL E ∧ s.vm.findClass own = some (ml_em E).cls ∧ (∀ w ∈ ml_TB, w.before args s = true) ∧ ml_ST (ml_eG E) s ∧ (ini = true → meth.name = "<init>")
def ml_V (E : ml_E) (own : String) (cc : ByteArray) (d : Nat) (ini : Bool) (m : ml_M) (pc : Nat) (lv : List (Nat × ml_X)) (st : List ml_X) : Prop :=
  ml_en E ≤ ml_n m → ml_es E ≤ ml_s m → (ml_n m ≤ ml_eN E ∧ ml_s m ≤ ml_eS E) ∧ (ml_Cx E own cc d ini → ∀ (H : Heap) (locs : List Loc) (ls : Array Slot), ml_HP (ml_eG E) m H → (∀ q ∈ locs, ml_b E < q.base) → lv_has ls (ml_eL E) (ml_lv (ml_b E) lv) → ml_eW E H locs (ml_n m - ml_en E) (ml_s m - ml_es E) (F0 (ml_em E) pc ls (ml_sv (ml_b E) st)))
/-- an instruction that changes the frame alone -/
theorem ml_V.frame {E : ml_E} {own : String} {cc : ByteArray} {d : Nat} {ini : Bool} {m : ml_M} {pc pc' : Nat} {lv lv' : List (Nat × ml_X)} {st st' : List ml_X} (k : ml_V E own cc d ini m pc' lv' st')
    (h : ml_Cx E own cc d ini → ∀ (H : Heap) (locs : List Loc) (ls : Array Slot) (a b : Nat), lv_has ls (ml_eL E) (ml_lv (ml_b E) lv) → (∀ ls', lv_has ls' (ml_eL E) (ml_lv (ml_b E) lv') → ml_eW E H locs a b (F0 (ml_em E) pc' ls' (ml_sv (ml_b E) st'))) → ml_eW E H locs a b (F0 (ml_em E) pc ls (ml_sv (ml_b E) st))) : ml_V E own cc d ini m pc lv st :=
  fun h1 h2 => ⟨(k h1 h2).1, fun C H locs ls hH hL hl => h C H locs ls _ _ hl fun ls' hl' => (k h1 h2).2 C H locs ls' hH hL hl'⟩
theorem ml_V.same {E : ml_E} {own : String} {cc : ByteArray} {d : Nat} {ini : Bool} {m : ml_M} {pc pc' : Nat} {lv : List (Nat × ml_X)} {st st' : List ml_X} (k : ml_V E own cc d ini m pc' lv st')
    (h : ml_Cx E own cc d ini → ∀ (H : Heap) (locs : List Loc) (ls : Array Slot) (a b : Nat), ml_HP (ml_eG E) m H → lv_has ls (ml_eL E) (ml_lv (ml_b E) lv) → ml_eW E H locs a b (F0 (ml_em E) pc' ls (ml_sv (ml_b E) st')) → ml_eW E H locs a b (F0 (ml_em E) pc ls (ml_sv (ml_b E) st))) : ml_V E own cc d ini m pc lv st :=
  fun h1 h2 => ⟨(k h1 h2).1, fun C H locs ls hH hL hl => h C H locs ls _ _ hH hl ((k h1 h2).2 C H locs ls hH hL hl)⟩
theorem ml_V.sub {E : ml_E} {own : String} {cc : ByteArray} {d : Nat} {ini : Bool} {m : ml_M} {pc : Nat} {lv lv' : List (Nat × ml_X)} {st : List ml_X} (ks : List Nat) (hl : ml_pick lv ks = lv') (k : ml_V E own cc d ini m pc lv' st) : ml_V E own cc d ini m pc lv st :=
  fun h1 h2 => ⟨(k h1 h2).1, fun C H locs ls hH hL hls => (k h1 h2).2 C H locs ls hH hL (lv_sub hls ks (by rw [ml_pick_lv, hl]))⟩
/-- decode rows with the next place; those with a place to go to -/
def ml_d (b : ByteArray) (pc : Nat) (i : Jvm.ClassFile.Instr) (n pc' : Nat) : Prop := decode b pc = .ok (i, n) ∧ pc + n = pc'
def ml_j (b : ByteArray) (pc : Nat) (i : Int → Jvm.ClassFile.Instr) (tgt pc' : Nat) : Prop := ∃ off : Int, decode b pc = .ok (i off, 3) ∧ (pc : Int) + off = (tgt : Int) ∧ pc + 3 = pc'

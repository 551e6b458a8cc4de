/-! THE CLAIM OUT OF ONE WALK OF THE LAW'S BODY. Your part is whole_start (and what it stands on); all else here is the same for every law, but numbers. -/
def R_law : String := "LostRoomLaw"
def lw_P (b : Addr) (xs : List Int32) (args : Array Value) (s : State) : Prop := args = #[.ref b] ∧ s.IntsAt b xs ∧ xs.length ≤ 260 ∧ (Jvm.Cond.and given_1 narrow_1).before args s = true
def lw_Q (_ : Array Value) (s : State) (o : Outcome) (t : State) : Prop := o = .returned (some (.int 1)) ∧ Framed s o t [] 600000 7302250
def lw_Z (below : List Frame) (a : Array Value) (s : State) : State → Prop := fun t => ∃ o, t.status = .running ∧ Ended t below o ∧ lw_Q a s o t
/-- the law's own end, with 1 on the stack, nothing written that was there before, its room as the claim has it -/
theorem lw_ret {p : Program} {l : Launch} {e : Env} {s : State} {m : MethodId} {below : List Frame} {meth : Method} {c : Code} {b : Nat} (hx : p.tables.exec = Jvm.exec) (hb : c.code = code) (hr : meth.sig.returnType = ret) (hlocks : meth.locks = false) {pc : Nat} {H : Heap} {ls : Array Slot} (hdg : decode code pc = .ok (.ireturn, 1)) : W p l e room_1 s m #[Value.ref b] below meth c H [] 600000 7302250 (lw_Z below #[Value.ref b] s) (F0 m pc ls [.int 1]) := by
  intro T hT X
  obtain ⟨fs, hret, hrun, hended, hW, hframe⟩ := X.leave (v := some (.int 1)) (hlocks := hlocks) (fun h => by rw [hr] at h; cases h)
  have hmeth' : T.vm.method? m = some meth := X.method'
  refine ⟨T.setFrames fs, ?_, .returned (some (.int 1)), hrun, hended, rfl, ⟨_, rfl⟩, hW, hframe⟩
  jvm_step X.here [X.here.top, hx, hb, hdg, hmeth', hr, ret, narrow_b1]
  (try refine ⟨rfl, ?_⟩); (try refine ⟨rfl, ?_⟩)
  first | (intro acts; rw [hret _ acts rfl rfl rfl]) | rw [hret _ _ rfl rfl rfl]
  exact Steps.refl _
/-- what holds at the law's entry: the machine, the code, the tables' words (any of lw_tbl by 'hts w (by decide +kernel)'), the script of L ints xs at the cell b, what the Statement gives of the start (any of its parts by flat_of_before) -/
def lw_At (p : Program) (s : State) (m : MethodId) (meth : Method) (c : Code) (b L : Nat) (xs : Nat → Int32) : Prop :=
  p.tables.exec = Jvm.exec ∧ c.code = code ∧ meth.sig.returnType = ret ∧ c.maxLocals = 22 ∧ s.vm.findClass R_law = some m.cls ∧ (∀ w ∈ lw_tbl, w.before #[Value.ref b] s = true) ∧ va_X b L xs s s.heap ∧ b < s.heap.size ∧ meth.locks = false ∧ (Jvm.Cond.and given_1 narrow_1).before #[Value.ref b] s = true
theorem ml_TB_lw {w : Cond} (h : w ∈ ml_TB) : w ∈ lw_tbl := (List.mem_filter.mp h).1
theorem ml_akP {args : Array Value} {s : State} {ty : FieldType} (h : (Cond.arrayClass ty).before args s = true) (hnr : ty.isReference = false) (h1 : ∀ C, ty ≠ .object C) (h2 : ∀ t, ty ≠ .array t) : ∃ cA, ml_AK s cA ty := by
  obtain ⟨c, k, comp, h3, h4, h5⟩ := Cond.arrayClass_spec h
  exact ⟨c, k, k, comp, h4, h5, h3, fun h => (by rw [hnr] at h; cases h), fun C h => absurd h (h1 C), fun t h => absurd h (h2 t)⟩
theorem ml_akO {args : Array Value} {s : State} {C : String} (h : (Cond.arrayOver (.object C)).before args s = true) : ∃ cA, ml_AK s cA (.object C) := by
  obtain ⟨comp, c, k, h1, h2, h3, h4, h5⟩ := Cond.arrayOver_spec h
  obtain ⟨kc, hkc, -⟩ := Vm.findClass_spec h1
  exact ⟨c, k, kc, comp, h3, h4, h5, fun _ => hkc, fun C' h => (by cases h; exact h1), fun t h => (by cases h)⟩
theorem ml_akA {args : Array Value} {s : State} {t : FieldType} (h : (Cond.arrayOver (.array t)).before args s = true) : ∃ cA, ml_AK s cA (.array t) := by
  obtain ⟨comp, c, k, h1, h2, h3, h4, h5⟩ := arrayOverA_spec h
  obtain ⟨kc, hkc, -⟩ := Vm.findClass_spec h1
  exact ⟨c, k, kc, comp, h3, h4, h5, fun _ => hkc, fun C' h => (by cases h), fun t' h => (by cases h; exact h1)⟩
theorem ml_kn {s : State} {args : Array Value} (hts : ∀ w ∈ lw_tbl, w.before args s = true) : ∃ D : va_G, ∀ (c : Nat) (q : vw_C), ml_cs[c]? = some q → u_Kn s q.1 q.2.1 q.2.2 (D.1 c) (D.2 c) := by
  have hi : ∀ (c : Nat), ∃ (cC : ClassId) (iS : Nat → Nat), ∀ (q : vw_C), ml_cs[c]? = some q → u_Kn s q.1 q.2.1 q.2.2 cC iS := by
    intro c
    cases hc : ml_cs[c]? with
    | none => exact ⟨0, fun _ => 0, fun q h => by cases h⟩
    | some q =>
      have hin : ∃ n, (Cond.instantiable q.1 n) ∈ lw_tbl := by
        match c, hc with
        | 0, h => cases h; exact ⟨4, by decide +kernel⟩
        | 1, h => cases h; exact ⟨8, by decide +kernel⟩
        | 2, h => cases h; exact ⟨4, by decide +kernel⟩
        | 3, h => cases h; exact ⟨6, by decide +kernel⟩
        | 4, h => cases h; exact ⟨8, by decide +kernel⟩
        | 5, h => cases h; exact ⟨4, by decide +kernel⟩
        | 6, h => cases h; exact ⟨5, by decide +kernel⟩
        | 7, h => cases h; exact ⟨13, by decide +kernel⟩
        | 8, h => cases h; exact ⟨8, by decide +kernel⟩
        | 9, h => cases h; exact ⟨4, by decide +kernel⟩
        | 10, h => cases h; exact ⟨19, by decide +kernel⟩
        | 11, h => cases h; exact ⟨4, by decide +kernel⟩
        | k + 12, h => simp at h
      obtain ⟨n, hn⟩ := hin
      obtain ⟨cC, iS, hK⟩ := u_known (ws := lw_tbl) hts (fun w hw => ml_TB_lw (ml_lay c q hc w hw)) (hts _ hn)
      exact ⟨cC, iS, fun q' h => by cases h; exact hK⟩
  refine ⟨(fun c => Classical.choose (hi c), fun c => Classical.choose (Classical.choose_spec (hi c))), fun c q hq => ?_⟩
  exact Classical.choose_spec (Classical.choose_spec (hi c)) q hq
theorem ml_ks {s : State} {args : Array Value} (hts : ∀ w ∈ lw_tbl, w.before args s = true) : ∃ cA : Nat → ClassId, ∀ k, 20 ≤ k → k < 31 → ml_AK s (cA k) (ml_ety k) := by
  have hi : ∀ k, ∃ cA : ClassId, 20 ≤ k → k < 31 → ml_AK s cA (ml_ety k) := by
    intro k
    by_cases hk : 20 ≤ k ∧ k < 31
    · rcases (show k = 20 ∨ k = 21 ∨ k = 22 ∨ k = 23 ∨ k = 24 ∨ k = 25 ∨ k = 26 ∨ k = 27 ∨ k = 28 ∨ k = 29 ∨ k = 30 by omega) with rfl | rfl | rfl | rfl | rfl | rfl | rfl | rfl | rfl | rfl | rfl
      · obtain ⟨c, h⟩ := ml_akP (hts (.arrayClass .int) (by decide +kernel)) rfl (fun _ h => by cases h) (fun _ h => by cases h)
        exact ⟨c, fun _ _ => h⟩
      · obtain ⟨c, h⟩ := ml_akP (hts (.arrayClass .byte) (by decide +kernel)) rfl (fun _ h => by cases h) (fun _ h => by cases h)
        exact ⟨c, fun _ _ => h⟩
      · obtain ⟨c, h⟩ := ml_akP (hts (.arrayClass .boolean) (by decide +kernel)) rfl (fun _ h => by cases h) (fun _ h => by cases h)
        exact ⟨c, fun _ _ => h⟩
      · obtain ⟨c, h⟩ := ml_akA (hts (.arrayOver (.array .int)) (by decide +kernel))
        exact ⟨c, fun _ _ => h⟩
      · obtain ⟨c, h⟩ := ml_akA (hts (.arrayOver (.array .byte)) (by decide +kernel))
        exact ⟨c, fun _ _ => h⟩
      · obtain ⟨c, h⟩ := ml_akO (hts (.arrayOver (.object RX0)) (by decide +kernel))
        exact ⟨c, fun _ _ => h⟩
      · obtain ⟨c, h⟩ := ml_akO (hts (.arrayOver (.object RX2)) (by decide +kernel))
        exact ⟨c, fun _ _ => h⟩
      · obtain ⟨c, h⟩ := ml_akO (hts (.arrayOver (.object RX5)) (by decide +kernel))
        exact ⟨c, fun _ _ => h⟩
      · obtain ⟨c, h⟩ := ml_akO (hts (.arrayOver (.object RX6)) (by decide +kernel))
        exact ⟨c, fun _ _ => h⟩
      · obtain ⟨c, h⟩ := ml_akO (hts (.arrayOver (.object RX8)) (by decide +kernel))
        exact ⟨c, fun _ _ => h⟩
      · obtain ⟨c, h⟩ := ml_akO (hts (.arrayOver (.object RX9)) (by decide +kernel))
        exact ⟨c, fun _ _ => h⟩
    · exact ⟨0, fun h1 h2 => absurd ⟨h1, h2⟩ hk⟩
  exact ⟨fun k => Classical.choose (hi k), fun k h1 h2 => Classical.choose_spec (hi k) h1 h2⟩
theorem ml_nests_in : ∀ q ∈ ml_nests, (Cond.methodLinkNest q.1 q.2.1 q.2.2.1 q.2.2.2) ∈ lw_tbl := by decide +kernel
theorem ml_start {p : Program} {e : Env} {s : State} {m : MethodId} {below : List Frame} {meth : Method} {c : Code} (l : Launch) {b L : Nat} {xs : Nat → Int32} (C0 : lw_At p s m meth c b L xs) {mF : ml_M} (hF : fL_law L xs ml_E0 = some (1, mF)) (hn : ml_n mF ≤ 600000) (hs : ml_s mF ≤ 7302250) : W p l e room_1 s m #[Value.ref b] below meth c s.heap [] 0 0 (lw_Z below #[Value.ref b] s) (entryFrame m ([Value.ref b] : List Value).toArray 22) := by
  obtain ⟨hx, hb, hr, hml, hown, hts, hX, hbl, hlocks, hgv⟩ := id C0
  obtain ⟨D, hD⟩ := ml_kn hts
  obtain ⟨cA, hcA⟩ := ml_ks hts
  have hl := lv_entry ([.ref b]) (n := 22) (Nat.le_of_ble_eq_true rfl)
  rw [lg_entry_eq]
  generalize (lg_sl ([.ref b]) ++ List.replicate (22 - (lg_sl ([.ref b])).length) Slot.unset).toArray = ls at hl ⊢
  have hST : ml_ST (s.heap, s.heap.size - 1, D, cA, b, L, xs) s := by
    refine ⟨hD, hcA, fun q hq => va_Nw.of rfl (hts _ (ml_nests_in q hq)), va_Nw.of rfl (hts _ (by decide +kernel)), ?_, ?_, by show b ≤ s.heap.size - 1; omega, hX⟩
    · intro C hC
      simp only [List.mem_cons, List.not_mem_nil, or_false] at hC
      rcases hC with rfl | rfl | rfl | rfl | rfl | rfl
      · exact va_AO.of (hts (.arrayOver (.object RX0)) (by decide +kernel))
      · exact va_AO.of (hts (.arrayOver (.object RX2)) (by decide +kernel))
      · exact va_AO.of (hts (.arrayOver (.object RX5)) (by decide +kernel))
      · exact va_AO.of (hts (.arrayOver (.object RX6)) (by decide +kernel))
      · exact va_AO.of (hts (.arrayOver (.object RX8)) (by decide +kernel))
      · exact va_AO.of (hts (.arrayOver (.object RX9)) (by decide +kernel))
    · intro t ht
      simp only [List.mem_cons, List.not_mem_nil, or_false] at ht
      rcases ht with rfl | rfl
      · exact hts (.arrayOver (.array .int)) (by decide +kernel)
      · exact hts (.arrayOver (.array .byte)) (by decide +kernel)
  have k := wL_law_0 (E := ((s.heap, s.heap.size - 1, D, cA, b, L, xs), 600000, 7302250, 0, 0, 22, m, fun H locs cells slots g => W p l e room_1 s m #[Value.ref b] below meth c H locs cells slots (lw_Z below #[Value.ref b] s) g)) rfl (rv := 1) (rm := mF) ?_ ml_E0 hF (Nat.le_refl _) (Nat.le_refl _)
  · have k2 := k.2 ⟨p, l, e, room_1, s, _, below, meth, c, _, rfl, ⟨by decide, rfl, rfl, by decide⟩, hx, hb, hml, hown, fun w hw => hts w (ml_TB_lw hw), hST, fun h => by cases h⟩ s.heap [] ls ⟨by show s.heap.size = s.heap.size - 1 + 1 + 0; omega, fun q _ => rfl, fun a ha => absurd rfl ha⟩ (fun q hq => by cases hq) hl
    exact k2
  · intro pc pc' lv hd _ h1 h2
    refine ⟨⟨hn, hs⟩, fun C H locs ls hH hL hl => ?_⟩
    refine W.widen (k := 600000) (n := 7302250) (by show ml_n mF - 0 ≤ _; omega) (by show ml_s mF - 0 ≤ _; omega) ?_
    refine va_forget (fun q hq => ?_) (lw_ret hx hb hr hlocks hd.1)
    have := hL q hq
    have : s.heap.size - 1 < q.base := this
    omega

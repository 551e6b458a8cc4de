/-! ROWS OVER THE PLAIN MEMORY: references stored, cells made, copies, casts -/
theorem ml_ety_obj : ∀ kd ci, (kd = 25 ∧ ci = 0) ∨ (kd = 28 ∧ ci = 6) ∨ (kd = 29 ∧ ci = 8) ∨ (kd = 30 ∧ ci = 9) → ∃ q : vw_C, ml_cs[ci]? = some q ∧ ml_ety kd = .object q.1 := by
  intro kd ci h
  rcases h with ⟨rfl, rfl⟩ | ⟨rfl, rfl⟩ | ⟨rfl, rfl⟩ | ⟨rfl, rfl⟩
  · exact ⟨(RX0, TX0, 4), rfl, rfl⟩
  · exact ⟨(RX6, TX6, 5), rfl, rfl⟩
  · exact ⟨(RX8, TX8, 8), rfl, rfl⟩
  · exact ⟨(RX9, TX9, 4), rfl, rfl⟩
theorem ml_val_sR (B : Nat) (m : ml_M) (a k v : Nat) : ml_rf B (ml_R (ml_sR m a k v) a k) = ml_rf B v := by simp [ml_sR, ml_R, ml_u2]
/-- an object into an array of its class -/
theorem ml_aast {E : ml_E} {own : String} {cc : ByteArray} {d : Nat} {ini : Bool} {m : ml_M} {pc pc' : Nat} {lv : List (Nat × ml_X)} {st : List ml_X} {a kd ci v : Nat} {i : Int32} (hd : ml_d cc pc .aastore 1 pc') (hkc : (kd = 25 ∧ ci = 0) ∨ (kd = 28 ∧ ci = 6) ∨ (kd = 29 ∧ ci = 8) ∨ (kd = 30 ∧ ci = 9)) (hi : ml_in m a kd i) (hv : (ml_K m v).1 = ci) (kn : ml_V E own cc d ini (ml_sR m a i.toNatClampNeg v) pc' lv st) : ml_V E own cc d ini m pc lv (ml_r v :: ml_i i :: ml_r a :: st) := by
  obtain ⟨hd, rfl⟩ := hd
  obtain ⟨q, hq, hety⟩ := ml_ety_obj kd ci hkc
  have h23 : 23 ≤ kd ∧ kd < 31 := by omega
  obtain ⟨h3, h4⟩ := ml_isR_ety kd h23.1 h23.2
  intro n1 n2
  obtain ⟨kb, kk⟩ := kn n1 n2
  refine ⟨kb, fun C H locs ls hH hL hl => ?_⟩
  have kk := kk C
  obtain ⟨p, l, e, R, s, args, below, meth, c, Q, hW, hR, hx, hb, hml, hown, hts, hst, hin⟩ := C
  rw [hW] at kk ⊢
  obtain ⟨⟨h1, -⟩, h2⟩ := hH.arr hi.1 (by omega) (by omega)
  obtain ⟨⟨h5, -⟩, cell, g1, g2, g3, g4⟩ := hH.obj hq hv
  obtain ⟨kA, kc, comp, f1, f2, f3, f4, f5, -⟩ := hst.2.1 kd (by omega) h23.2
  obtain ⟨hS, hcls⟩ := hst.1 ci q hq
  have hcomp : (ml_D (ml_eG E)).1 ci = comp := Option.some.inj (hcls.1.symm.trans (f5 _ hety))
  show W p l e R s (ml_em E) args below meth c H locs _ _ Q (F0 (ml_em E) pc ls (ml_val (ml_b E) (ml_r v) :: .int i :: ml_val (ml_b E) (ml_r a) :: ml_sv (ml_b E) st))
  rw [ml_refv h1, ml_refv h5]
  obtain ⟨kC, hkC, -⟩ := hcls.2
  refine W.aast hx hb h2 (fun q h => by cases h) (fun h => by cases h) f1 f2 h4 (f4 h4) ⟨fun z => hi.2 (Or.inl z), by rw [arrV_size]; exact Nat.not_le.mp fun z => hi.2 (Or.inr z)⟩ g1 (fun q h => by rw [g3] at h; cases h) (by rw [g2]; exact hkC) (by rw [g2, hcomp]; exact va_asg _ _) rfl rfl hd fun H1 e1 z oq => ?_
  refine kk H1 _ ls (hH.aput hi.1 (by omega) (by omega) rfl rfl (fun B ty b j h => ml_v_sR B m a i.toNatClampNeg v ty b j h) ?_ e1 z oq) (ml_locs hL h1) hl
  rw [h3.v, ml_val_sR]
  exact ml_refv h5
/-- an array into an array of arrays -/
theorem ml_aastA {E : ml_E} {own : String} {cc : ByteArray} {d : Nat} {ini : Bool} {m : ml_M} {pc pc' : Nat} {lv : List (Nat × ml_X)} {st : List ml_X} {a kd ka v : Nat} {i : Int32} (hd : ml_d cc pc .aastore 1 pc') (hkc : (kd = 23 ∧ ka = 20) ∨ (kd = 24 ∧ ka = 21)) (hi : ml_in m a kd i) (hv : (ml_K m v).1 = ka) (kn : ml_V E own cc d ini (ml_sR m a i.toNatClampNeg v) pc' lv st) : ml_V E own cc d ini m pc lv (ml_r v :: ml_i i :: ml_r a :: st) := by
  obtain ⟨hd, rfl⟩ := hd
  have h23 : 23 ≤ kd ∧ kd < 31 := by omega
  obtain ⟨h3, h4⟩ := ml_isR_ety kd h23.1 h23.2
  intro n1 n2
  obtain ⟨kb, kk⟩ := kn n1 n2
  refine ⟨kb, fun C H locs ls hH hL hl => ?_⟩
  have kk := kk C
  obtain ⟨p, l, e, R, s, args, below, meth, c, Q, hW, hR, hx, hb, hml, hown, hts, hst, hin⟩ := C
  rw [hW] at kk ⊢
  obtain ⟨⟨h1, -⟩, h2⟩ := hH.arr hi.1 (by omega) (by omega)
  obtain ⟨⟨h5, -⟩, h6⟩ := hH.arr hv (by omega) (by omega)
  obtain ⟨kA, kc, comp, f1, f2, f3, f4, -, f5⟩ := hst.2.1 kd (by omega) h23.2
  obtain ⟨kA2, kc2, comp2, y1, y2, y3, -, -, -⟩ := hst.2.1 ka (by omega) (by omega)
  have hcomp : ml_cA (ml_eG E) ka = comp := by
    rcases hkc with ⟨rfl, rfl⟩ | ⟨rfl, rfl⟩
    · exact Option.some.inj (y3.symm.trans (f5 .int rfl))
    · exact Option.some.inj (y3.symm.trans (f5 .byte rfl))
  show W p l e R s (ml_em E) args below meth c H locs _ _ Q (F0 (ml_em E) pc ls (ml_val (ml_b E) (ml_r v) :: .int i :: ml_val (ml_b E) (ml_r a) :: ml_sv (ml_b E) st))
  rw [ml_refv h1, ml_refv h5]
  refine W.aast hx hb h2 (fun q h => by cases h) (fun h => by cases h) f1 f2 h4 (f4 h4) ⟨fun z => hi.2 (Or.inl z), by rw [arrV_size]; exact Nat.not_le.mp fun z => hi.2 (Or.inr z)⟩ h6 (fun q h => by cases h) y1 (by rw [← hcomp]; exact va_asg _ _) rfl rfl hd fun H1 e1 z oq => ?_
  refine kk H1 _ ls (hH.aput hi.1 (by omega) (by omega) rfl rfl (fun B ty b j h => ml_v_sR B m a i.toNatClampNeg v ty b j h) ?_ e1 z oq) (ml_locs hL h1) hl
  rw [h3.v, ml_val_sR]
  exact ml_refv h5
/-- null into an array of references -/
theorem ml_aastN {E : ml_E} {own : String} {cc : ByteArray} {d : Nat} {ini : Bool} {m : ml_M} {pc pc' : Nat} {lv : List (Nat × ml_X)} {st : List ml_X} {a kd : Nat} {i : Int32} (hd : ml_d cc pc .aastore 1 pc') (h23 : 23 ≤ kd ∧ kd < 31) (hi : ml_in m a kd i) (kn : ml_V E own cc d ini (ml_sR m a i.toNatClampNeg 0) pc' lv st) : ml_V E own cc d ini m pc lv (ml_r 0 :: ml_i i :: ml_r a :: st) := by
  obtain ⟨hd, rfl⟩ := hd
  obtain ⟨h3, h4⟩ := ml_isR_ety kd h23.1 h23.2
  intro n1 n2
  obtain ⟨kb, kk⟩ := kn n1 n2
  refine ⟨kb, fun C H locs ls hH hL hl => ?_⟩
  have kk := kk C
  obtain ⟨p, l, e, R, s, args, below, meth, c, Q, hW, hR, hx, hb, hml, hown, hts, hst, hin⟩ := C
  rw [hW] at kk ⊢
  obtain ⟨⟨h1, -⟩, h2⟩ := hH.arr hi.1 (by omega) (by omega)
  obtain ⟨kA, kc, comp, f1, f2, -⟩ := hst.2.1 kd (by omega) h23.2
  show W p l e R s (ml_em E) args below meth c H locs _ _ Q (F0 (ml_em E) pc ls (.null :: .int i :: ml_val (ml_b E) (ml_r a) :: ml_sv (ml_b E) st))
  rw [ml_refv h1]
  intro T hT X
  have hT' := (show T.heap[ml_b E + a]? = H[ml_b E + a]? by rw [hT]).trans h2
  obtain ⟨X', stp⟩ := aastoreNullIn X hx hT' (fun q h => by cases h) (fun h => by cases h) f1 f2 h4 (j := i) ⟨fun z => hi.2 (Or.inl z), by rw [arrV_size]; exact Nat.not_le.mp fun z => hi.2 (Or.inr z)⟩ (g := F0 (ml_em E) pc ls (.null :: .int i :: .ref (ml_b E + a) :: ml_sv (ml_b E) st)) rfl rfl (by rw [hb]; exact hd)
  have hlt : ml_b E + a < T.heap.size := (Array.getElem?_eq_some_iff.mp hT').1
  obtain ⟨t', a1, b1⟩ := kk _ _ ls (hH.aput hi.1 (by omega) (by omega) rfl rfl (fun B ty b j h => ml_v_sR B m a i.toNatClampNeg 0 ty b j h) (by rw [h3.v, ml_val_sR]; rfl) (heapAt_setCell_self _ hlt) (by rw [size_setCell, hT]) (fun q hq => by rw [heapAt_setCell_ne _ (Ne.symm hq), hT])) (ml_locs hL h1) hl _ rfl X'
  exact ⟨t', stp t' a1, b1⟩
-- cells made
abbrev ml_len (n : Int32) : Prop := ¬ n < 0 ∧ n.toNatClampNeg ≤ 20000
theorem ml_V.make {E : ml_E} {own : String} {cc : ByteArray} {d : Nat} {ini : Bool} {m : ml_M} {kd ln sz pc pc' : Nat} {lv : List (Nat × ml_X)} {st st' : List ml_X} (k : ml_V E own cc d ini (ml_al m kd ln sz) pc' lv st')
    (h : ml_Cx E own cc d ini → ∀ (H : Heap) (locs : List Loc) (ls : Array Slot), ml_HP (ml_eG E) m H → (ml_n m - ml_en E + 1 ≤ ml_eN E - ml_en E ∧ ml_s m - ml_es E + sz ≤ ml_eS E - ml_es E) → (∀ H1 : Heap, ml_HP (ml_eG E) (ml_al m kd ln sz) H1 → ml_eW E H1 locs (ml_n m - ml_en E + 1) (ml_s m - ml_es E + sz) (F0 (ml_em E) pc' ls (ml_sv (ml_b E) st'))) → lv_has ls (ml_eL E) (ml_lv (ml_b E) lv) → ml_eW E H locs (ml_n m - ml_en E) (ml_s m - ml_es E) (F0 (ml_em E) pc ls (ml_sv (ml_b E) st))) : ml_V E own cc d ini m pc lv st := by
  intro n1 n2
  obtain ⟨⟨k1, k2⟩, kk⟩ := k (by show _ ≤ ml_n m + 1; omega) (by show _ ≤ ml_s m + sz; omega)
  have k1 : ml_n m + 1 ≤ ml_eN E := k1
  have k2 : ml_s m + sz ≤ ml_eS E := k2
  refine ⟨⟨by omega, by omega⟩, fun C H locs ls hH hL hl => h C H locs ls hH ⟨by omega, by omega⟩ (fun H1 h1 => ?_) hl⟩
  have := kk C H1 locs ls h1 hL hl
  rw [show ml_n (ml_al m kd ln sz) - ml_en E = ml_n m - ml_en E + 1 by show ml_n m + 1 - _ = _; omega, show ml_s (ml_al m kd ln sz) - ml_es E = ml_s m - ml_es E + sz by show ml_s m + sz - _ = _; omega] at this
  exact this
theorem ml_new1 (G : ml_G) {m : ml_M} {H : Heap} (hH : ml_HP G m H) : ml_val (ml_B G) (ml_r (ml_n m + 1)) = .ref H.size := by
  rw [ml_refv (by omega), hH.1, show ml_B G + (ml_n m + 1) = ml_B G + 1 + ml_n m by omega]
/-- a new object of class ci, by the pool's entry idx of class own -/
def ml_o (own : String) (idx ci N : Nat) : Prop := ∃ q : vw_C, ml_cs[ci]? = some q ∧ q.2.2 = N ∧ Cond.classLink own idx q.1 ∈ ml_TB ∧ Cond.instantiable q.1 N ∈ ml_TB ∧ Cond.initialized q.1 ∈ ml_TB
theorem ml_newO {E : ml_E} {own : String} {cc : ByteArray} {d : Nat} {ini : Bool} {m : ml_M} {pc pc' : Nat} {lv : List (Nat × ml_X)} {st : List ml_X} {idx ci N : Nat} (hd : ml_d cc pc (.new idx) 3 pc') (ho : ml_o own idx ci N) (kn : ml_V E own cc d ini (ml_al m ci 0 N) pc' lv (ml_r (ml_n m + 1) :: st)) : ml_V E own cc d ini m pc lv st := by
  obtain ⟨hd, rfl⟩ := hd
  obtain ⟨q, hq, hN, w1, w2, w3⟩ := ho
  subst hN
  refine kn.make fun C H locs ls hH hr kk hl => ?_
  obtain ⟨p, l, e, R, s, args, below, meth, c, Q, hW, hR, hx, hb, hml, hown, hts, hst, hin⟩ := C
  rw [hW] at kk ⊢
  have hKn := hst.1 ci q hq
  refine W.newcK hx hb hown (hts _ w1) (hts _ w2) (hts _ w3) rfl hd (by omega) (by omega) hKn.2.1 rfl fun H1 kC hkC e1 z1 o1 => ?_
  have hat : ml_at (ml_eG E) (ml_al m ci 0 q.2.2) (ml_n m + 1) H1 := by
    have hk : ml_K (ml_al m ci 0 q.2.2) (ml_n m + 1) = (ci, 0) := by rw [ml_K_al, if_pos rfl]
    refine Or.inl ⟨q, by rw [hk]; exact hq, ?_⟩
    rw [hk]
    have e2 : H1[ml_B (ml_eG E) + (ml_n m + 1)]? = some (blank ((ml_D (ml_eG E)).1 ci) kC) := by
      rw [show ml_B (ml_eG E) + (ml_n m + 1) = H.size by rw [hH.1]; omega]
      exact e1
    exact (u_born (ml_ty ci) hts (ml_lay ci q hq) hKn hkC e2 (ml_nm ci q hq).2).to fun j hj => (ml_v_al0 _ _ _ _ _ _ _ (ml_nofd_ty ci q hq j hj)).symm
  have k2 := kk H1 (hH.al z1 o1 hat)
  have k2 : W p l e R s (ml_em E) args below meth c H1 locs _ _ Q (F0 (ml_em E) (pc + 3) ls (ml_val (ml_b E) (ml_r (ml_n m + 1)) :: ml_sv (ml_b E) st)) := k2
  rw [show ml_val (ml_b E) (ml_r (ml_n m + 1)) = .ref H.size from ml_new1 _ hH] at k2
  exact k2
theorem ml_at_arr {G : ml_G} {m : ml_M} {kd len sz : Nat} {H H1 : Heap} (hH : ml_HP G m H) (h20 : 20 ≤ kd) (h31 : kd < 31) (hfd : ml_nofd (ml_ety kd) = true) (e : H1[H.size]? = some (arrV (ml_cA G kd) len (fun _ => defaultValue (ml_ety kd)))) : ml_at G (ml_al m kd len sz) (ml_n m + 1) H1 := by
  have hk : ml_K (ml_al m kd len sz) (ml_n m + 1) = (kd, len) := by rw [ml_K_al, if_pos rfl]
  refine Or.inr ⟨by rw [hk]; exact ⟨h20, h31⟩, ?_⟩
  rw [hk, show ml_B G + (ml_n m + 1) = H.size by rw [hH.1]; omega, e]
  congr 2
  funext j
  exact (ml_v_al0 _ _ _ _ _ _ _ hfd).symm
theorem ml_newA {E : ml_E} {own : String} {cc : ByteArray} {d : Nat} {ini : Bool} {m : ml_M} {pc pc' : Nat} {lv : List (Nat × ml_X)} {st : List ml_X} {n : Int32} {ty : Jvm.ClassFile.ArrayType} {kd : Nat} (hd : ml_d cc pc (.newarray ty) 2 pc') (hk : 20 ≤ kd ∧ kd < 23 ∧ newarray.typeOf ty = ml_ety kd ∧ Cond.arrayClass (ml_ety kd) ∈ ml_TB) (hn : ml_len n) (kn : ml_V E own cc d ini (ml_al m kd n.toNatClampNeg n.toNatClampNeg) pc' lv (ml_r (ml_n m + 1) :: st)) : ml_V E own cc d ini m pc lv (ml_i n :: st) := by
  obtain ⟨hd, rfl⟩ := hd
  obtain ⟨h20, h23, hty, hw⟩ := hk
  have hcb : componentBytes (ml_ety kd) ≤ 8 ∧ ml_nofd (ml_ety kd) = true := by
    rcases (show kd = 20 ∨ kd = 21 ∨ kd = 22 by omega) with rfl | rfl | rfl <;> exact ⟨by decide, rfl⟩
  refine kn.make fun C H locs ls hH hr kk hl => ?_
  obtain ⟨p, l, e, R, s, args, below, meth, c, Q, hW, hR, hx, hb, hml, hown, hts, hst, hin⟩ := C
  rw [hW] at kk ⊢
  refine W.newa hx hb (by rw [hty]; exact hts _ hw) rfl hd (n := n) (rest := ml_sv (ml_b E) st) rfl hn.1 (by
    rw [hty]
    exact Nat.le_trans (Nat.mul_le_mul hn.2 hcb.1) (Nat.le_of_ble_eq_true rfl)) (by omega) (by omega) fun cA kA comp f1 f2 f3 => ?_
  obtain ⟨kA2, kc2, comp2, y1, y2, y3, -⟩ := hst.2.1 kd h20 (by omega)
  have hcA : cA = ml_cA (ml_eG E) kd := by
    rw [hty] at f1
    exact Option.some.inj (f1.symm.trans y3)
  generalize hH1 : H.push ({ cls := cA, slots := Array.replicate n.toNatClampNeg (defaultValue (newarray.typeOf ty)), vm := .none } : Cell) = H1
  have z1 : H1.size = H.size + 1 := by rw [← hH1, Array.size_push]
  have e1 : H1[H.size]? = some (arrV (ml_cA (ml_eG E) kd) n.toNatClampNeg (fun _ => defaultValue (ml_ety kd))) := by rw [← hH1, Array.getElem?_push_size, ← arrV_new, hcA, hty]
  have o1 : ∀ q : Nat, q < H.size → H1[q]? = H[q]? := fun q hq => by rw [← hH1, Array.getElem?_push, if_neg (Nat.ne_of_lt hq)]
  have k2 : W p l e R s (ml_em E) args below meth c H1 locs _ _ Q (F0 (ml_em E) (pc + 2) ls (ml_val (ml_b E) (ml_r (ml_n m + 1)) :: ml_sv (ml_b E) st)) := kk H1 (hH.al z1 o1 (ml_at_arr hH h20 (by omega) hcb.2 e1))
  rw [show ml_val (ml_b E) (ml_r (ml_n m + 1)) = .ref H.size from ml_new1 _ hH] at k2
  exact k2
theorem ml_newQ {E : ml_E} {own : String} {cc : ByteArray} {d : Nat} {ini : Bool} {m : ml_M} {pc pc' : Nat} {lv : List (Nat × ml_X)} {st : List ml_X} {n : Int32} {idx kd : Nat} {c9 : String} (hd : ml_d cc pc (.anewarray idx) 3 pc') (hk : 25 ≤ kd ∧ kd < 31 ∧ ml_ety kd = .object c9 ∧ c9 ∈ [RX0, RX2, RX5, RX6, RX8, RX9] ∧ Cond.classLink own idx c9 ∈ ml_TB) (hn : ml_len n) (kn : ml_V E own cc d ini (ml_al m kd n.toNatClampNeg n.toNatClampNeg) pc' lv (ml_r (ml_n m + 1) :: st)) : ml_V E own cc d ini m pc lv (ml_i n :: st) := by
  obtain ⟨hd, rfl⟩ := hd
  obtain ⟨h25, h31, hty, hmem, hw⟩ := hk
  refine kn.make fun C H locs ls hH hr kk hl => ?_
  obtain ⟨p, l, e, R, s, args, below, meth, c, Q, hW, hR, hx, hb, hml, hown, hts, hst, hin⟩ := C
  rw [hW] at kk ⊢
  refine W.anew hx hb hown (hts _ hw) (va_AO.use (hst.2.2.2.2.1 c9 hmem)) rfl hd (n := n) (rest := ml_sv (ml_b E) st) rfl hn.1 (Nat.le_trans (Nat.mul_le_mul_right 4 hn.2) (Nat.le_of_ble_eq_true rfl)) (by omega) (by omega) fun cA kA comp f1 f2 f3 f4 => ?_
  obtain ⟨kA2, kc2, comp2, y1, y2, y3, -⟩ := hst.2.1 kd (by omega) (by omega)
  have hcA : cA = ml_cA (ml_eG E) kd := by
    rw [hty] at y3
    exact Option.some.inj (f1.symm.trans y3)
  generalize hH1 : H.push ({ cls := cA, slots := Array.replicate n.toNatClampNeg .null, vm := .none } : Cell) = H1
  have z1 : H1.size = H.size + 1 := by rw [← hH1, Array.size_push]
  have e1 : H1[H.size]? = some (arrV (ml_cA (ml_eG E) kd) n.toNatClampNeg (fun _ => defaultValue (ml_ety kd))) := by rw [← hH1, Array.getElem?_push_size, ← arrV_new, hcA, hty]; rfl
  have o1 : ∀ q : Nat, q < H.size → H1[q]? = H[q]? := fun q hq => by rw [← hH1, Array.getElem?_push, if_neg (Nat.ne_of_lt hq)]
  have k2 : W p l e R s (ml_em E) args below meth c H1 locs _ _ Q (F0 (ml_em E) (pc + 3) ls (ml_val (ml_b E) (ml_r (ml_n m + 1)) :: ml_sv (ml_b E) st)) := kk H1 (hH.al z1 o1 (ml_at_arr hH (by omega) (by omega) (by rw [hty]; rfl) e1))
  rw [show ml_val (ml_b E) (ml_r (ml_n m + 1)) = .ref H.size from ml_new1 _ hH] at k2
  exact k2
theorem ml_newQA {E : ml_E} {own : String} {cc : ByteArray} {d : Nat} {ini : Bool} {m : ml_M} {pc pc' : Nat} {lv : List (Nat × ml_X)} {st : List ml_X} {n : Int32} {idx kd : Nat} {t9 : FieldType} (hd : ml_d cc pc (.anewarray idx) 3 pc') (hk : 23 ≤ kd ∧ kd < 25 ∧ ml_ety kd = .array t9 ∧ t9 ∈ [FieldType.int, FieldType.byte] ∧ Cond.classLink own idx (FieldType.array t9).toString ∈ ml_TB) (hn : ml_len n) (kn : ml_V E own cc d ini (ml_al m kd n.toNatClampNeg n.toNatClampNeg) pc' lv (ml_r (ml_n m + 1) :: st)) : ml_V E own cc d ini m pc lv (ml_i n :: st) := by
  obtain ⟨hd, rfl⟩ := hd
  obtain ⟨h25, h31, hty, hmem, hw⟩ := hk
  refine kn.make fun C H locs ls hH hr kk hl => ?_
  obtain ⟨p, l, e, R, s, args, below, meth, c, Q, hW, hR, hx, hb, hml, hown, hts, hst, hin⟩ := C
  rw [hW] at kk ⊢
  refine W.anewA hx hb (t := t9) hown (hts _ hw) (hst.2.2.2.2.2.1 t9 hmem) rfl hd (n := n) (rest := ml_sv (ml_b E) st) rfl hn.1 (Nat.le_trans (Nat.mul_le_mul_right 4 hn.2) (Nat.le_of_ble_eq_true rfl)) (by omega) (by omega) fun cA kA comp f1 f2 f3 f4 => ?_
  obtain ⟨kA2, kc2, comp2, y1, y2, y3, -⟩ := hst.2.1 kd (by omega) (by omega)
  have hcA : cA = ml_cA (ml_eG E) kd := by
    rw [hty] at y3
    exact Option.some.inj (f1.symm.trans y3)
  generalize hH1 : H.push ({ cls := cA, slots := Array.replicate n.toNatClampNeg .null, vm := .none } : Cell) = H1
  have z1 : H1.size = H.size + 1 := by rw [← hH1, Array.size_push]
  have e1 : H1[H.size]? = some (arrV (ml_cA (ml_eG E) kd) n.toNatClampNeg (fun _ => defaultValue (ml_ety kd))) := by rw [← hH1, Array.getElem?_push_size, ← arrV_new, hcA, hty]; rfl
  have o1 : ∀ q : Nat, q < H.size → H1[q]? = H[q]? := fun q hq => by rw [← hH1, Array.getElem?_push, if_neg (Nat.ne_of_lt hq)]
  have k2 : W p l e R s (ml_em E) args below meth c H1 locs _ _ Q (F0 (ml_em E) (pc + 3) ls (ml_val (ml_b E) (ml_r (ml_n m + 1)) :: ml_sv (ml_b E) st)) := kk H1 (hH.al z1 o1 (ml_at_arr hH (by omega) (by omega) (by rw [hty]; rfl) e1))
  rw [show ml_val (ml_b E) (ml_r (ml_n m + 1)) = .ref H.size from ml_new1 _ hH] at k2
  exact k2

/-! printed by wip/whole/emit.py out of the claim's own listing -/
theorem dX11_leastGaps_0 : ml_d cX11_leastGaps 0 (.bipush 100) 2 2 := ⟨by decide +kernel, rfl⟩
theorem dX11_leastGaps_2 : ml_d cX11_leastGaps 2 (.istore_n 1) 1 3 := ⟨by decide +kernel, rfl⟩
theorem dX11_leastGaps_3 : ml_d cX11_leastGaps 3 (.iconst 0) 1 4 := ⟨by decide +kernel, rfl⟩
theorem dX11_leastGaps_4 : ml_d cX11_leastGaps 4 (.istore_n 2) 1 5 := ⟨by decide +kernel, rfl⟩
theorem dX11_leastGaps_5 : ml_d cX11_leastGaps 5 (.iload_n 2) 1 6 := ⟨by decide +kernel, rfl⟩
theorem dX11_leastGaps_6 : ml_d cX11_leastGaps 6 (.aload_n 0) 1 7 := ⟨by decide +kernel, rfl⟩
theorem dX11_leastGaps_7 : ml_d cX11_leastGaps 7 (.getfield 187) 3 10 := ⟨by decide +kernel, rfl⟩
theorem dX11_leastGaps_10 : ml_j cX11_leastGaps 10 (.if_icmp .ge) 44 13 := ⟨34, by decide +kernel, by decide, rfl⟩
theorem dX11_leastGaps_13 : ml_d cX11_leastGaps 13 (.aload_n 0) 1 14 := ⟨by decide +kernel, rfl⟩
theorem dX11_leastGaps_14 : ml_d cX11_leastGaps 14 (.getfield 71) 3 17 := ⟨by decide +kernel, rfl⟩
theorem dX11_leastGaps_17 : ml_d cX11_leastGaps 17 (.bipush 10) 2 19 := ⟨by decide +kernel, rfl⟩
theorem dX11_leastGaps_19 : ml_d cX11_leastGaps 19 (.iconst 1) 1 20 := ⟨by decide +kernel, rfl⟩
theorem dX11_leastGaps_20 : ml_d cX11_leastGaps 20 (.iload_n 2) 1 21 := ⟨by decide +kernel, rfl⟩
theorem dX11_leastGaps_21 : ml_d cX11_leastGaps 21 (.ishl) 1 22 := ⟨by decide +kernel, rfl⟩
theorem dX11_leastGaps_22 : ml_d cX11_leastGaps 22 (.imul) 1 23 := ⟨by decide +kernel, rfl⟩
theorem dX11_leastGaps_23 : ml_d cX11_leastGaps 23 (.iload_n 2) 1 24 := ⟨by decide +kernel, rfl⟩
theorem dX11_leastGaps_24 : ml_d cX11_leastGaps 24 (.iadd) 1 25 := ⟨by decide +kernel, rfl⟩
theorem dX11_leastGaps_25 : ml_d cX11_leastGaps 25 (.iaload) 1 26 := ⟨by decide +kernel, rfl⟩
theorem dX11_leastGaps_26 : ml_d cX11_leastGaps 26 (.istore_n 3) 1 27 := ⟨by decide +kernel, rfl⟩
theorem dX11_leastGaps_27 : ml_d cX11_leastGaps 27 (.iload_n 3) 1 28 := ⟨by decide +kernel, rfl⟩
theorem dX11_leastGaps_28 : ml_d cX11_leastGaps 28 (.iload_n 1) 1 29 := ⟨by decide +kernel, rfl⟩
theorem dX11_leastGaps_29 : ml_j cX11_leastGaps 29 (.if_icmp .ge) 36 32 := ⟨7, by decide +kernel, by decide, rfl⟩
theorem dX11_leastGaps_32 : ml_d cX11_leastGaps 32 (.iload_n 3) 1 33 := ⟨by decide +kernel, rfl⟩
theorem dX11_leastGaps_33 : ml_j cX11_leastGaps 33 .goto 37 36 := ⟨4, by decide +kernel, by decide, rfl⟩
theorem dX11_leastGaps_36 : ml_d cX11_leastGaps 36 (.iload_n 1) 1 37 := ⟨by decide +kernel, rfl⟩
theorem dX11_leastGaps_37 : ml_d cX11_leastGaps 37 (.istore_n 1) 1 38 := ⟨by decide +kernel, rfl⟩
theorem dX11_leastGaps_38 : ml_d cX11_leastGaps 38 (.iinc 2 1) 3 41 := ⟨by decide +kernel, rfl⟩
theorem dX11_leastGaps_41 : ml_j cX11_leastGaps 41 .goto 5 44 := ⟨(-36), by decide +kernel, by decide, rfl⟩
theorem dX11_leastGaps_44 : ml_d cX11_leastGaps 44 (.iload_n 1) 1 45 := ⟨by decide +kernel, rfl⟩
theorem dX11_leastGaps_45 : ml_d cX11_leastGaps 45 (.ireturn) 1 46 := ⟨by decide +kernel, rfl⟩
def fX11_leastGaps_37 (k5 : Nat → Int32 → Int32 → ml_M → Option Int32) (l0 : Nat) (l2 : Int32) (t0 : Int32) (m : ml_M) : Option Int32 :=
    k5 l0 t0 (l2 + (1 : Int32)) m
theorem vX11_leastGaps_37 {E : ml_E} (hL : ml_eL E = 4) {rv : Int32} {m : ml_M} (hr : ∀ (pc pc' : Nat) (lv : List (Nat × ml_X)), ml_d cX11_leastGaps pc .ireturn 1 pc' → True → ml_V E "LostRoomModel" cX11_leastGaps 2 false m pc lv [ml_i rv]) {k5 : Nat → Int32 → Int32 → ml_M → Option Int32} (hk5 : ∀ (l0 : Nat) (l1 : Int32) (l2 : Int32), k5 l0 l1 l2 m = some rv → ml_V E "LostRoomModel" cX11_leastGaps 2 false m 5 [(0, ml_r l0), (1, ml_i l1), (2, ml_i l2)] []) : ∀ (l0 : Nat) (l2 : Int32) (t0 : Int32), fX11_leastGaps_37 k5 l0 l2 t0 m = some rv → ml_V E "LostRoomModel" cX11_leastGaps 2 false m 37 [(0, ml_r l0), (2, ml_i l2)] [ml_i t0] := by
  intro l0 l2 t0 h
  unfold fX11_leastGaps_37 at h
  exact ml_istore_n (lv' := [(1, ml_i t0), (0, ml_r l0), (2, ml_i l2)]) dX11_leastGaps_37 (ml_hn hL rfl) rfl <| ml_iinc (lv' := [(2, ml_i (l2 + (1 : Int32))), (1, ml_i t0), (0, ml_r l0)]) dX11_leastGaps_38 2 rfl (congrArg (l2 + ·) kc_i1) (ml_hn hL rfl) rfl <| ml_goto dX11_leastGaps_41 <| ml_V.sub [2, 1, 0] rfl (hk5 _ _ _ h)
def fX11_leastGaps_5 : Nat → Nat → Int32 → Int32 → ml_M → Option Int32
  | 0, _, _, _, _ => none
  | fu + 1, l0, l1, l2, m =>
    if (ml_K m l0).1 = 11 then
    if (ml_I m l0 37) ≤ l2 then
    some l1
    else
    ml_let (ml_R m l0 39) fun a3299 =>
    if ml_in m a3299 20 (((10 : Int32) * ((1 : Int32) <<< (l2 &&& 31))) + l2) then
    ml_let (ml_I m a3299 (((10 : Int32) * ((1 : Int32) <<< (l2 &&& 31))) + l2).toNatClampNeg) fun x3301 =>
    if l1 ≤ x3301 then
    fX11_leastGaps_37 (fX11_leastGaps_5 fu) l0 l2 l1 m
    else
    fX11_leastGaps_37 (fX11_leastGaps_5 fu) l0 l2 x3301 m
    else none
    else none
theorem vX11_leastGaps_5 {E : ml_E} (hL : ml_eL E = 4) {rv : Int32} {m : ml_M} (hr : ∀ (pc pc' : Nat) (lv : List (Nat × ml_X)), ml_d cX11_leastGaps pc .ireturn 1 pc' → True → ml_V E "LostRoomModel" cX11_leastGaps 2 false m pc lv [ml_i rv]) : ∀ (fu : Nat) (l0 : Nat) (l1 : Int32) (l2 : Int32), fX11_leastGaps_5 fu l0 l1 l2 m = some rv → ml_V E "LostRoomModel" cX11_leastGaps 2 false m 5 [(0, ml_r l0), (1, ml_i l1), (2, ml_i l2)] [] := by
  intro fu
  induction fu with
  | zero => intro l0 l1 l2 h; exact ml_none h
  | succ fu ih =>
    intro l0 l1 l2 h
    have hk5 := ih
    unfold fX11_leastGaps_5 at h
    exact ml_iload_n dX11_leastGaps_5 2 rfl <| ml_aload_n dX11_leastGaps_6 0 rfl <| ml_ck_of h fun hc3298 h => ml_getI dX11_leastGaps_7 wb_404 hc3298 <| ml_icmp_ge dX11_leastGaps_10 h (fun _ h => ml_iload_n dX11_leastGaps_44 1 rfl <| ml_rp (mk := ml_i) hr dX11_leastGaps_45 (fun _ => trivial) h) (fun _ h => ml_aload_n dX11_leastGaps_13 0 rfl <| ml_getR dX11_leastGaps_14 wb_431 hc3298 <| ml_lx (mk := ml_r) h fun a3299 h => ml_bipush dX11_leastGaps_17 kc_b10 <| ml_iconst dX11_leastGaps_19 kc_i1 <| ml_iload_n dX11_leastGaps_20 2 rfl <| ml_ishl dX11_leastGaps_21 <| ml_imul dX11_leastGaps_22 <| ml_iload_n dX11_leastGaps_23 2 rfl <| ml_iadd dX11_leastGaps_24 <| ml_ck_of h fun hi3300 h => ml_iald dX11_leastGaps_25 hi3300 <| ml_lx (mk := ml_i) h fun x3301 h => ml_istore_n (lv' := [(3, ml_i x3301), (0, ml_r l0), (1, ml_i l1), (2, ml_i l2)]) dX11_leastGaps_26 (ml_hn hL rfl) rfl <| ml_iload_n dX11_leastGaps_27 0 rfl <| ml_iload_n dX11_leastGaps_28 2 rfl <| ml_icmp_ge dX11_leastGaps_29 h (fun _ h => ml_iload_n dX11_leastGaps_36 2 rfl <| ml_V.sub [1, 3] rfl (vX11_leastGaps_37 hL hr hk5 _ _ _ h)) (fun _ h => ml_iload_n dX11_leastGaps_32 0 rfl <| ml_goto dX11_leastGaps_33 <| ml_V.sub [1, 3] rfl (vX11_leastGaps_37 hL hr hk5 _ _ _ h)))
def fX11_leastGaps (l0 : Nat) (m : ml_M) : Option Int32 :=
    fX11_leastGaps_5 ml_fu l0 (100 : Int32) (0 : Int32) m
theorem wX11_leastGaps_0 {E : ml_E} (hL : ml_eL E = 4) {rv : Int32} {m : ml_M} (hr : ∀ (pc pc' : Nat) (lv : List (Nat × ml_X)), ml_d cX11_leastGaps pc .ireturn 1 pc' → True → ml_V E "LostRoomModel" cX11_leastGaps 2 false m pc lv [ml_i rv]) : ∀ (l0 : Nat), fX11_leastGaps l0 m = some rv → ml_V E "LostRoomModel" cX11_leastGaps 2 false m 0 [(0, ml_r l0)] [] := by
  intro l0 h
  unfold fX11_leastGaps at h
  exact ml_bipush dX11_leastGaps_0 kc_b100 <| ml_istore_n (lv' := [(1, ml_i (100 : Int32)), (0, ml_r l0)]) dX11_leastGaps_2 (ml_hn hL rfl) rfl <| ml_iconst dX11_leastGaps_3 kc_i0 <| ml_istore_n (lv' := [(2, ml_i (0 : Int32)), (1, ml_i (100 : Int32)), (0, ml_r l0)]) dX11_leastGaps_4 (ml_hn hL rfl) rfl <| ml_V.sub [2, 1, 0] rfl (vX11_leastGaps_5 hL hr  ml_fu _ _ _ h)
theorem sX11_leastGaps {l0 : Nat} {m : ml_M} {rv : Int32} (h : fX11_leastGaps l0 m = some rv) : ml_Sn yX11_leastGaps cX11_leastGaps 4 (some .int) 2 [ml_r l0] m (some (ml_i rv)) m :=
  ml_Sn_of (P := True) (ini := false) (by decide +kernel) (Nat.le_of_ble_eq_true rfl) (fun h => by cases h) (fun _ => ml_RkI rv) fun E hL hr => wX11_leastGaps_0 hL hr _ h
theorem dX11_comesNext_0 : ml_d cX11_comesNext 0 (.iload_n 2) 1 1 := ⟨by decide +kernel, rfl⟩
theorem dX11_comesNext_1 : ml_d cX11_comesNext 1 (.bipush (-9)) 2 3 := ⟨by decide +kernel, rfl⟩
theorem dX11_comesNext_3 : ml_j cX11_comesNext 3 (.if_icmp .eq) 20 6 := ⟨17, by decide +kernel, by decide, rfl⟩
theorem dX11_comesNext_6 : ml_d cX11_comesNext 6 (.iload_n 2) 1 7 := ⟨by decide +kernel, rfl⟩
theorem dX11_comesNext_7 : ml_d cX11_comesNext 7 (.iload_n 1) 1 8 := ⟨by decide +kernel, rfl⟩
theorem dX11_comesNext_8 : ml_j cX11_comesNext 8 (.if_icmp .eq) 20 11 := ⟨12, by decide +kernel, by decide, rfl⟩
theorem dX11_comesNext_11 : ml_d cX11_comesNext 11 (.aload_n 0) 1 12 := ⟨by decide +kernel, rfl⟩
theorem dX11_comesNext_12 : ml_d cX11_comesNext 12 (.iload_n 2) 1 13 := ⟨by decide +kernel, rfl⟩
theorem dX11_comesNext_13 : ml_d cX11_comesNext 13 (.iload_n 1) 1 14 := ⟨by decide +kernel, rfl⟩
theorem dX11_comesNext_14 : ml_d cX11_comesNext 14 (.invokevirtual 325) 3 17 := ⟨by decide +kernel, rfl⟩
theorem dX11_comesNext_17 : ml_j cX11_comesNext 17 (.ifCond .eq) 24 20 := ⟨7, by decide +kernel, by decide, rfl⟩
theorem dX11_comesNext_20 : ml_d cX11_comesNext 20 (.iconst 0) 1 21 := ⟨by decide +kernel, rfl⟩
theorem dX11_comesNext_21 : ml_j cX11_comesNext 21 .goto 25 24 := ⟨4, by decide +kernel, by decide, rfl⟩
theorem dX11_comesNext_24 : ml_d cX11_comesNext 24 (.iconst 1) 1 25 := ⟨by decide +kernel, rfl⟩
theorem dX11_comesNext_25 : ml_d cX11_comesNext 25 (.istore 5) 2 27 := ⟨by decide +kernel, rfl⟩
theorem dX11_comesNext_27 : ml_d cX11_comesNext 27 (.iload_n 3) 1 28 := ⟨by decide +kernel, rfl⟩
theorem dX11_comesNext_28 : ml_d cX11_comesNext 28 (.iload_n 1) 1 29 := ⟨by decide +kernel, rfl⟩
theorem dX11_comesNext_29 : ml_d cX11_comesNext 29 (.invokestatic 260) 3 32 := ⟨by decide +kernel, rfl⟩
theorem dX11_comesNext_32 : ml_j cX11_comesNext 32 (.ifCond .ne) 62 35 := ⟨30, by decide +kernel, by decide, rfl⟩
theorem dX11_comesNext_35 : ml_d cX11_comesNext 35 (.aload_n 0) 1 36 := ⟨by decide +kernel, rfl⟩
theorem dX11_comesNext_36 : ml_d cX11_comesNext 36 (.getfield 71) 3 39 := ⟨by decide +kernel, rfl⟩
theorem dX11_comesNext_39 : ml_d cX11_comesNext 39 (.bipush 10) 2 41 := ⟨by decide +kernel, rfl⟩
theorem dX11_comesNext_41 : ml_d cX11_comesNext 41 (.iload_n 3) 1 42 := ⟨by decide +kernel, rfl⟩
theorem dX11_comesNext_42 : ml_d cX11_comesNext 42 (.iconst 1) 1 43 := ⟨by decide +kernel, rfl⟩
theorem dX11_comesNext_43 : ml_d cX11_comesNext 43 (.iload_n 1) 1 44 := ⟨by decide +kernel, rfl⟩
theorem dX11_comesNext_44 : ml_d cX11_comesNext 44 (.ishl) 1 45 := ⟨by decide +kernel, rfl⟩
theorem dX11_comesNext_45 : ml_d cX11_comesNext 45 (.ior) 1 46 := ⟨by decide +kernel, rfl⟩
theorem dX11_comesNext_46 : ml_d cX11_comesNext 46 (.imul) 1 47 := ⟨by decide +kernel, rfl⟩
theorem dX11_comesNext_47 : ml_d cX11_comesNext 47 (.iload_n 1) 1 48 := ⟨by decide +kernel, rfl⟩
theorem dX11_comesNext_48 : ml_d cX11_comesNext 48 (.iadd) 1 49 := ⟨by decide +kernel, rfl⟩
theorem dX11_comesNext_49 : ml_d cX11_comesNext 49 (.iaload) 1 50 := ⟨by decide +kernel, rfl⟩
theorem dX11_comesNext_50 : ml_d cX11_comesNext 50 (.iload 5) 2 52 := ⟨by decide +kernel, rfl⟩
theorem dX11_comesNext_52 : ml_d cX11_comesNext 52 (.iadd) 1 53 := ⟨by decide +kernel, rfl⟩
theorem dX11_comesNext_53 : ml_d cX11_comesNext 53 (.iload 4) 2 55 := ⟨by decide +kernel, rfl⟩
theorem dX11_comesNext_55 : ml_j cX11_comesNext 55 (.if_icmp .ne) 62 58 := ⟨7, by decide +kernel, by decide, rfl⟩
theorem dX11_comesNext_58 : ml_d cX11_comesNext 58 (.iconst 1) 1 59 := ⟨by decide +kernel, rfl⟩
theorem dX11_comesNext_59 : ml_j cX11_comesNext 59 .goto 63 62 := ⟨4, by decide +kernel, by decide, rfl⟩
theorem dX11_comesNext_62 : ml_d cX11_comesNext 62 (.iconst 0) 1 63 := ⟨by decide +kernel, rfl⟩
theorem dX11_comesNext_63 : ml_d cX11_comesNext 63 (.ireturn) 1 64 := ⟨by decide +kernel, rfl⟩
def fX11_comesNext_25 (l0 : Nat) (l1 : Int32) (l3 : Int32) (l4 : Int32) (t0 : Int32) (m : ml_M) : Option Int32 :=
    ml_b1 (fX11_has l3 l1 m) fun r3303 =>
    if r3303 = 0 then
    if (ml_K m l0).1 = 11 then
    ml_let (ml_R m l0 39) fun a3305 =>
    if ml_in m a3305 20 (((10 : Int32) * (l3 ||| ((1 : Int32) <<< (l1 &&& 31)))) + l1) then
    if ((ml_I m a3305 (((10 : Int32) * (l3 ||| ((1 : Int32) <<< (l1 &&& 31)))) + l1).toNatClampNeg) + t0) = l4 then
    some (1 : Int32)
    else
    some (0 : Int32)
    else none
    else none
    else
    some (0 : Int32)
theorem vX11_comesNext_25 {E : ml_E} (hL : ml_eL E = 6) {rv : Int32} {m : ml_M} (hr : ∀ (pc pc' : Nat) (lv : List (Nat × ml_X)), ml_d cX11_comesNext pc .ireturn 1 pc' → (rv = 0 ∨ rv = 1) → ml_V E "LostRoomModel" cX11_comesNext 3 false m pc lv [ml_i rv]) : ∀ (l0 : Nat) (l1 : Int32) (l3 : Int32) (l4 : Int32) (t0 : Int32), fX11_comesNext_25 l0 l1 l3 l4 t0 m = some rv → ml_V E "LostRoomModel" cX11_comesNext 3 false m 25 [(0, ml_r l0), (1, ml_i l1), (3, ml_i l3), (4, ml_i l4)] [ml_i t0] := by
  intro l0 l1 l3 l4 t0 h
  unfold fX11_comesNext_25 at h
  exact ml_istore (lv' := [(5, ml_i t0), (0, ml_r l0), (1, ml_i l1), (3, ml_i l3), (4, ml_i l4)]) dX11_comesNext_25 (ml_hn hL rfl) rfl <| ml_iload_n dX11_comesNext_27 3 rfl <| ml_iload_n dX11_comesNext_28 2 rfl <| ml_b1_of h fun r3303 hv3302 h => ml_callS dX11_comesNext_29 wm_492 wb_300 (sX11_has hv3302) rfl (Nat.le_of_ble_eq_true rfl) (Nat.le_of_ble_eq_true rfl) rfl <| ml_if_ne dX11_comesNext_32 h (fun _ h => ml_iconst dX11_comesNext_62 kc_i0 <| ml_rp (mk := ml_i) hr dX11_comesNext_63 (fun e => Or.inl e.symm) h) (fun _ h => ml_aload_n dX11_comesNext_35 1 rfl <| ml_ck_of h fun hc3304 h => ml_getR dX11_comesNext_36 wb_431 hc3304 <| ml_lx (mk := ml_r) h fun a3305 h => ml_bipush dX11_comesNext_39 kc_b10 <| ml_iload_n dX11_comesNext_41 3 rfl <| ml_iconst dX11_comesNext_42 kc_i1 <| ml_iload_n dX11_comesNext_43 2 rfl <| ml_ishl dX11_comesNext_44 <| ml_ior dX11_comesNext_45 <| ml_imul dX11_comesNext_46 <| ml_iload_n dX11_comesNext_47 2 rfl <| ml_iadd dX11_comesNext_48 <| ml_ck_of h fun hi3306 h => ml_iald dX11_comesNext_49 hi3306 <| ml_iload dX11_comesNext_50 0 rfl <| ml_iadd dX11_comesNext_52 <| ml_iload dX11_comesNext_53 4 rfl <| ml_icmp_ne dX11_comesNext_55 h (fun _ h => ml_iconst dX11_comesNext_62 kc_i0 <| ml_rp (mk := ml_i) hr dX11_comesNext_63 (fun e => Or.inl e.symm) h) (fun _ h => ml_iconst dX11_comesNext_58 kc_i1 <| ml_goto dX11_comesNext_59 <| ml_rp (mk := ml_i) hr dX11_comesNext_63 (fun e => Or.inr e.symm) h))
def fX11_comesNext_20 (l0 : Nat) (l1 : Int32) (l3 : Int32) (l4 : Int32) (m : ml_M) : Option Int32 :=
    fX11_comesNext_25 l0 l1 l3 l4 (0 : Int32) m
theorem vX11_comesNext_20 {E : ml_E} (hL : ml_eL E = 6) {rv : Int32} {m : ml_M} (hr : ∀ (pc pc' : Nat) (lv : List (Nat × ml_X)), ml_d cX11_comesNext pc .ireturn 1 pc' → (rv = 0 ∨ rv = 1) → ml_V E "LostRoomModel" cX11_comesNext 3 false m pc lv [ml_i rv]) : ∀ (l0 : Nat) (l1 : Int32) (l3 : Int32) (l4 : Int32), fX11_comesNext_20 l0 l1 l3 l4 m = some rv → ml_V E "LostRoomModel" cX11_comesNext 3 false m 20 [(0, ml_r l0), (1, ml_i l1), (3, ml_i l3), (4, ml_i l4)] [] := by
  intro l0 l1 l3 l4 h
  unfold fX11_comesNext_20 at h
  exact ml_iconst dX11_comesNext_20 kc_i0 <| ml_goto dX11_comesNext_21 <| ml_V.sub [0, 1, 2, 3] rfl (vX11_comesNext_25 hL hr  _ _ _ _ _ h)
def fX11_comesNext (l0 : Nat) (l1 : Int32) (l2 : Int32) (l3 : Int32) (l4 : Int32) (m : ml_M) : Option Int32 :=
    if l2 = (-9 : Int32) then
    fX11_comesNext_20 l0 l1 l3 l4 m
    else
    if l2 = l1 then
    fX11_comesNext_20 l0 l1 l3 l4 m
    else
    if (ml_K m l0).1 = 11 then
    ml_b1 (fX11_doesJoin l0 l2 l1 m) fun r3309 =>
    if r3309 = 0 then
    fX11_comesNext_25 l0 l1 l3 l4 (1 : Int32) m
    else
    fX11_comesNext_20 l0 l1 l3 l4 m
    else none
theorem wX11_comesNext_0 {E : ml_E} (hL : ml_eL E = 6) {rv : Int32} {m : ml_M} (hr : ∀ (pc pc' : Nat) (lv : List (Nat × ml_X)), ml_d cX11_comesNext pc .ireturn 1 pc' → (rv = 0 ∨ rv = 1) → ml_V E "LostRoomModel" cX11_comesNext 3 false m pc lv [ml_i rv]) : ∀ (l0 : Nat) (l1 : Int32) (l2 : Int32) (l3 : Int32) (l4 : Int32), fX11_comesNext l0 l1 l2 l3 l4 m = some rv → ml_V E "LostRoomModel" cX11_comesNext 3 false m 0 [(0, ml_r l0), (1, ml_i l1), (2, ml_i l2), (3, ml_i l3), (4, ml_i l4)] [] := by
  intro l0 l1 l2 l3 l4 h
  unfold fX11_comesNext at h
  exact ml_iload_n dX11_comesNext_0 2 rfl <| ml_bipush dX11_comesNext_1 kc_bm9 <| ml_icmp_eq dX11_comesNext_3 h (fun _ h => ml_V.sub [0, 1, 3, 4] rfl (vX11_comesNext_20 hL hr  _ _ _ _ h)) (fun _ h => ml_iload_n dX11_comesNext_6 2 rfl <| ml_iload_n dX11_comesNext_7 1 rfl <| ml_icmp_eq dX11_comesNext_8 h (fun _ h => ml_V.sub [0, 1, 3, 4] rfl (vX11_comesNext_20 hL hr  _ _ _ _ h)) (fun _ h => ml_aload_n dX11_comesNext_11 0 rfl <| ml_iload_n dX11_comesNext_12 2 rfl <| ml_iload_n dX11_comesNext_13 1 rfl <| ml_ck_of h fun hc3308 h => ml_b1_of h fun r3309 hv3307 h => ml_callV dX11_comesNext_14 wm_681 wb_411 hc3308 (sX11_doesJoin hv3307) rfl (Nat.le_of_ble_eq_true rfl) (Nat.le_of_ble_eq_true rfl) rfl <| ml_if_eq dX11_comesNext_17 h (fun _ h => ml_iconst dX11_comesNext_24 kc_i1 <| ml_V.sub [0, 1, 3, 4] rfl (vX11_comesNext_25 hL hr  _ _ _ _ _ h)) (fun _ h => ml_V.sub [0, 1, 3, 4] rfl (vX11_comesNext_20 hL hr  _ _ _ _ h))))
theorem sX11_comesNext {l0 : Nat} {l1 : Int32} {l2 : Int32} {l3 : Int32} {l4 : Int32} {m : ml_M} {rv : Int32} (h : fX11_comesNext l0 l1 l2 l3 l4 m = some rv) : ml_Sn yX11_comesNext cX11_comesNext 6 (some .boolean) 3 [ml_r l0, ml_i l1, ml_i l2, ml_i l3, ml_i l4] m (some (ml_i rv)) m :=
  ml_Sn_of (P := (rv = 0 ∨ rv = 1)) (ini := false) (by decide +kernel) (Nat.le_of_ble_eq_true rfl) (fun h => by cases h) (fun hz => ml_RkZ rv hz) fun E hL hr => wX11_comesNext_0 hL hr _ _ _ _ _ h
theorem dX11_sheets_0 : ml_d cX11_sheets 0 (.iload_n 1) 1 1 := ⟨by decide +kernel, rfl⟩
theorem dX11_sheets_1 : ml_d cX11_sheets 1 (.invokestatic 111) 3 4 := ⟨by decide +kernel, rfl⟩
theorem dX11_sheets_4 : ml_j cX11_sheets 4 (.ifCond .ne) 9 7 := ⟨5, by decide +kernel, by decide, rfl⟩
theorem dX11_sheets_7 : ml_d cX11_sheets 7 (.iconst (-1)) 1 8 := ⟨by decide +kernel, rfl⟩
theorem dX11_sheets_8 : ml_d cX11_sheets 8 (.ireturn) 1 9 := ⟨by decide +kernel, rfl⟩
theorem dX11_sheets_9 : ml_d cX11_sheets 9 (.aload_n 0) 1 10 := ⟨by decide +kernel, rfl⟩
theorem dX11_sheets_10 : ml_d cX11_sheets 10 (.iload_n 1) 1 11 := ⟨by decide +kernel, rfl⟩
theorem dX11_sheets_11 : ml_d cX11_sheets 11 (.aload_n 0) 1 12 := ⟨by decide +kernel, rfl⟩
theorem dX11_sheets_12 : ml_d cX11_sheets 12 (.getfield 187) 3 15 := ⟨by decide +kernel, rfl⟩
theorem dX11_sheets_15 : ml_d cX11_sheets 15 (.invokevirtual 272) 3 18 := ⟨by decide +kernel, rfl⟩
theorem dX11_sheets_18 : ml_d cX11_sheets 18 (.aload_n 0) 1 19 := ⟨by decide +kernel, rfl⟩
theorem dX11_sheets_19 : ml_d cX11_sheets 19 (.getfield 187) 3 22 := ⟨by decide +kernel, rfl⟩
theorem dX11_sheets_22 : ml_j cX11_sheets 22 (.ifCond .ne) 27 25 := ⟨5, by decide +kernel, by decide, rfl⟩
theorem dX11_sheets_25 : ml_d cX11_sheets 25 (.iconst 0) 1 26 := ⟨by decide +kernel, rfl⟩
theorem dX11_sheets_26 : ml_d cX11_sheets 26 (.ireturn) 1 27 := ⟨by decide +kernel, rfl⟩
theorem dX11_sheets_27 : ml_d cX11_sheets 27 (.aload_n 0) 1 28 := ⟨by decide +kernel, rfl⟩
theorem dX11_sheets_28 : ml_d cX11_sheets 28 (.invokevirtual 332) 3 31 := ⟨by decide +kernel, rfl⟩
theorem dX11_sheets_31 : ml_d cX11_sheets 31 (.aload_n 0) 1 32 := ⟨by decide +kernel, rfl⟩
theorem dX11_sheets_32 : ml_d cX11_sheets 32 (.invokevirtual 335) 3 35 := ⟨by decide +kernel, rfl⟩
theorem dX11_sheets_35 : ml_d cX11_sheets 35 (.istore_n 2) 1 36 := ⟨by decide +kernel, rfl⟩
theorem dX11_sheets_36 : ml_d cX11_sheets 36 (.iload_n 2) 1 37 := ⟨by decide +kernel, rfl⟩
theorem dX11_sheets_37 : ml_d cX11_sheets 37 (.iconst 1) 1 38 := ⟨by decide +kernel, rfl⟩
theorem dX11_sheets_38 : ml_d cX11_sheets 38 (.iadd) 1 39 := ⟨by decide +kernel, rfl⟩
theorem dX11_sheets_39 : ml_d cX11_sheets 39 (.istore_n 3) 1 40 := ⟨by decide +kernel, rfl⟩
theorem dX11_sheets_40 : ml_d cX11_sheets 40 (.iconst 0) 1 41 := ⟨by decide +kernel, rfl⟩
theorem dX11_sheets_41 : ml_d cX11_sheets 41 (.istore 4) 2 43 := ⟨by decide +kernel, rfl⟩
theorem dX11_sheets_43 : ml_d cX11_sheets 43 (.bipush (-9)) 2 45 := ⟨by decide +kernel, rfl⟩
theorem dX11_sheets_45 : ml_d cX11_sheets 45 (.istore 5) 2 47 := ⟨by decide +kernel, rfl⟩
theorem dX11_sheets_47 : ml_d cX11_sheets 47 (.iconst 0) 1 48 := ⟨by decide +kernel, rfl⟩
theorem dX11_sheets_48 : ml_d cX11_sheets 48 (.istore 6) 2 50 := ⟨by decide +kernel, rfl⟩
theorem dX11_sheets_50 : ml_d cX11_sheets 50 (.iload 6) 2 52 := ⟨by decide +kernel, rfl⟩
theorem dX11_sheets_52 : ml_d cX11_sheets 52 (.aload_n 0) 1 53 := ⟨by decide +kernel, rfl⟩
theorem dX11_sheets_53 : ml_d cX11_sheets 53 (.getfield 187) 3 56 := ⟨by decide +kernel, rfl⟩
theorem dX11_sheets_56 : ml_j cX11_sheets 56 (.if_icmp .ge) 141 59 := ⟨85, by decide +kernel, by decide, rfl⟩
theorem dX11_sheets_59 : ml_d cX11_sheets 59 (.iconst 0) 1 60 := ⟨by decide +kernel, rfl⟩
theorem dX11_sheets_60 : ml_d cX11_sheets 60 (.istore 7) 2 62 := ⟨by decide +kernel, rfl⟩
theorem dX11_sheets_62 : ml_d cX11_sheets 62 (.aload_n 0) 1 63 := ⟨by decide +kernel, rfl⟩
theorem dX11_sheets_63 : ml_d cX11_sheets 63 (.iload 7) 2 65 := ⟨by decide +kernel, rfl⟩
theorem dX11_sheets_65 : ml_d cX11_sheets 65 (.iload 5) 2 67 := ⟨by decide +kernel, rfl⟩
theorem dX11_sheets_67 : ml_d cX11_sheets 67 (.iload 4) 2 69 := ⟨by decide +kernel, rfl⟩
theorem dX11_sheets_69 : ml_d cX11_sheets 69 (.iload_n 2) 1 70 := ⟨by decide +kernel, rfl⟩
theorem dX11_sheets_70 : ml_d cX11_sheets 70 (.invokevirtual 338) 3 73 := ⟨by decide +kernel, rfl⟩
theorem dX11_sheets_73 : ml_j cX11_sheets 73 (.ifCond .ne) 82 76 := ⟨9, by decide +kernel, by decide, rfl⟩
theorem dX11_sheets_76 : ml_d cX11_sheets 76 (.iinc 7 1) 3 79 := ⟨by decide +kernel, rfl⟩
theorem dX11_sheets_79 : ml_j cX11_sheets 79 .goto 62 82 := ⟨(-17), by decide +kernel, by decide, rfl⟩
theorem dX11_sheets_82 : ml_d cX11_sheets 82 (.iload_n 2) 1 83 := ⟨by decide +kernel, rfl⟩
theorem dX11_sheets_83 : ml_d cX11_sheets 83 (.iload 5) 2 85 := ⟨by decide +kernel, rfl⟩
theorem dX11_sheets_85 : ml_d cX11_sheets 85 (.bipush (-9)) 2 87 := ⟨by decide +kernel, rfl⟩
theorem dX11_sheets_87 : ml_j cX11_sheets 87 (.if_icmp .eq) 101 90 := ⟨14, by decide +kernel, by decide, rfl⟩
theorem dX11_sheets_90 : ml_d cX11_sheets 90 (.aload_n 0) 1 91 := ⟨by decide +kernel, rfl⟩
theorem dX11_sheets_91 : ml_d cX11_sheets 91 (.iload 5) 2 93 := ⟨by decide +kernel, rfl⟩
theorem dX11_sheets_93 : ml_d cX11_sheets 93 (.iload 7) 2 95 := ⟨by decide +kernel, rfl⟩
theorem dX11_sheets_95 : ml_d cX11_sheets 95 (.invokevirtual 325) 3 98 := ⟨by decide +kernel, rfl⟩
theorem dX11_sheets_98 : ml_j cX11_sheets 98 (.ifCond .eq) 105 101 := ⟨7, by decide +kernel, by decide, rfl⟩
theorem dX11_sheets_101 : ml_d cX11_sheets 101 (.iconst 0) 1 102 := ⟨by decide +kernel, rfl⟩
theorem dX11_sheets_102 : ml_j cX11_sheets 102 .goto 106 105 := ⟨4, by decide +kernel, by decide, rfl⟩
theorem dX11_sheets_105 : ml_d cX11_sheets 105 (.iconst 1) 1 106 := ⟨by decide +kernel, rfl⟩
theorem dX11_sheets_106 : ml_d cX11_sheets 106 (.isub) 1 107 := ⟨by decide +kernel, rfl⟩
theorem dX11_sheets_107 : ml_d cX11_sheets 107 (.istore_n 2) 1 108 := ⟨by decide +kernel, rfl⟩
theorem dX11_sheets_108 : ml_d cX11_sheets 108 (.aload_n 0) 1 109 := ⟨by decide +kernel, rfl⟩
theorem dX11_sheets_109 : ml_d cX11_sheets 109 (.getfield 16) 3 112 := ⟨by decide +kernel, rfl⟩
theorem dX11_sheets_112 : ml_d cX11_sheets 112 (.bipush 48) 2 114 := ⟨by decide +kernel, rfl⟩
theorem dX11_sheets_114 : ml_d cX11_sheets 114 (.iload_n 1) 1 115 := ⟨by decide +kernel, rfl⟩
theorem dX11_sheets_115 : ml_d cX11_sheets 115 (.imul) 1 116 := ⟨by decide +kernel, rfl⟩
theorem dX11_sheets_116 : ml_d cX11_sheets 116 (.iload 6) 2 118 := ⟨by decide +kernel, rfl⟩
theorem dX11_sheets_118 : ml_d cX11_sheets 118 (.iadd) 1 119 := ⟨by decide +kernel, rfl⟩
theorem dX11_sheets_119 : ml_d cX11_sheets 119 (.iload 7) 2 121 := ⟨by decide +kernel, rfl⟩
theorem dX11_sheets_121 : ml_d cX11_sheets 121 (.iastore) 1 122 := ⟨by decide +kernel, rfl⟩
theorem dX11_sheets_122 : ml_d cX11_sheets 122 (.iload 4) 2 124 := ⟨by decide +kernel, rfl⟩
theorem dX11_sheets_124 : ml_d cX11_sheets 124 (.iconst 1) 1 125 := ⟨by decide +kernel, rfl⟩
theorem dX11_sheets_125 : ml_d cX11_sheets 125 (.iload 7) 2 127 := ⟨by decide +kernel, rfl⟩
theorem dX11_sheets_127 : ml_d cX11_sheets 127 (.ishl) 1 128 := ⟨by decide +kernel, rfl⟩
theorem dX11_sheets_128 : ml_d cX11_sheets 128 (.ior) 1 129 := ⟨by decide +kernel, rfl⟩
theorem dX11_sheets_129 : ml_d cX11_sheets 129 (.istore 4) 2 131 := ⟨by decide +kernel, rfl⟩
theorem dX11_sheets_131 : ml_d cX11_sheets 131 (.iload 7) 2 133 := ⟨by decide +kernel, rfl⟩
theorem dX11_sheets_133 : ml_d cX11_sheets 133 (.istore 5) 2 135 := ⟨by decide +kernel, rfl⟩
theorem dX11_sheets_135 : ml_d cX11_sheets 135 (.iinc 6 1) 3 138 := ⟨by decide +kernel, rfl⟩
theorem dX11_sheets_138 : ml_j cX11_sheets 138 .goto 50 141 := ⟨(-88), by decide +kernel, by decide, rfl⟩
theorem dX11_sheets_141 : ml_d cX11_sheets 141 (.iload_n 3) 1 142 := ⟨by decide +kernel, rfl⟩
theorem dX11_sheets_142 : ml_d cX11_sheets 142 (.ireturn) 1 143 := ⟨by decide +kernel, rfl⟩
def fX11_sheets_106 (k50 : Nat → Int32 → Int32 → Int32 → Int32 → Int32 → Int32 → ml_M → Option (Int32 × ml_M)) (l0 : Nat) (l1 : Int32) (l3 : Int32) (l4 : Int32) (l6 : Int32) (l7 : Int32) (t0 : Int32) (t1 : Int32) (m : ml_M) : Option (Int32 × ml_M) :=
    ml_let (t1 - t0) fun x3310 =>
    if (ml_K m l0).1 = 11 then
    ml_let (ml_R m l0 5) fun a3312 =>
    if ml_in m a3312 20 (((48 : Int32) * l1) + l6) then
    ml_let (ml_sI m a3312 (((48 : Int32) * l1) + l6).toNatClampNeg l7) fun m3314 =>
    ml_let (l4 ||| ((1 : Int32) <<< (l7 &&& 31))) fun x3316 =>
    k50 l0 l1 x3310 l3 x3316 l7 (l6 + (1 : Int32)) m3314
    else none
    else none
theorem vX11_sheets_106 {E : ml_E} (hL : ml_eL E = 8) {rv : Int32} {rm : ml_M} (hr : ∀ (pc pc' : Nat) (lv : List (Nat × ml_X)), ml_d cX11_sheets pc .ireturn 1 pc' → True → ml_V E "LostRoomModel" cX11_sheets 4 false rm pc lv [ml_i rv]) {k50 : Nat → Int32 → Int32 → Int32 → Int32 → Int32 → Int32 → ml_M → Option (Int32 × ml_M)} (hk50 : ∀ (l0 : Nat) (l1 : Int32) (l2 : Int32) (l3 : Int32) (l4 : Int32) (l5 : Int32) (l6 : Int32) (m : ml_M), k50 l0 l1 l2 l3 l4 l5 l6 m = some (rv, rm) → ml_V E "LostRoomModel" cX11_sheets 4 false m 50 [(0, ml_r l0), (1, ml_i l1), (2, ml_i l2), (3, ml_i l3), (4, ml_i l4), (5, ml_i l5), (6, ml_i l6)] []) : ∀ (l0 : Nat) (l1 : Int32) (l3 : Int32) (l4 : Int32) (l6 : Int32) (l7 : Int32) (t0 : Int32) (t1 : Int32) (m : ml_M), fX11_sheets_106 k50 l0 l1 l3 l4 l6 l7 t0 t1 m = some (rv, rm) → ml_V E "LostRoomModel" cX11_sheets 4 false m 106 [(0, ml_r l0), (1, ml_i l1), (3, ml_i l3), (4, ml_i l4), (6, ml_i l6), (7, ml_i l7)] [ml_i t0, ml_i t1] := by
  intro l0 l1 l3 l4 l6 l7 t0 t1 m h
  unfold fX11_sheets_106 at h
  exact ml_isub dX11_sheets_106 <| ml_lx (mk := ml_i) h fun x3310 h => ml_istore_n (lv' := [(2, ml_i x3310), (0, ml_r l0), (1, ml_i l1), (3, ml_i l3), (4, ml_i l4), (6, ml_i l6), (7, ml_i l7)]) dX11_sheets_107 (ml_hn hL rfl) rfl <| ml_aload_n dX11_sheets_108 1 rfl <| ml_ck_of h fun hc3311 h => ml_getR dX11_sheets_109 wb_103 hc3311 <| ml_lx (mk := ml_r) h fun a3312 h => ml_bipush dX11_sheets_112 kc_b48 <| ml_iload_n dX11_sheets_114 2 rfl <| ml_imul dX11_sheets_115 <| ml_iload dX11_sheets_116 5 rfl <| ml_iadd dX11_sheets_118 <| ml_iload dX11_sheets_119 6 rfl <| ml_ck_of h fun hi3313 h => ml_iast dX11_sheets_121 hi3313 <| ml_lt (m := m) rfl h fun m3314 em3315 h => ml_iload dX11_sheets_122 4 rfl <| ml_iconst dX11_sheets_124 kc_i1 <| ml_iload dX11_sheets_125 6 rfl <| ml_ishl dX11_sheets_127 <| ml_ior dX11_sheets_128 <| ml_lx (mk := ml_i) h fun x3316 h => ml_istore (lv' := [(4, ml_i x3316), (2, ml_i x3310), (0, ml_r l0), (1, ml_i l1), (3, ml_i l3), (6, ml_i l6), (7, ml_i l7)]) dX11_sheets_129 (ml_hn hL rfl) rfl <| ml_iload dX11_sheets_131 6 rfl <| ml_istore (lv' := [(5, ml_i l7), (4, ml_i x3316), (2, ml_i x3310), (0, ml_r l0), (1, ml_i l1), (3, ml_i l3), (6, ml_i l6), (7, ml_i l7)]) dX11_sheets_133 (ml_hn hL rfl) rfl <| ml_iinc (lv' := [(6, ml_i (l6 + (1 : Int32))), (5, ml_i l7), (4, ml_i x3316), (2, ml_i x3310), (0, ml_r l0), (1, ml_i l1), (3, ml_i l3), (7, ml_i l7)]) dX11_sheets_135 6 rfl (congrArg (l6 + ·) kc_i1) (ml_hn hL rfl) rfl <| ml_goto dX11_sheets_138 <| ml_V.sub [4, 5, 3, 6, 2, 1, 0] rfl (hk50 _ _ _ _ _ _ _ _ h)
def fX11_sheets_101 (k50 : Nat → Int32 → Int32 → Int32 → Int32 → Int32 → Int32 → ml_M → Option (Int32 × ml_M)) (l0 : Nat) (l1 : Int32) (l3 : Int32) (l4 : Int32) (l6 : Int32) (l7 : Int32) (t0 : Int32) (m : ml_M) : Option (Int32 × ml_M) :=
    fX11_sheets_106 k50 l0 l1 l3 l4 l6 l7 (0 : Int32) t0 m
theorem vX11_sheets_101 {E : ml_E} (hL : ml_eL E = 8) {rv : Int32} {rm : ml_M} (hr : ∀ (pc pc' : Nat) (lv : List (Nat × ml_X)), ml_d cX11_sheets pc .ireturn 1 pc' → True → ml_V E "LostRoomModel" cX11_sheets 4 false rm pc lv [ml_i rv]) {k50 : Nat → Int32 → Int32 → Int32 → Int32 → Int32 → Int32 → ml_M → Option (Int32 × ml_M)} (hk50 : ∀ (l0 : Nat) (l1 : Int32) (l2 : Int32) (l3 : Int32) (l4 : Int32) (l5 : Int32) (l6 : Int32) (m : ml_M), k50 l0 l1 l2 l3 l4 l5 l6 m = some (rv, rm) → ml_V E "LostRoomModel" cX11_sheets 4 false m 50 [(0, ml_r l0), (1, ml_i l1), (2, ml_i l2), (3, ml_i l3), (4, ml_i l4), (5, ml_i l5), (6, ml_i l6)] []) : ∀ (l0 : Nat) (l1 : Int32) (l3 : Int32) (l4 : Int32) (l6 : Int32) (l7 : Int32) (t0 : Int32) (m : ml_M), fX11_sheets_101 k50 l0 l1 l3 l4 l6 l7 t0 m = some (rv, rm) → ml_V E "LostRoomModel" cX11_sheets 4 false m 101 [(0, ml_r l0), (1, ml_i l1), (3, ml_i l3), (4, ml_i l4), (6, ml_i l6), (7, ml_i l7)] [ml_i t0] := by
  intro l0 l1 l3 l4 l6 l7 t0 m h
  unfold fX11_sheets_101 at h
  exact ml_iconst dX11_sheets_101 kc_i0 <| ml_goto dX11_sheets_102 <| ml_V.sub [0, 1, 2, 3, 4, 5] rfl (vX11_sheets_106 hL hr hk50 _ _ _ _ _ _ _ _ _ h)
def fX11_sheets_82 (k50 : Nat → Int32 → Int32 → Int32 → Int32 → Int32 → Int32 → ml_M → Option (Int32 × ml_M)) (l0 : Nat) (l1 : Int32) (l2 : Int32) (l3 : Int32) (l4 : Int32) (l5 : Int32) (l6 : Int32) (l7 : Int32) (m : ml_M) : Option (Int32 × ml_M) :=
    if l5 = (-9 : Int32) then
    fX11_sheets_101 k50 l0 l1 l3 l4 l6 l7 l2 m
    else
    if (ml_K m l0).1 = 11 then
    ml_b1 (fX11_doesJoin l0 l5 l7 m) fun r3319 =>
    if r3319 = 0 then
    fX11_sheets_106 k50 l0 l1 l3 l4 l6 l7 (1 : Int32) l2 m
    else
    fX11_sheets_101 k50 l0 l1 l3 l4 l6 l7 l2 m
    else none
theorem vX11_sheets_82 {E : ml_E} (hL : ml_eL E = 8) {rv : Int32} {rm : ml_M} (hr : ∀ (pc pc' : Nat) (lv : List (Nat × ml_X)), ml_d cX11_sheets pc .ireturn 1 pc' → True → ml_V E "LostRoomModel" cX11_sheets 4 false rm pc lv [ml_i rv]) {k50 : Nat → Int32 → Int32 → Int32 → Int32 → Int32 → Int32 → ml_M → Option (Int32 × ml_M)} (hk50 : ∀ (l0 : Nat) (l1 : Int32) (l2 : Int32) (l3 : Int32) (l4 : Int32) (l5 : Int32) (l6 : Int32) (m : ml_M), k50 l0 l1 l2 l3 l4 l5 l6 m = some (rv, rm) → ml_V E "LostRoomModel" cX11_sheets 4 false m 50 [(0, ml_r l0), (1, ml_i l1), (2, ml_i l2), (3, ml_i l3), (4, ml_i l4), (5, ml_i l5), (6, ml_i l6)] []) : ∀ (l0 : Nat) (l1 : Int32) (l2 : Int32) (l3 : Int32) (l4 : Int32) (l5 : Int32) (l6 : Int32) (l7 : Int32) (m : ml_M), fX11_sheets_82 k50 l0 l1 l2 l3 l4 l5 l6 l7 m = some (rv, rm) → ml_V E "LostRoomModel" cX11_sheets 4 false m 82 [(0, ml_r l0), (1, ml_i l1), (2, ml_i l2), (3, ml_i l3), (4, ml_i l4), (5, ml_i l5), (6, ml_i l6), (7, ml_i l7)] [] := by
  intro l0 l1 l2 l3 l4 l5 l6 l7 m h
  unfold fX11_sheets_82 at h
  exact ml_iload_n dX11_sheets_82 2 rfl <| ml_iload dX11_sheets_83 5 rfl <| ml_bipush dX11_sheets_85 kc_bm9 <| ml_icmp_eq dX11_sheets_87 h (fun _ h => ml_V.sub [0, 1, 3, 4, 6, 7] rfl (vX11_sheets_101 hL hr hk50 _ _ _ _ _ _ _ _ h)) (fun _ h => ml_aload_n dX11_sheets_90 0 rfl <| ml_iload dX11_sheets_91 5 rfl <| ml_iload dX11_sheets_93 7 rfl <| ml_ck_of h fun hc3318 h => ml_b1_of h fun r3319 hv3317 h => ml_callV dX11_sheets_95 wm_681 wb_411 hc3318 (sX11_doesJoin hv3317) rfl (Nat.le_of_ble_eq_true rfl) (Nat.le_of_ble_eq_true rfl) rfl <| ml_if_eq dX11_sheets_98 h (fun _ h => ml_iconst dX11_sheets_105 kc_i1 <| ml_V.sub [0, 1, 3, 4, 6, 7] rfl (vX11_sheets_106 hL hr hk50 _ _ _ _ _ _ _ _ _ h)) (fun _ h => ml_V.sub [0, 1, 3, 4, 6, 7] rfl (vX11_sheets_101 hL hr hk50 _ _ _ _ _ _ _ _ h)))
def fX11_sheets_62 (k50 : Nat → Int32 → Int32 → Int32 → Int32 → Int32 → Int32 → ml_M → Option (Int32 × ml_M)) : Nat → Nat → Int32 → Int32 → Int32 → Int32 → Int32 → Int32 → Int32 → ml_M → Option (Int32 × ml_M)
  | 0, _, _, _, _, _, _, _, _, _ => none
  | fu + 1, l0, l1, l2, l3, l4, l5, l6, l7, m =>
    if (ml_K m l0).1 = 11 then
    ml_b1 (fX11_comesNext l0 l7 l5 l4 l2 m) fun r3322 =>
    if r3322 = 0 then
    (fX11_sheets_62 k50 fu) l0 l1 l2 l3 l4 l5 l6 (l7 + (1 : Int32)) m
    else
    fX11_sheets_82 k50 l0 l1 l2 l3 l4 l5 l6 l7 m
    else none
theorem vX11_sheets_62 {E : ml_E} (hL : ml_eL E = 8) {rv : Int32} {rm : ml_M} (hr : ∀ (pc pc' : Nat) (lv : List (Nat × ml_X)), ml_d cX11_sheets pc .ireturn 1 pc' → True → ml_V E "LostRoomModel" cX11_sheets 4 false rm pc lv [ml_i rv]) {k50 : Nat → Int32 → Int32 → Int32 → Int32 → Int32 → Int32 → ml_M → Option (Int32 × ml_M)} (hk50 : ∀ (l0 : Nat) (l1 : Int32) (l2 : Int32) (l3 : Int32) (l4 : Int32) (l5 : Int32) (l6 : Int32) (m : ml_M), k50 l0 l1 l2 l3 l4 l5 l6 m = some (rv, rm) → ml_V E "LostRoomModel" cX11_sheets 4 false m 50 [(0, ml_r l0), (1, ml_i l1), (2, ml_i l2), (3, ml_i l3), (4, ml_i l4), (5, ml_i l5), (6, ml_i l6)] []) : ∀ (fu : Nat) (l0 : Nat) (l1 : Int32) (l2 : Int32) (l3 : Int32) (l4 : Int32) (l5 : Int32) (l6 : Int32) (l7 : Int32) (m : ml_M), fX11_sheets_62 k50 fu l0 l1 l2 l3 l4 l5 l6 l7 m = some (rv, rm) → ml_V E "LostRoomModel" cX11_sheets 4 false m 62 [(0, ml_r l0), (1, ml_i l1), (2, ml_i l2), (3, ml_i l3), (4, ml_i l4), (5, ml_i l5), (6, ml_i l6), (7, ml_i l7)] [] := by
  intro fu
  induction fu with
  | zero => intro l0 l1 l2 l3 l4 l5 l6 l7 m h; exact ml_none h
  | succ fu ih =>
    intro l0 l1 l2 l3 l4 l5 l6 l7 m h
    have hk62 := ih
    unfold fX11_sheets_62 at h
    exact ml_aload_n dX11_sheets_62 0 rfl <| ml_iload dX11_sheets_63 7 rfl <| ml_iload dX11_sheets_65 5 rfl <| ml_iload dX11_sheets_67 4 rfl <| ml_iload_n dX11_sheets_69 2 rfl <| ml_ck_of h fun hc3321 h => ml_b1_of h fun r3322 hv3320 h => ml_callV dX11_sheets_70 wm_718 wb_433 hc3321 (sX11_comesNext hv3320) rfl (Nat.le_of_ble_eq_true rfl) (Nat.le_of_ble_eq_true rfl) rfl <| ml_if_ne dX11_sheets_73 h (fun _ h => ml_V.sub [0, 1, 2, 3, 4, 5, 6, 7] rfl (vX11_sheets_82 hL hr hk50 _ _ _ _ _ _ _ _ _ h)) (fun _ h => ml_iinc (lv' := [(7, ml_i (l7 + (1 : Int32))), (0, ml_r l0), (1, ml_i l1), (2, ml_i l2), (3, ml_i l3), (4, ml_i l4), (5, ml_i l5), (6, ml_i l6)]) dX11_sheets_76 7 rfl (congrArg (l7 + ·) kc_i1) (ml_hn hL rfl) rfl <| ml_goto dX11_sheets_79 <| ml_V.sub [1, 2, 3, 4, 5, 6, 7, 0] rfl (hk62 _ _ _ _ _ _ _ _ _ h))
def fX11_sheets_50 : Nat → Nat → Int32 → Int32 → Int32 → Int32 → Int32 → Int32 → ml_M → Option (Int32 × ml_M)
  | 0, _, _, _, _, _, _, _, _ => none
  | fu + 1, l0, l1, l2, l3, l4, l5, l6, m =>
    if (ml_K m l0).1 = 11 then
    if (ml_I m l0 37) ≤ l6 then
    some (l3, m)
    else
    fX11_sheets_62 (fX11_sheets_50 fu) ml_fu l0 l1 l2 l3 l4 l5 l6 (0 : Int32) m
    else none
theorem vX11_sheets_50 {E : ml_E} (hL : ml_eL E = 8) {rv : Int32} {rm : ml_M} (hr : ∀ (pc pc' : Nat) (lv : List (Nat × ml_X)), ml_d cX11_sheets pc .ireturn 1 pc' → True → ml_V E "LostRoomModel" cX11_sheets 4 false rm pc lv [ml_i rv]) : ∀ (fu : Nat) (l0 : Nat) (l1 : Int32) (l2 : Int32) (l3 : Int32) (l4 : Int32) (l5 : Int32) (l6 : Int32) (m : ml_M), fX11_sheets_50 fu l0 l1 l2 l3 l4 l5 l6 m = some (rv, rm) → ml_V E "LostRoomModel" cX11_sheets 4 false m 50 [(0, ml_r l0), (1, ml_i l1), (2, ml_i l2), (3, ml_i l3), (4, ml_i l4), (5, ml_i l5), (6, ml_i l6)] [] := by
  intro fu
  induction fu with
  | zero => intro l0 l1 l2 l3 l4 l5 l6 m h; exact ml_none h
  | succ fu ih =>
    intro l0 l1 l2 l3 l4 l5 l6 m h
    have hk50 := ih
    unfold fX11_sheets_50 at h
    exact ml_iload dX11_sheets_50 6 rfl <| ml_aload_n dX11_sheets_52 0 rfl <| ml_ck_of h fun hc3323 h => ml_getI dX11_sheets_53 wb_404 hc3323 <| ml_icmp_ge dX11_sheets_56 h (fun _ h => ml_iload_n dX11_sheets_141 3 rfl <| ml_rI (mk := ml_i) hr dX11_sheets_142 (fun _ => trivial) h) (fun _ h => ml_iconst dX11_sheets_59 kc_i0 <| ml_istore (lv' := [(7, ml_i (0 : Int32)), (0, ml_r l0), (1, ml_i l1), (2, ml_i l2), (3, ml_i l3), (4, ml_i l4), (5, ml_i l5), (6, ml_i l6)]) dX11_sheets_60 (ml_hn hL rfl) rfl <| ml_V.sub [1, 2, 3, 4, 5, 6, 7, 0] rfl (vX11_sheets_62 hL hr hk50 ml_fu _ _ _ _ _ _ _ _ _ h))
def fX11_sheets (l0 : Nat) (l1 : Int32) (m : ml_M) : Option (Int32 × ml_M) :=
    ml_b1 (fX11_isRow l1 m) fun r3325 =>
    if r3325 = 0 then
    some ((-1 : Int32), m)
    else
    if (ml_K m l0).1 = 11 then
    ml_b1 (fX11_clear l0 l1 (ml_I m l0 37) m) fun m3328 =>
    if (ml_K m3328 l0).1 = 11 then
    if (ml_I m3328 l0 37) = 0 then
    some ((0 : Int32), m3328)
    else
    ml_b1 (fX11_layGaps l0 m3328) fun m3331 =>
    if (ml_K m3331 l0).1 = 11 then
    ml_b1 (fX11_leastGaps l0 m3331) fun r3334 =>
    ml_let (r3334 + (1 : Int32)) fun x3335 =>
    fX11_sheets_50 ml_fu l0 l1 r3334 x3335 (0 : Int32) (-9 : Int32) (0 : Int32) m3331
    else none
    else none
    else none
theorem wX11_sheets_0 {E : ml_E} (hL : ml_eL E = 8) {rv : Int32} {rm : ml_M} (hr : ∀ (pc pc' : Nat) (lv : List (Nat × ml_X)), ml_d cX11_sheets pc .ireturn 1 pc' → True → ml_V E "LostRoomModel" cX11_sheets 4 false rm pc lv [ml_i rv]) : ∀ (l0 : Nat) (l1 : Int32) (m : ml_M), fX11_sheets l0 l1 m = some (rv, rm) → ml_V E "LostRoomModel" cX11_sheets 4 false m 0 [(0, ml_r l0), (1, ml_i l1)] [] := by
  intro l0 l1 m h
  unfold fX11_sheets at h
  exact ml_iload_n dX11_sheets_0 1 rfl <| ml_b1_of h fun r3325 hv3324 h => ml_callS dX11_sheets_1 wm_140 wb_104 (sX11_isRow hv3324) rfl (Nat.le_of_ble_eq_true rfl) (Nat.le_of_ble_eq_true rfl) rfl <| ml_if_ne dX11_sheets_4 h (fun _ h => ml_aload_n dX11_sheets_9 0 rfl <| ml_iload_n dX11_sheets_10 1 rfl <| ml_aload_n dX11_sheets_11 0 rfl <| ml_ck_of h fun hc3326 h => ml_getI dX11_sheets_12 wb_404 hc3326 <| ml_b1_of h fun m3328 hv3327 h => ml_callV dX11_sheets_15 wm_525 wb_311 hc3326 (sX11_clear hv3327) rfl (Nat.le_of_ble_eq_true rfl) (Nat.le_of_ble_eq_true rfl) rfl <| ml_aload_n dX11_sheets_18 0 rfl <| ml_ck_of h fun hc3329 h => ml_getI dX11_sheets_19 wb_404 hc3329 <| ml_if_ne dX11_sheets_22 h (fun _ h => ml_aload_n dX11_sheets_27 0 rfl <| ml_b1_of h fun m3331 hv3330 h => ml_callV dX11_sheets_28 wm_722 wb_434 hc3329 (sX11_layGaps hv3330) rfl (Nat.le_of_ble_eq_true rfl) (Nat.le_of_ble_eq_true rfl) rfl <| ml_aload_n dX11_sheets_31 0 rfl <| ml_ck_of h fun hc3333 h => ml_b1_of h fun r3334 hv3332 h => ml_callV dX11_sheets_32 wm_726 wb_435 hc3333 (sX11_leastGaps hv3332) rfl (Nat.le_of_ble_eq_true rfl) (Nat.le_of_ble_eq_true rfl) rfl <| ml_istore_n (lv' := [(2, ml_i r3334), (0, ml_r l0), (1, ml_i l1)]) dX11_sheets_35 (ml_hn hL rfl) rfl <| ml_iload_n dX11_sheets_36 0 rfl <| ml_iconst dX11_sheets_37 kc_i1 <| ml_iadd dX11_sheets_38 <| ml_lx (mk := ml_i) h fun x3335 h => ml_istore_n (lv' := [(3, ml_i x3335), (2, ml_i r3334), (0, ml_r l0), (1, ml_i l1)]) dX11_sheets_39 (ml_hn hL rfl) rfl <| ml_iconst dX11_sheets_40 kc_i0 <| ml_istore (lv' := [(4, ml_i (0 : Int32)), (3, ml_i x3335), (2, ml_i r3334), (0, ml_r l0), (1, ml_i l1)]) dX11_sheets_41 (ml_hn hL rfl) rfl <| ml_bipush dX11_sheets_43 kc_bm9 <| ml_istore (lv' := [(5, ml_i (-9 : Int32)), (4, ml_i (0 : Int32)), (3, ml_i x3335), (2, ml_i r3334), (0, ml_r l0), (1, ml_i l1)]) dX11_sheets_45 (ml_hn hL rfl) rfl <| ml_iconst dX11_sheets_47 kc_i0 <| ml_istore (lv' := [(6, ml_i (0 : Int32)), (5, ml_i (-9 : Int32)), (4, ml_i (0 : Int32)), (3, ml_i x3335), (2, ml_i r3334), (0, ml_r l0), (1, ml_i l1)]) dX11_sheets_48 (ml_hn hL rfl) rfl <| ml_V.sub [5, 6, 4, 3, 2, 1, 0] rfl (vX11_sheets_50 hL hr  ml_fu _ _ _ _ _ _ _ _ h)) (fun _ h => ml_iconst dX11_sheets_25 kc_i0 <| ml_rI (mk := ml_i) hr dX11_sheets_26 (fun _ => trivial) h)) (fun _ h => ml_iconst dX11_sheets_7 kc_im1 <| ml_rI (mk := ml_i) hr dX11_sheets_8 (fun _ => trivial) h)
theorem sX11_sheets {l0 : Nat} {l1 : Int32} {m : ml_M} {rv : Int32} {rm : ml_M} (h : fX11_sheets l0 l1 m = some (rv, rm)) : ml_Sn yX11_sheets cX11_sheets 8 (some .int) 4 [ml_r l0, ml_i l1] m (some (ml_i rv)) rm :=
  ml_Sn_of (P := True) (ini := false) (by decide +kernel) (Nat.le_of_ble_eq_true rfl) (fun h => by cases h) (fun _ => ml_RkI rv) fun E hL hr => wX11_sheets_0 hL hr _ _ _ h
theorem dX10_laid_0 : ml_d cX10_laid 0 (.aload_n 0) 1 1 := ⟨by decide +kernel, rfl⟩
theorem dX10_laid_1 : ml_d cX10_laid 1 (.invokevirtual 288) 3 4 := ⟨by decide +kernel, rfl⟩
theorem dX10_laid_4 : ml_d cX10_laid 4 (.aload_n 0) 1 5 := ⟨by decide +kernel, rfl⟩
theorem dX10_laid_5 : ml_d cX10_laid 5 (.getfield 68) 3 8 := ⟨by decide +kernel, rfl⟩
theorem dX10_laid_8 : ml_d cX10_laid 8 (.getfield 295) 3 11 := ⟨by decide +kernel, rfl⟩
theorem dX10_laid_11 : ml_d cX10_laid 11 (.ireturn) 1 12 := ⟨by decide +kernel, rfl⟩
def fX10_laid (l0 : Nat) (m : ml_M) : Option (Int32 × ml_M) :=
    if (ml_K m l0).1 = 10 then
    ml_b1 (fX10_refreshLays l0 m) fun m3338 =>
    if (ml_K m3338 l0).1 = 10 then
    ml_let (ml_R m3338 l0 13) fun a3340 =>
    if (ml_K m3338 a3340).1 = 4 then
    some ((ml_I m3338 a3340 2), m3338)
    else none
    else none
    else none
theorem wX10_laid_0 {E : ml_E} (hL : ml_eL E = 1) {rv : Int32} {rm : ml_M} (hr : ∀ (pc pc' : Nat) (lv : List (Nat × ml_X)), ml_d cX10_laid pc .ireturn 1 pc' → True → ml_V E "LostRoom" cX10_laid 7 false rm pc lv [ml_i rv]) : ∀ (l0 : Nat) (m : ml_M), fX10_laid l0 m = some (rv, rm) → ml_V E "LostRoom" cX10_laid 7 false m 0 [(0, ml_r l0)] [] := by
  intro l0 m h
  unfold fX10_laid at h
  exact ml_aload_n dX10_laid_0 0 rfl <| ml_ck_of h fun hc3337 h => ml_b1_of h fun m3338 hv3336 h => ml_callV dX10_laid_1 wm_708 wb_427 hc3337 (sX10_refreshLays hv3336) rfl (Nat.le_of_ble_eq_true rfl) (Nat.le_of_ble_eq_true rfl) rfl <| ml_aload_n dX10_laid_4 0 rfl <| ml_ck_of h fun hc3339 h => ml_getR dX10_laid_5 wb_187 hc3339 <| ml_lx (mk := ml_r) h fun a3340 h => ml_ck_of h fun hc3341 h => ml_getI dX10_laid_8 wb_436 hc3341 <| ml_rI (mk := ml_i) hr dX10_laid_11 (fun _ => trivial) h
theorem sX10_laid {l0 : Nat} {m : ml_M} {rv : Int32} {rm : ml_M} (h : fX10_laid l0 m = some (rv, rm)) : ml_Sn yX10_laid cX10_laid 1 (some .int) 7 [ml_r l0] m (some (ml_i rv)) rm :=
  ml_Sn_of (P := True) (ini := false) (by decide +kernel) (Nat.le_of_ble_eq_true rfl) (fun h => by cases h) (fun _ => ml_RkI rv) fun E hL hr => wX10_laid_0 hL hr _ _ h
theorem dX11_laid_0 : ml_d cX11_laid 0 (.aload_n 0) 1 1 := ⟨by decide +kernel, rfl⟩
theorem dX11_laid_1 : ml_d cX11_laid 1 (.getfield 187) 3 4 := ⟨by decide +kernel, rfl⟩
theorem dX11_laid_4 : ml_j cX11_laid 4 (.ifCond .ne) 9 7 := ⟨5, by decide +kernel, by decide, rfl⟩
theorem dX11_laid_7 : ml_d cX11_laid 7 (.iconst 1) 1 8 := ⟨by decide +kernel, rfl⟩
theorem dX11_laid_8 : ml_d cX11_laid 8 (.ireturn) 1 9 := ⟨by decide +kernel, rfl⟩
theorem dX11_laid_9 : ml_d cX11_laid 9 (.aload_n 0) 1 10 := ⟨by decide +kernel, rfl⟩
theorem dX11_laid_10 : ml_d cX11_laid 10 (.invokevirtual 332) 3 13 := ⟨by decide +kernel, rfl⟩
theorem dX11_laid_13 : ml_d cX11_laid 13 (.aload_n 0) 1 14 := ⟨by decide +kernel, rfl⟩
theorem dX11_laid_14 : ml_d cX11_laid 14 (.invokevirtual 335) 3 17 := ⟨by decide +kernel, rfl⟩
theorem dX11_laid_17 : ml_d cX11_laid 17 (.istore_n 1) 1 18 := ⟨by decide +kernel, rfl⟩
theorem dX11_laid_18 : ml_d cX11_laid 18 (.iconst 0) 1 19 := ⟨by decide +kernel, rfl⟩
theorem dX11_laid_19 : ml_d cX11_laid 19 (.istore_n 2) 1 20 := ⟨by decide +kernel, rfl⟩
theorem dX11_laid_20 : ml_d cX11_laid 20 (.iconst 0) 1 21 := ⟨by decide +kernel, rfl⟩
theorem dX11_laid_21 : ml_d cX11_laid 21 (.istore_n 3) 1 22 := ⟨by decide +kernel, rfl⟩
theorem dX11_laid_22 : ml_d cX11_laid 22 (.iload_n 3) 1 23 := ⟨by decide +kernel, rfl⟩
theorem dX11_laid_23 : ml_d cX11_laid 23 (.aload_n 0) 1 24 := ⟨by decide +kernel, rfl⟩
theorem dX11_laid_24 : ml_d cX11_laid 24 (.getfield 187) 3 27 := ⟨by decide +kernel, rfl⟩
theorem dX11_laid_27 : ml_j cX11_laid 27 (.if_icmp .ge) 71 30 := ⟨44, by decide +kernel, by decide, rfl⟩
theorem dX11_laid_30 : ml_d cX11_laid 30 (.bipush 10) 2 32 := ⟨by decide +kernel, rfl⟩
theorem dX11_laid_32 : ml_d cX11_laid 32 (.iconst 1) 1 33 := ⟨by decide +kernel, rfl⟩
theorem dX11_laid_33 : ml_d cX11_laid 33 (.iload_n 3) 1 34 := ⟨by decide +kernel, rfl⟩
theorem dX11_laid_34 : ml_d cX11_laid 34 (.ishl) 1 35 := ⟨by decide +kernel, rfl⟩
theorem dX11_laid_35 : ml_d cX11_laid 35 (.imul) 1 36 := ⟨by decide +kernel, rfl⟩
theorem dX11_laid_36 : ml_d cX11_laid 36 (.iload_n 3) 1 37 := ⟨by decide +kernel, rfl⟩
theorem dX11_laid_37 : ml_d cX11_laid 37 (.iadd) 1 38 := ⟨by decide +kernel, rfl⟩
theorem dX11_laid_38 : ml_d cX11_laid 38 (.istore 4) 2 40 := ⟨by decide +kernel, rfl⟩
theorem dX11_laid_40 : ml_d cX11_laid 40 (.iload_n 2) 1 41 := ⟨by decide +kernel, rfl⟩
theorem dX11_laid_41 : ml_d cX11_laid 41 (.aload_n 0) 1 42 := ⟨by decide +kernel, rfl⟩
theorem dX11_laid_42 : ml_d cX11_laid 42 (.getfield 71) 3 45 := ⟨by decide +kernel, rfl⟩
theorem dX11_laid_45 : ml_d cX11_laid 45 (.iload 4) 2 47 := ⟨by decide +kernel, rfl⟩
theorem dX11_laid_47 : ml_d cX11_laid 47 (.iaload) 1 48 := ⟨by decide +kernel, rfl⟩
theorem dX11_laid_48 : ml_d cX11_laid 48 (.iload_n 1) 1 49 := ⟨by decide +kernel, rfl⟩
theorem dX11_laid_49 : ml_j cX11_laid 49 (.if_icmp .ne) 62 52 := ⟨13, by decide +kernel, by decide, rfl⟩
theorem dX11_laid_52 : ml_d cX11_laid 52 (.aload_n 0) 1 53 := ⟨by decide +kernel, rfl⟩
theorem dX11_laid_53 : ml_d cX11_laid 53 (.getfield 74) 3 56 := ⟨by decide +kernel, rfl⟩
theorem dX11_laid_56 : ml_d cX11_laid 56 (.iload 4) 2 58 := ⟨by decide +kernel, rfl⟩
theorem dX11_laid_58 : ml_d cX11_laid 58 (.iaload) 1 59 := ⟨by decide +kernel, rfl⟩
theorem dX11_laid_59 : ml_j cX11_laid 59 .goto 63 62 := ⟨4, by decide +kernel, by decide, rfl⟩
theorem dX11_laid_62 : ml_d cX11_laid 62 (.iconst 0) 1 63 := ⟨by decide +kernel, rfl⟩
theorem dX11_laid_63 : ml_d cX11_laid 63 (.iadd) 1 64 := ⟨by decide +kernel, rfl⟩
theorem dX11_laid_64 : ml_d cX11_laid 64 (.istore_n 2) 1 65 := ⟨by decide +kernel, rfl⟩
theorem dX11_laid_65 : ml_d cX11_laid 65 (.iinc 3 1) 3 68 := ⟨by decide +kernel, rfl⟩
theorem dX11_laid_68 : ml_j cX11_laid 68 .goto 22 71 := ⟨(-46), by decide +kernel, by decide, rfl⟩
theorem dX11_laid_71 : ml_d cX11_laid 71 (.iload_n 2) 1 72 := ⟨by decide +kernel, rfl⟩
theorem dX11_laid_72 : ml_d cX11_laid 72 (.ireturn) 1 73 := ⟨by decide +kernel, rfl⟩
def fX11_laid_63 (k22 : Nat → Int32 → Int32 → Int32 → ml_M → Option (Int32 × ml_M)) (l0 : Nat) (l1 : Int32) (l3 : Int32) (t0 : Int32) (t1 : Int32) (m : ml_M) : Option (Int32 × ml_M) :=
    ml_let (t1 + t0) fun x3342 =>
    k22 l0 l1 x3342 (l3 + (1 : Int32)) m
theorem vX11_laid_63 {E : ml_E} (hL : ml_eL E = 5) {rv : Int32} {rm : ml_M} (hr : ∀ (pc pc' : Nat) (lv : List (Nat × ml_X)), ml_d cX11_laid pc .ireturn 1 pc' → True → ml_V E "LostRoomModel" cX11_laid 4 false rm pc lv [ml_i rv]) {k22 : Nat → Int32 → Int32 → Int32 → ml_M → Option (Int32 × ml_M)} (hk22 : ∀ (l0 : Nat) (l1 : Int32) (l2 : Int32) (l3 : Int32) (m : ml_M), k22 l0 l1 l2 l3 m = some (rv, rm) → ml_V E "LostRoomModel" cX11_laid 4 false m 22 [(0, ml_r l0), (1, ml_i l1), (2, ml_i l2), (3, ml_i l3)] []) : ∀ (l0 : Nat) (l1 : Int32) (l3 : Int32) (t0 : Int32) (t1 : Int32) (m : ml_M), fX11_laid_63 k22 l0 l1 l3 t0 t1 m = some (rv, rm) → ml_V E "LostRoomModel" cX11_laid 4 false m 63 [(0, ml_r l0), (1, ml_i l1), (3, ml_i l3)] [ml_i t0, ml_i t1] := by
  intro l0 l1 l3 t0 t1 m h
  unfold fX11_laid_63 at h
  exact ml_iadd dX11_laid_63 <| ml_lx (mk := ml_i) h fun x3342 h => ml_istore_n (lv' := [(2, ml_i x3342), (0, ml_r l0), (1, ml_i l1), (3, ml_i l3)]) dX11_laid_64 (ml_hn hL rfl) rfl <| ml_iinc (lv' := [(3, ml_i (l3 + (1 : Int32))), (2, ml_i x3342), (0, ml_r l0), (1, ml_i l1)]) dX11_laid_65 3 rfl (congrArg (l3 + ·) kc_i1) (ml_hn hL rfl) rfl <| ml_goto dX11_laid_68 <| ml_V.sub [2, 3, 1, 0] rfl (hk22 _ _ _ _ _ h)
def fX11_laid_22 : Nat → Nat → Int32 → Int32 → Int32 → ml_M → Option (Int32 × ml_M)
  | 0, _, _, _, _, _ => none
  | fu + 1, l0, l1, l2, l3, m =>
    if (ml_K m l0).1 = 11 then
    if (ml_I m l0 37) ≤ l3 then
    some (l2, m)
    else
    ml_let (((10 : Int32) * ((1 : Int32) <<< (l3 &&& 31))) + l3) fun x3344 =>
    ml_let (ml_R m l0 39) fun a3345 =>
    if ml_in m a3345 20 x3344 then
    if (ml_I m a3345 x3344.toNatClampNeg) = l1 then
    ml_let (ml_R m l0 40) fun a3347 =>
    if ml_in m a3347 20 x3344 then
    fX11_laid_63 (fX11_laid_22 fu) l0 l1 l3 (ml_I m a3347 x3344.toNatClampNeg) l2 m
    else none
    else
    fX11_laid_63 (fX11_laid_22 fu) l0 l1 l3 (0 : Int32) l2 m
    else none
    else none
theorem vX11_laid_22 {E : ml_E} (hL : ml_eL E = 5) {rv : Int32} {rm : ml_M} (hr : ∀ (pc pc' : Nat) (lv : List (Nat × ml_X)), ml_d cX11_laid pc .ireturn 1 pc' → True → ml_V E "LostRoomModel" cX11_laid 4 false rm pc lv [ml_i rv]) : ∀ (fu : Nat) (l0 : Nat) (l1 : Int32) (l2 : Int32) (l3 : Int32) (m : ml_M), fX11_laid_22 fu l0 l1 l2 l3 m = some (rv, rm) → ml_V E "LostRoomModel" cX11_laid 4 false m 22 [(0, ml_r l0), (1, ml_i l1), (2, ml_i l2), (3, ml_i l3)] [] := by
  intro fu
  induction fu with
  | zero => intro l0 l1 l2 l3 m h; exact ml_none h
  | succ fu ih =>
    intro l0 l1 l2 l3 m h
    have hk22 := ih
    unfold fX11_laid_22 at h
    exact ml_iload_n dX11_laid_22 3 rfl <| ml_aload_n dX11_laid_23 0 rfl <| ml_ck_of h fun hc3343 h => ml_getI dX11_laid_24 wb_404 hc3343 <| ml_icmp_ge dX11_laid_27 h (fun _ h => ml_iload_n dX11_laid_71 2 rfl <| ml_rI (mk := ml_i) hr dX11_laid_72 (fun _ => trivial) h) (fun _ h => ml_bipush dX11_laid_30 kc_b10 <| ml_iconst dX11_laid_32 kc_i1 <| ml_iload_n dX11_laid_33 3 rfl <| ml_ishl dX11_laid_34 <| ml_imul dX11_laid_35 <| ml_iload_n dX11_laid_36 3 rfl <| ml_iadd dX11_laid_37 <| ml_lx (mk := ml_i) h fun x3344 h => ml_istore (lv' := [(4, ml_i x3344), (0, ml_r l0), (1, ml_i l1), (2, ml_i l2), (3, ml_i l3)]) dX11_laid_38 (ml_hn hL rfl) rfl <| ml_iload_n dX11_laid_40 3 rfl <| ml_aload_n dX11_laid_41 1 rfl <| ml_getR dX11_laid_42 wb_431 hc3343 <| ml_lx (mk := ml_r) h fun a3345 h => ml_iload dX11_laid_45 0 rfl <| ml_ck_of h fun hi3346 h => ml_iald dX11_laid_47 hi3346 <| ml_iload_n dX11_laid_48 2 rfl <| ml_icmp_ne dX11_laid_49 h (fun _ h => ml_iconst dX11_laid_62 kc_i0 <| ml_V.sub [1, 2, 4] rfl (vX11_laid_63 hL hr hk22 _ _ _ _ _ _ h)) (fun _ h => ml_aload_n dX11_laid_52 1 rfl <| ml_getR dX11_laid_53 wb_430 hc3343 <| ml_lx (mk := ml_r) h fun a3347 h => ml_iload dX11_laid_56 0 rfl <| ml_ck_of h fun hi3348 h => ml_iald dX11_laid_58 hi3348 <| ml_goto dX11_laid_59 <| ml_V.sub [1, 2, 4] rfl (vX11_laid_63 hL hr hk22 _ _ _ _ _ _ h)))
def fX11_laid (l0 : Nat) (m : ml_M) : Option (Int32 × ml_M) :=
    if (ml_K m l0).1 = 11 then
    if (ml_I m l0 37) = 0 then
    some ((1 : Int32), m)
    else
    ml_b1 (fX11_layGaps l0 m) fun m3351 =>
    if (ml_K m3351 l0).1 = 11 then
    ml_b1 (fX11_leastGaps l0 m3351) fun r3354 =>
    fX11_laid_22 ml_fu l0 r3354 (0 : Int32) (0 : Int32) m3351
    else none
    else none
theorem wX11_laid_0 {E : ml_E} (hL : ml_eL E = 5) {rv : Int32} {rm : ml_M} (hr : ∀ (pc pc' : Nat) (lv : List (Nat × ml_X)), ml_d cX11_laid pc .ireturn 1 pc' → True → ml_V E "LostRoomModel" cX11_laid 4 false rm pc lv [ml_i rv]) : ∀ (l0 : Nat) (m : ml_M), fX11_laid l0 m = some (rv, rm) → ml_V E "LostRoomModel" cX11_laid 4 false m 0 [(0, ml_r l0)] [] := by
  intro l0 m h
  unfold fX11_laid at h
  exact ml_aload_n dX11_laid_0 0 rfl <| ml_ck_of h fun hc3349 h => ml_getI dX11_laid_1 wb_404 hc3349 <| ml_if_ne dX11_laid_4 h (fun _ h => ml_aload_n dX11_laid_9 0 rfl <| ml_b1_of h fun m3351 hv3350 h => ml_callV dX11_laid_10 wm_722 wb_434 hc3349 (sX11_layGaps hv3350) rfl (Nat.le_of_ble_eq_true rfl) (Nat.le_of_ble_eq_true rfl) rfl <| ml_aload_n dX11_laid_13 0 rfl <| ml_ck_of h fun hc3353 h => ml_b1_of h fun r3354 hv3352 h => ml_callV dX11_laid_14 wm_726 wb_435 hc3353 (sX11_leastGaps hv3352) rfl (Nat.le_of_ble_eq_true rfl) (Nat.le_of_ble_eq_true rfl) rfl <| ml_istore_n (lv' := [(1, ml_i r3354), (0, ml_r l0)]) dX11_laid_17 (ml_hn hL rfl) rfl <| ml_iconst dX11_laid_18 kc_i0 <| ml_istore_n (lv' := [(2, ml_i (0 : Int32)), (1, ml_i r3354), (0, ml_r l0)]) dX11_laid_19 (ml_hn hL rfl) rfl <| ml_iconst dX11_laid_20 kc_i0 <| ml_istore_n (lv' := [(3, ml_i (0 : Int32)), (2, ml_i (0 : Int32)), (1, ml_i r3354), (0, ml_r l0)]) dX11_laid_21 (ml_hn hL rfl) rfl <| ml_V.sub [3, 2, 1, 0] rfl (vX11_laid_22 hL hr  ml_fu _ _ _ _ _ h)) (fun _ h => ml_iconst dX11_laid_7 kc_i1 <| ml_rI (mk := ml_i) hr dX11_laid_8 (fun _ => trivial) h)
theorem sX11_laid {l0 : Nat} {m : ml_M} {rv : Int32} {rm : ml_M} (h : fX11_laid l0 m = some (rv, rm)) : ml_Sn yX11_laid cX11_laid 5 (some .int) 4 [ml_r l0] m (some (ml_i rv)) rm :=
  ml_Sn_of (P := True) (ini := false) (by decide +kernel) (Nat.le_of_ble_eq_true rfl) (fun h => by cases h) (fun _ => ml_RkI rv) fun E hL hr => wX11_laid_0 hL hr _ _ h
theorem dX3_gather_0 : ml_d cX3_gather 0 (.iconst 0) 1 1 := ⟨by decide +kernel, rfl⟩
theorem dX3_gather_1 : ml_d cX3_gather 1 (.istore 4) 2 3 := ⟨by decide +kernel, rfl⟩
theorem dX3_gather_3 : ml_d cX3_gather 3 (.iconst 0) 1 4 := ⟨by decide +kernel, rfl⟩
theorem dX3_gather_4 : ml_d cX3_gather 4 (.istore 5) 2 6 := ⟨by decide +kernel, rfl⟩
theorem dX3_gather_6 : ml_d cX3_gather 6 (.iload 5) 2 8 := ⟨by decide +kernel, rfl⟩
theorem dX3_gather_8 : ml_d cX3_gather 8 (.iload_n 2) 1 9 := ⟨by decide +kernel, rfl⟩
theorem dX3_gather_9 : ml_j cX3_gather 9 (.if_icmp .ge) 62 12 := ⟨53, by decide +kernel, by decide, rfl⟩
theorem dX3_gather_12 : ml_d cX3_gather 12 (.iload_n 3) 1 13 := ⟨by decide +kernel, rfl⟩
theorem dX3_gather_13 : ml_d cX3_gather 13 (.iload 5) 2 15 := ⟨by decide +kernel, rfl⟩
theorem dX3_gather_15 : ml_d cX3_gather 15 (.invokestatic 30) 3 18 := ⟨by decide +kernel, rfl⟩
theorem dX3_gather_18 : ml_j cX3_gather 18 (.ifCond .eq) 56 21 := ⟨38, by decide +kernel, by decide, rfl⟩
theorem dX3_gather_21 : ml_d cX3_gather 21 (.aload_n 1) 1 22 := ⟨by decide +kernel, rfl⟩
theorem dX3_gather_22 : ml_d cX3_gather 22 (.iload 5) 2 24 := ⟨by decide +kernel, rfl⟩
theorem dX3_gather_24 : ml_d cX3_gather 24 (.aaload) 1 25 := ⟨by decide +kernel, rfl⟩
theorem dX3_gather_25 : ml_d cX3_gather 25 (.getfield 34) 3 28 := ⟨by decide +kernel, rfl⟩
theorem dX3_gather_28 : ml_d cX3_gather 28 (.iconst 4) 1 29 := ⟨by decide +kernel, rfl⟩
theorem dX3_gather_29 : ml_j cX3_gather 29 (.if_icmp .eq) 35 32 := ⟨6, by decide +kernel, by decide, rfl⟩
theorem dX3_gather_32 : ml_j cX3_gather 32 .goto 56 35 := ⟨24, by decide +kernel, by decide, rfl⟩
theorem dX3_gather_35 : ml_d cX3_gather 35 (.iload 4) 2 37 := ⟨by decide +kernel, rfl⟩
theorem dX3_gather_37 : ml_d cX3_gather 37 (.bipush 10) 2 39 := ⟨by decide +kernel, rfl⟩
theorem dX3_gather_39 : ml_j cX3_gather 39 (.if_icmp .ge) 53 42 := ⟨14, by decide +kernel, by decide, rfl⟩
theorem dX3_gather_42 : ml_d cX3_gather 42 (.aload_n 0) 1 43 := ⟨by decide +kernel, rfl⟩
theorem dX3_gather_43 : ml_d cX3_gather 43 (.getfield 11) 3 46 := ⟨by decide +kernel, rfl⟩
theorem dX3_gather_46 : ml_d cX3_gather 46 (.iload 4) 2 48 := ⟨by decide +kernel, rfl⟩
theorem dX3_gather_48 : ml_d cX3_gather 48 (.aload_n 1) 1 49 := ⟨by decide +kernel, rfl⟩
theorem dX3_gather_49 : ml_d cX3_gather 49 (.iload 5) 2 51 := ⟨by decide +kernel, rfl⟩
theorem dX3_gather_51 : ml_d cX3_gather 51 (.aaload) 1 52 := ⟨by decide +kernel, rfl⟩
theorem dX3_gather_52 : ml_d cX3_gather 52 (.aastore) 1 53 := ⟨by decide +kernel, rfl⟩
theorem dX3_gather_53 : ml_d cX3_gather 53 (.iinc 4 1) 3 56 := ⟨by decide +kernel, rfl⟩
theorem dX3_gather_56 : ml_d cX3_gather 56 (.iinc 5 1) 3 59 := ⟨by decide +kernel, rfl⟩
theorem dX3_gather_59 : ml_j cX3_gather 59 .goto 6 62 := ⟨(-53), by decide +kernel, by decide, rfl⟩
theorem dX3_gather_62 : ml_d cX3_gather 62 (.aload_n 0) 1 63 := ⟨by decide +kernel, rfl⟩
theorem dX3_gather_63 : ml_d cX3_gather 63 (.iload 4) 2 65 := ⟨by decide +kernel, rfl⟩
theorem dX3_gather_65 : ml_d cX3_gather 65 (.bipush 10) 2 67 := ⟨by decide +kernel, rfl⟩
theorem dX3_gather_67 : ml_d cX3_gather 67 (.invokestatic 38) 3 70 := ⟨by decide +kernel, rfl⟩
theorem dX3_gather_70 : ml_d cX3_gather 70 (.putfield 44) 3 73 := ⟨by decide +kernel, rfl⟩
theorem dX3_gather_73 : ml_d cX3_gather 73 (.iload 4) 2 75 := ⟨by decide +kernel, rfl⟩
theorem dX3_gather_75 : ml_d cX3_gather 75 (.ireturn) 1 76 := ⟨by decide +kernel, rfl⟩
def fX3_gather_56 (k6 : Nat → Nat → Int32 → Int32 → Int32 → Int32 → ml_M → Option (Int32 × ml_M)) (l0 : Nat) (l1 : Nat) (l2 : Int32) (l3 : Int32) (l4 : Int32) (l5 : Int32) (m : ml_M) : Option (Int32 × ml_M) :=
    k6 l0 l1 l2 l3 l4 (l5 + (1 : Int32)) m
theorem vX3_gather_56 {E : ml_E} (hL : ml_eL E = 6) {rv : Int32} {rm : ml_M} (hr : ∀ (pc pc' : Nat) (lv : List (Nat × ml_X)), ml_d cX3_gather pc .ireturn 1 pc' → True → ml_V E "LostRoom$Journeys" cX3_gather 3 false rm pc lv [ml_i rv]) {k6 : Nat → Nat → Int32 → Int32 → Int32 → Int32 → ml_M → Option (Int32 × ml_M)} (hk6 : ∀ (l0 : Nat) (l1 : Nat) (l2 : Int32) (l3 : Int32) (l4 : Int32) (l5 : Int32) (m : ml_M), k6 l0 l1 l2 l3 l4 l5 m = some (rv, rm) → ml_V E "LostRoom$Journeys" cX3_gather 3 false m 6 [(0, ml_r l0), (1, ml_r l1), (2, ml_i l2), (3, ml_i l3), (4, ml_i l4), (5, ml_i l5)] []) : ∀ (l0 : Nat) (l1 : Nat) (l2 : Int32) (l3 : Int32) (l4 : Int32) (l5 : Int32) (m : ml_M), fX3_gather_56 k6 l0 l1 l2 l3 l4 l5 m = some (rv, rm) → ml_V E "LostRoom$Journeys" cX3_gather 3 false m 56 [(0, ml_r l0), (1, ml_r l1), (2, ml_i l2), (3, ml_i l3), (4, ml_i l4), (5, ml_i l5)] [] := by
  intro l0 l1 l2 l3 l4 l5 m h
  unfold fX3_gather_56 at h
  exact ml_iinc (lv' := [(5, ml_i (l5 + (1 : Int32))), (0, ml_r l0), (1, ml_r l1), (2, ml_i l2), (3, ml_i l3), (4, ml_i l4)]) dX3_gather_56 5 rfl (congrArg (l5 + ·) kc_i1) (ml_hn hL rfl) rfl <| ml_goto dX3_gather_59 <| ml_V.sub [1, 2, 3, 4, 5, 0] rfl (hk6 _ _ _ _ _ _ _ h)
def fX3_gather_53 (k6 : Nat → Nat → Int32 → Int32 → Int32 → Int32 → ml_M → Option (Int32 × ml_M)) (l0 : Nat) (l1 : Nat) (l2 : Int32) (l3 : Int32) (l4 : Int32) (l5 : Int32) (m : ml_M) : Option (Int32 × ml_M) :=
    fX3_gather_56 k6 l0 l1 l2 l3 (l4 + (1 : Int32)) l5 m
theorem vX3_gather_53 {E : ml_E} (hL : ml_eL E = 6) {rv : Int32} {rm : ml_M} (hr : ∀ (pc pc' : Nat) (lv : List (Nat × ml_X)), ml_d cX3_gather pc .ireturn 1 pc' → True → ml_V E "LostRoom$Journeys" cX3_gather 3 false rm pc lv [ml_i rv]) {k6 : Nat → Nat → Int32 → Int32 → Int32 → Int32 → ml_M → Option (Int32 × ml_M)} (hk6 : ∀ (l0 : Nat) (l1 : Nat) (l2 : Int32) (l3 : Int32) (l4 : Int32) (l5 : Int32) (m : ml_M), k6 l0 l1 l2 l3 l4 l5 m = some (rv, rm) → ml_V E "LostRoom$Journeys" cX3_gather 3 false m 6 [(0, ml_r l0), (1, ml_r l1), (2, ml_i l2), (3, ml_i l3), (4, ml_i l4), (5, ml_i l5)] []) : ∀ (l0 : Nat) (l1 : Nat) (l2 : Int32) (l3 : Int32) (l4 : Int32) (l5 : Int32) (m : ml_M), fX3_gather_53 k6 l0 l1 l2 l3 l4 l5 m = some (rv, rm) → ml_V E "LostRoom$Journeys" cX3_gather 3 false m 53 [(0, ml_r l0), (1, ml_r l1), (2, ml_i l2), (3, ml_i l3), (4, ml_i l4), (5, ml_i l5)] [] := by
  intro l0 l1 l2 l3 l4 l5 m h
  unfold fX3_gather_53 at h
  exact ml_iinc (lv' := [(4, ml_i (l4 + (1 : Int32))), (0, ml_r l0), (1, ml_r l1), (2, ml_i l2), (3, ml_i l3), (5, ml_i l5)]) dX3_gather_53 4 rfl (congrArg (l4 + ·) kc_i1) (ml_hn hL rfl) rfl <| ml_V.sub [1, 2, 3, 4, 0, 5] rfl (vX3_gather_56 hL hr hk6 _ _ _ _ _ _ _ h)
def fX3_gather_62 (l0 : Nat) (l4 : Int32) (m : ml_M) : Option (Int32 × ml_M) :=
    if (ml_K m l0).1 = 3 then
    ml_let (ml_sI m l0 1 (if (10 : Int32) < l4 then (10 : Int32) else l4)) fun m3356 =>
    some (l4, m3356)
    else none
theorem vX3_gather_62 {E : ml_E} (hL : ml_eL E = 6) {rv : Int32} {rm : ml_M} (hr : ∀ (pc pc' : Nat) (lv : List (Nat × ml_X)), ml_d cX3_gather pc .ireturn 1 pc' → True → ml_V E "LostRoom$Journeys" cX3_gather 3 false rm pc lv [ml_i rv]) : ∀ (l0 : Nat) (l4 : Int32) (m : ml_M), fX3_gather_62 l0 l4 m = some (rv, rm) → ml_V E "LostRoom$Journeys" cX3_gather 3 false m 62 [(0, ml_r l0), (4, ml_i l4)] [] := by
  intro l0 l4 m h
  unfold fX3_gather_62 at h
  exact ml_aload_n dX3_gather_62 0 rfl <| ml_iload dX3_gather_63 1 rfl <| ml_bipush dX3_gather_65 kc_b10 <| ml_mmin dX3_gather_67 wb_437 (Nat.le_of_ble_eq_true rfl) (Nat.le_of_ble_eq_true rfl) <| ml_ck_of h fun hc3355 h => ml_putI dX3_gather_70 wb_438 hc3355 <| ml_lt (m := m) rfl h fun m3356 em3357 h => ml_iload dX3_gather_73 1 rfl <| ml_rI (mk := ml_i) hr dX3_gather_75 (fun _ => trivial) h
def fX3_gather_6 : Nat → Nat → Nat → Int32 → Int32 → Int32 → Int32 → ml_M → Option (Int32 × ml_M)
  | 0, _, _, _, _, _, _, _ => none
  | fu + 1, l0, l1, l2, l3, l4, l5, m =>
    if l2 ≤ l5 then
    fX3_gather_62 l0 l4 m
    else
    ml_b1 (fX10_has l3 l5 m) fun r3359 =>
    if r3359 = 0 then
    fX3_gather_56 (fX3_gather_6 fu) l0 l1 l2 l3 l4 l5 m
    else
    if ml_in m l1 29 l5 then
    ml_let (ml_R m l1 l5.toNatClampNeg) fun a3361 =>
    if (ml_K m a3361).1 = 8 then
    if (ml_I m a3361 0) = (4 : Int32) then
    if (10 : Int32) ≤ l4 then
    fX3_gather_53 (fX3_gather_6 fu) l0 l1 l2 l3 l4 l5 m
    else
    if (ml_K m l0).1 = 3 then
    ml_let (ml_R m l0 0) fun a3364 =>
    if ml_in m l1 29 l5 then
    ml_let (ml_R m l1 l5.toNatClampNeg) fun a3366 =>
    if (ml_K m a3366).1 = 8 then
    if ml_in m a3364 29 l4 then
    ml_let (ml_sR m a3364 l4.toNatClampNeg a3366) fun m3369 =>
    fX3_gather_53 (fX3_gather_6 fu) l0 l1 l2 l3 l4 l5 m3369
    else none
    else none
    else none
    else none
    else
    fX3_gather_56 (fX3_gather_6 fu) l0 l1 l2 l3 l4 l5 m
    else none
    else none
theorem vX3_gather_6 {E : ml_E} (hL : ml_eL E = 6) {rv : Int32} {rm : ml_M} (hr : ∀ (pc pc' : Nat) (lv : List (Nat × ml_X)), ml_d cX3_gather pc .ireturn 1 pc' → True → ml_V E "LostRoom$Journeys" cX3_gather 3 false rm pc lv [ml_i rv]) : ∀ (fu : Nat) (l0 : Nat) (l1 : Nat) (l2 : Int32) (l3 : Int32) (l4 : Int32) (l5 : Int32) (m : ml_M), fX3_gather_6 fu l0 l1 l2 l3 l4 l5 m = some (rv, rm) → ml_V E "LostRoom$Journeys" cX3_gather 3 false m 6 [(0, ml_r l0), (1, ml_r l1), (2, ml_i l2), (3, ml_i l3), (4, ml_i l4), (5, ml_i l5)] [] := by
  intro fu
  induction fu with
  | zero => intro l0 l1 l2 l3 l4 l5 m h; exact ml_none h
  | succ fu ih =>
    intro l0 l1 l2 l3 l4 l5 m h
    have hk6 := ih
    unfold fX3_gather_6 at h
    exact ml_iload dX3_gather_6 5 rfl <| ml_iload_n dX3_gather_8 2 rfl <| ml_icmp_ge dX3_gather_9 h (fun _ h => ml_V.sub [0, 4] rfl (vX3_gather_62 hL hr  _ _ _ h)) (fun _ h => ml_iload_n dX3_gather_12 3 rfl <| ml_iload dX3_gather_13 5 rfl <| ml_b1_of h fun r3359 hv3358 h => ml_callSN (host := "LostRoom") dX3_gather_15 (by decide) wb_299 (sX10_has hv3358) rfl (Nat.le_of_ble_eq_true rfl) (Nat.le_of_ble_eq_true rfl) rfl <| ml_if_eq dX3_gather_18 h (fun _ h => ml_V.sub [0, 1, 2, 3, 4, 5] rfl (vX3_gather_56 hL hr hk6 _ _ _ _ _ _ _ h)) (fun _ h => ml_aload_n dX3_gather_21 1 rfl <| ml_iload dX3_gather_22 5 rfl <| ml_ck_of h fun hi3360 h => ml_aald (kd := 29) dX3_gather_24 (by decide) hi3360 <| ml_lx (mk := ml_r) h fun a3361 h => ml_ck_of h fun hc3362 h => ml_getI dX3_gather_25 wb_439 hc3362 <| ml_iconst dX3_gather_28 kc_i4 <| ml_icmp_eq dX3_gather_29 h (fun _ h => ml_iload dX3_gather_35 4 rfl <| ml_bipush dX3_gather_37 kc_b10 <| ml_icmp_ge dX3_gather_39 h (fun _ h => ml_V.sub [0, 1, 2, 3, 4, 5] rfl (vX3_gather_53 hL hr hk6 _ _ _ _ _ _ _ h)) (fun _ h => ml_aload_n dX3_gather_42 0 rfl <| ml_ck_of h fun hc3363 h => ml_getR dX3_gather_43 wb_440 hc3363 <| ml_lx (mk := ml_r) h fun a3364 h => ml_iload dX3_gather_46 4 rfl <| ml_aload_n dX3_gather_48 1 rfl <| ml_iload dX3_gather_49 5 rfl <| ml_ck_of h fun hi3365 h => ml_aald (kd := 29) dX3_gather_51 (by decide) hi3365 <| ml_lx (mk := ml_r) h fun a3366 h => ml_ck_of h fun hc3368 h => ml_ck_of h fun hi3367 h => ml_aast (kd := 29) (ci := 8) dX3_gather_52 (by decide) hi3367 hc3368 <| ml_lt (m := m) rfl h fun m3369 em3370 h => ml_V.sub [0, 1, 2, 3, 4, 5] rfl (vX3_gather_53 hL hr hk6 _ _ _ _ _ _ _ h))) (fun _ h => ml_goto dX3_gather_32 <| ml_V.sub [0, 1, 2, 3, 4, 5] rfl (vX3_gather_56 hL hr hk6 _ _ _ _ _ _ _ h))))
def fX3_gather (l0 : Nat) (l1 : Nat) (l2 : Int32) (l3 : Int32) (m : ml_M) : Option (Int32 × ml_M) :=
    fX3_gather_6 ml_fu l0 l1 l2 l3 (0 : Int32) (0 : Int32) m
theorem wX3_gather_0 {E : ml_E} (hL : ml_eL E = 6) {rv : Int32} {rm : ml_M} (hr : ∀ (pc pc' : Nat) (lv : List (Nat × ml_X)), ml_d cX3_gather pc .ireturn 1 pc' → True → ml_V E "LostRoom$Journeys" cX3_gather 3 false rm pc lv [ml_i rv]) : ∀ (l0 : Nat) (l1 : Nat) (l2 : Int32) (l3 : Int32) (m : ml_M), fX3_gather l0 l1 l2 l3 m = some (rv, rm) → ml_V E "LostRoom$Journeys" cX3_gather 3 false m 0 [(0, ml_r l0), (1, ml_r l1), (2, ml_i l2), (3, ml_i l3)] [] := by
  intro l0 l1 l2 l3 m h
  unfold fX3_gather at h
  exact ml_iconst dX3_gather_0 kc_i0 <| ml_istore (lv' := [(4, ml_i (0 : Int32)), (0, ml_r l0), (1, ml_r l1), (2, ml_i l2), (3, ml_i l3)]) dX3_gather_1 (ml_hn hL rfl) rfl <| ml_iconst dX3_gather_3 kc_i0 <| ml_istore (lv' := [(5, ml_i (0 : Int32)), (4, ml_i (0 : Int32)), (0, ml_r l0), (1, ml_r l1), (2, ml_i l2), (3, ml_i l3)]) dX3_gather_4 (ml_hn hL rfl) rfl <| ml_V.sub [2, 3, 4, 5, 1, 0] rfl (vX3_gather_6 hL hr  ml_fu _ _ _ _ _ _ _ h)
theorem sX3_gather {l0 : Nat} {l1 : Nat} {l2 : Int32} {l3 : Int32} {m : ml_M} {rv : Int32} {rm : ml_M} (h : fX3_gather l0 l1 l2 l3 m = some (rv, rm)) : ml_Sn yX3_gather cX3_gather 6 (some .int) 3 [ml_r l0, ml_r l1, ml_i l2, ml_i l3] m (some (ml_i rv)) rm :=
  ml_Sn_of (P := True) (ini := false) (by decide +kernel) (Nat.le_of_ble_eq_true rfl) (fun h => by cases h) (fun _ => ml_RkI rv) fun E hL hr => wX3_gather_0 hL hr _ _ _ _ _ h
theorem dX3_findAhead_0 : ml_d cX3_findAhead 0 (.iconst 0) 1 1 := ⟨by decide +kernel, rfl⟩
theorem dX3_findAhead_1 : ml_d cX3_findAhead 1 (.istore_n 1) 1 2 := ⟨by decide +kernel, rfl⟩
theorem dX3_findAhead_2 : ml_d cX3_findAhead 2 (.iload_n 1) 1 3 := ⟨by decide +kernel, rfl⟩
theorem dX3_findAhead_3 : ml_d cX3_findAhead 3 (.aload_n 0) 1 4 := ⟨by decide +kernel, rfl⟩
theorem dX3_findAhead_4 : ml_d cX3_findAhead 4 (.getfield 44) 3 7 := ⟨by decide +kernel, rfl⟩
theorem dX3_findAhead_7 : ml_j cX3_findAhead 7 (.if_icmp .ge) 78 10 := ⟨71, by decide +kernel, by decide, rfl⟩
theorem dX3_findAhead_10 : ml_d cX3_findAhead 10 (.aload_n 0) 1 11 := ⟨by decide +kernel, rfl⟩
theorem dX3_findAhead_11 : ml_d cX3_findAhead 11 (.getfield 17) 3 14 := ⟨by decide +kernel, rfl⟩
theorem dX3_findAhead_14 : ml_d cX3_findAhead 14 (.iload_n 1) 1 15 := ⟨by decide +kernel, rfl⟩
theorem dX3_findAhead_15 : ml_d cX3_findAhead 15 (.iconst 0) 1 16 := ⟨by decide +kernel, rfl⟩
theorem dX3_findAhead_16 : ml_d cX3_findAhead 16 (.iastore) 1 17 := ⟨by decide +kernel, rfl⟩
theorem dX3_findAhead_17 : ml_d cX3_findAhead 17 (.iconst 0) 1 18 := ⟨by decide +kernel, rfl⟩
theorem dX3_findAhead_18 : ml_d cX3_findAhead 18 (.istore_n 2) 1 19 := ⟨by decide +kernel, rfl⟩
theorem dX3_findAhead_19 : ml_d cX3_findAhead 19 (.iload_n 2) 1 20 := ⟨by decide +kernel, rfl⟩
theorem dX3_findAhead_20 : ml_d cX3_findAhead 20 (.aload_n 0) 1 21 := ⟨by decide +kernel, rfl⟩
theorem dX3_findAhead_21 : ml_d cX3_findAhead 21 (.getfield 44) 3 24 := ⟨by decide +kernel, rfl⟩
theorem dX3_findAhead_24 : ml_j cX3_findAhead 24 (.if_icmp .ge) 72 27 := ⟨48, by decide +kernel, by decide, rfl⟩
theorem dX3_findAhead_27 : ml_d cX3_findAhead 27 (.aload_n 0) 1 28 := ⟨by decide +kernel, rfl⟩
theorem dX3_findAhead_28 : ml_d cX3_findAhead 28 (.getfield 11) 3 31 := ⟨by decide +kernel, rfl⟩
theorem dX3_findAhead_31 : ml_d cX3_findAhead 31 (.iload_n 2) 1 32 := ⟨by decide +kernel, rfl⟩
theorem dX3_findAhead_32 : ml_d cX3_findAhead 32 (.aaload) 1 33 := ⟨by decide +kernel, rfl⟩
theorem dX3_findAhead_33 : ml_d cX3_findAhead 33 (.getfield 62) 3 36 := ⟨by decide +kernel, rfl⟩
theorem dX3_findAhead_36 : ml_d cX3_findAhead 36 (.bipush 10) 2 38 := ⟨by decide +kernel, rfl⟩
theorem dX3_findAhead_38 : ml_d cX3_findAhead 38 (.irem) 1 39 := ⟨by decide +kernel, rfl⟩
theorem dX3_findAhead_39 : ml_d cX3_findAhead 39 (.aload_n 0) 1 40 := ⟨by decide +kernel, rfl⟩
theorem dX3_findAhead_40 : ml_d cX3_findAhead 40 (.getfield 11) 3 43 := ⟨by decide +kernel, rfl⟩
theorem dX3_findAhead_43 : ml_d cX3_findAhead 43 (.iload_n 1) 1 44 := ⟨by decide +kernel, rfl⟩
theorem dX3_findAhead_44 : ml_d cX3_findAhead 44 (.aaload) 1 45 := ⟨by decide +kernel, rfl⟩
theorem dX3_findAhead_45 : ml_d cX3_findAhead 45 (.getfield 62) 3 48 := ⟨by decide +kernel, rfl⟩
theorem dX3_findAhead_48 : ml_d cX3_findAhead 48 (.bipush 10) 2 50 := ⟨by decide +kernel, rfl⟩
theorem dX3_findAhead_50 : ml_d cX3_findAhead 50 (.idiv) 1 51 := ⟨by decide +kernel, rfl⟩
theorem dX3_findAhead_51 : ml_j cX3_findAhead 51 (.if_icmp .ne) 66 54 := ⟨15, by decide +kernel, by decide, rfl⟩
theorem dX3_findAhead_54 : ml_d cX3_findAhead 54 (.aload_n 0) 1 55 := ⟨by decide +kernel, rfl⟩
theorem dX3_findAhead_55 : ml_d cX3_findAhead 55 (.getfield 17) 3 58 := ⟨by decide +kernel, rfl⟩
theorem dX3_findAhead_58 : ml_d cX3_findAhead 58 (.iload_n 1) 1 59 := ⟨by decide +kernel, rfl⟩
theorem dX3_findAhead_59 : ml_d cX3_findAhead 59 (.dup2) 1 60 := ⟨by decide +kernel, rfl⟩
theorem dX3_findAhead_60 : ml_d cX3_findAhead 60 (.iaload) 1 61 := ⟨by decide +kernel, rfl⟩
theorem dX3_findAhead_61 : ml_d cX3_findAhead 61 (.iconst 1) 1 62 := ⟨by decide +kernel, rfl⟩
theorem dX3_findAhead_62 : ml_d cX3_findAhead 62 (.iload_n 2) 1 63 := ⟨by decide +kernel, rfl⟩
theorem dX3_findAhead_63 : ml_d cX3_findAhead 63 (.ishl) 1 64 := ⟨by decide +kernel, rfl⟩
theorem dX3_findAhead_64 : ml_d cX3_findAhead 64 (.ior) 1 65 := ⟨by decide +kernel, rfl⟩
theorem dX3_findAhead_65 : ml_d cX3_findAhead 65 (.iastore) 1 66 := ⟨by decide +kernel, rfl⟩
theorem dX3_findAhead_66 : ml_d cX3_findAhead 66 (.iinc 2 1) 3 69 := ⟨by decide +kernel, rfl⟩
theorem dX3_findAhead_69 : ml_j cX3_findAhead 69 .goto 19 72 := ⟨(-50), by decide +kernel, by decide, rfl⟩
theorem dX3_findAhead_72 : ml_d cX3_findAhead 72 (.iinc 1 1) 3 75 := ⟨by decide +kernel, rfl⟩
theorem dX3_findAhead_75 : ml_j cX3_findAhead 75 .goto 2 78 := ⟨(-73), by decide +kernel, by decide, rfl⟩
theorem dX3_findAhead_78 : ml_d cX3_findAhead 78 (.return_) 1 79 := ⟨by decide +kernel, rfl⟩
def fX3_findAhead_66 (k2 : Nat → Int32 → ml_M → Option ml_M) (k19 : Nat → Int32 → Int32 → ml_M → Option ml_M) (l0 : Nat) (l1 : Int32) (l2 : Int32) (m : ml_M) : Option ml_M :=
    k19 l0 l1 (l2 + (1 : Int32)) m
theorem vX3_findAhead_66 {E : ml_E} (hL : ml_eL E = 3) {rm : ml_M} (hr : ∀ (pc pc' : Nat) (lv : List (Nat × ml_X)), ml_d cX3_findAhead pc .return_ 1 pc' → True → ml_V E "LostRoom$Journeys" cX3_findAhead 2 false rm pc lv []) {k2 : Nat → Int32 → ml_M → Option ml_M} (hk2 : ∀ (l0 : Nat) (l1 : Int32) (m : ml_M), k2 l0 l1 m = some rm → ml_V E "LostRoom$Journeys" cX3_findAhead 2 false m 2 [(0, ml_r l0), (1, ml_i l1)] []) {k19 : Nat → Int32 → Int32 → ml_M → Option ml_M} (hk19 : ∀ (l0 : Nat) (l1 : Int32) (l2 : Int32) (m : ml_M), k19 l0 l1 l2 m = some rm → ml_V E "LostRoom$Journeys" cX3_findAhead 2 false m 19 [(0, ml_r l0), (1, ml_i l1), (2, ml_i l2)] []) : ∀ (l0 : Nat) (l1 : Int32) (l2 : Int32) (m : ml_M), fX3_findAhead_66 k2 k19 l0 l1 l2 m = some rm → ml_V E "LostRoom$Journeys" cX3_findAhead 2 false m 66 [(0, ml_r l0), (1, ml_i l1), (2, ml_i l2)] [] := by
  intro l0 l1 l2 m h
  unfold fX3_findAhead_66 at h
  exact ml_iinc (lv' := [(2, ml_i (l2 + (1 : Int32))), (0, ml_r l0), (1, ml_i l1)]) dX3_findAhead_66 2 rfl (congrArg (l2 + ·) kc_i1) (ml_hn hL rfl) rfl <| ml_goto dX3_findAhead_69 <| ml_V.sub [1, 2, 0] rfl (hk19 _ _ _ _ h)
def fX3_findAhead_72 (k2 : Nat → Int32 → ml_M → Option ml_M) (l0 : Nat) (l1 : Int32) (m : ml_M) : Option ml_M :=
    k2 l0 (l1 + (1 : Int32)) m
theorem vX3_findAhead_72 {E : ml_E} (hL : ml_eL E = 3) {rm : ml_M} (hr : ∀ (pc pc' : Nat) (lv : List (Nat × ml_X)), ml_d cX3_findAhead pc .return_ 1 pc' → True → ml_V E "LostRoom$Journeys" cX3_findAhead 2 false rm pc lv []) {k2 : Nat → Int32 → ml_M → Option ml_M} (hk2 : ∀ (l0 : Nat) (l1 : Int32) (m : ml_M), k2 l0 l1 m = some rm → ml_V E "LostRoom$Journeys" cX3_findAhead 2 false m 2 [(0, ml_r l0), (1, ml_i l1)] []) : ∀ (l0 : Nat) (l1 : Int32) (m : ml_M), fX3_findAhead_72 k2 l0 l1 m = some rm → ml_V E "LostRoom$Journeys" cX3_findAhead 2 false m 72 [(0, ml_r l0), (1, ml_i l1)] [] := by
  intro l0 l1 m h
  unfold fX3_findAhead_72 at h
  exact ml_iinc (lv' := [(1, ml_i (l1 + (1 : Int32))), (0, ml_r l0)]) dX3_findAhead_72 1 rfl (congrArg (l1 + ·) kc_i1) (ml_hn hL rfl) rfl <| ml_goto dX3_findAhead_75 <| ml_V.sub [1, 0] rfl (hk2 _ _ _ h)
def fX3_findAhead_19 (k2 : Nat → Int32 → ml_M → Option ml_M) : Nat → Nat → Int32 → Int32 → ml_M → Option ml_M
  | 0, _, _, _, _ => none
  | fu + 1, l0, l1, l2, m =>
    if (ml_K m l0).1 = 3 then
    if (ml_I m l0 1) ≤ l2 then
    fX3_findAhead_72 k2 l0 l1 m
    else
    ml_let (ml_R m l0 0) fun a3372 =>
    if ml_in m a3372 29 l2 then
    ml_let (ml_R m a3372 l2.toNatClampNeg) fun a3374 =>
    if (ml_K m a3374).1 = 8 then
    ml_let (ml_R m l0 0) fun a3376 =>
    if ml_in m a3376 29 l1 then
    ml_let (ml_R m a3376 l1.toNatClampNeg) fun a3378 =>
    if (ml_K m a3378).1 = 8 then
    if ((ml_I m a3374 3) - (ml_I m a3374 3) / (10 : Int32) * (10 : Int32)) = ((ml_I m a3378 3) / (10 : Int32)) then
    ml_let (ml_R m l0 2) fun a3380 =>
    if ml_in m a3380 20 l1 then
    if ml_in m a3380 20 l1 then
    ml_let (ml_sI m a3380 l1.toNatClampNeg ((ml_I m a3380 l1.toNatClampNeg) ||| ((1 : Int32) <<< (l2 &&& 31)))) fun m3383 =>
    fX3_findAhead_66 k2 (fX3_findAhead_19 k2 fu) l0 l1 l2 m3383
    else none
    else none
    else
    fX3_findAhead_66 k2 (fX3_findAhead_19 k2 fu) l0 l1 l2 m
    else none
    else none
    else none
    else none
    else none
theorem vX3_findAhead_19 {E : ml_E} (hL : ml_eL E = 3) {rm : ml_M} (hr : ∀ (pc pc' : Nat) (lv : List (Nat × ml_X)), ml_d cX3_findAhead pc .return_ 1 pc' → True → ml_V E "LostRoom$Journeys" cX3_findAhead 2 false rm pc lv []) {k2 : Nat → Int32 → ml_M → Option ml_M} (hk2 : ∀ (l0 : Nat) (l1 : Int32) (m : ml_M), k2 l0 l1 m = some rm → ml_V E "LostRoom$Journeys" cX3_findAhead 2 false m 2 [(0, ml_r l0), (1, ml_i l1)] []) : ∀ (fu : Nat) (l0 : Nat) (l1 : Int32) (l2 : Int32) (m : ml_M), fX3_findAhead_19 k2 fu l0 l1 l2 m = some rm → ml_V E "LostRoom$Journeys" cX3_findAhead 2 false m 19 [(0, ml_r l0), (1, ml_i l1), (2, ml_i l2)] [] := by
  intro fu
  induction fu with
  | zero => intro l0 l1 l2 m h; exact ml_none h
  | succ fu ih =>
    intro l0 l1 l2 m h
    have hk19 := ih
    unfold fX3_findAhead_19 at h
    exact ml_iload_n dX3_findAhead_19 2 rfl <| ml_aload_n dX3_findAhead_20 0 rfl <| ml_ck_of h fun hc3371 h => ml_getI dX3_findAhead_21 wb_441 hc3371 <| ml_icmp_ge dX3_findAhead_24 h (fun _ h => ml_V.sub [0, 1] rfl (vX3_findAhead_72 hL hr hk2 _ _ _ h)) (fun _ h => ml_aload_n dX3_findAhead_27 0 rfl <| ml_getR dX3_findAhead_28 wb_440 hc3371 <| ml_lx (mk := ml_r) h fun a3372 h => ml_iload_n dX3_findAhead_31 2 rfl <| ml_ck_of h fun hi3373 h => ml_aald (kd := 29) dX3_findAhead_32 (by decide) hi3373 <| ml_lx (mk := ml_r) h fun a3374 h => ml_ck_of h fun hc3375 h => ml_getI dX3_findAhead_33 wb_442 hc3375 <| ml_bipush dX3_findAhead_36 kc_b10 <| ml_irem dX3_findAhead_38 (by decide) <| ml_aload_n dX3_findAhead_39 0 rfl <| ml_getR dX3_findAhead_40 wb_440 hc3371 <| ml_lx (mk := ml_r) h fun a3376 h => ml_iload_n dX3_findAhead_43 1 rfl <| ml_ck_of h fun hi3377 h => ml_aald (kd := 29) dX3_findAhead_44 (by decide) hi3377 <| ml_lx (mk := ml_r) h fun a3378 h => ml_ck_of h fun hc3379 h => ml_getI dX3_findAhead_45 wb_442 hc3379 <| ml_bipush dX3_findAhead_48 kc_b10 <| ml_idiv dX3_findAhead_50 (by decide) <| ml_icmp_ne dX3_findAhead_51 h (fun _ h => ml_V.sub [0, 1, 2] rfl (vX3_findAhead_66 hL hr hk2 hk19 _ _ _ _ h)) (fun _ h => ml_aload_n dX3_findAhead_54 0 rfl <| ml_getR dX3_findAhead_55 wb_443 hc3371 <| ml_lx (mk := ml_r) h fun a3380 h => ml_iload_n dX3_findAhead_58 1 rfl <| ml_dup2 dX3_findAhead_59 rfl rfl <| ml_ck_of h fun hi3381 h => ml_iald dX3_findAhead_60 hi3381 <| ml_iconst dX3_findAhead_61 kc_i1 <| ml_iload_n dX3_findAhead_62 2 rfl <| ml_ishl dX3_findAhead_63 <| ml_ior dX3_findAhead_64 <| ml_ck_of h fun hi3382 h => ml_iast dX3_findAhead_65 hi3382 <| ml_lt (m := m) rfl h fun m3383 em3384 h => ml_V.sub [0, 1, 2] rfl (vX3_findAhead_66 hL hr hk2 hk19 _ _ _ _ h)))
def fX3_findAhead_2 : Nat → Nat → Int32 → ml_M → Option ml_M
  | 0, _, _, _ => none
  | fu + 1, l0, l1, m =>
    if (ml_K m l0).1 = 3 then
    if (ml_I m l0 1) ≤ l1 then
    some m
    else
    ml_let (ml_R m l0 2) fun a3386 =>
    if ml_in m a3386 20 l1 then
    ml_let (ml_sI m a3386 l1.toNatClampNeg (0 : Int32)) fun m3388 =>
    fX3_findAhead_19 (fX3_findAhead_2 fu) ml_fu l0 l1 (0 : Int32) m3388
    else none
    else none
theorem vX3_findAhead_2 {E : ml_E} (hL : ml_eL E = 3) {rm : ml_M} (hr : ∀ (pc pc' : Nat) (lv : List (Nat × ml_X)), ml_d cX3_findAhead pc .return_ 1 pc' → True → ml_V E "LostRoom$Journeys" cX3_findAhead 2 false rm pc lv []) : ∀ (fu : Nat) (l0 : Nat) (l1 : Int32) (m : ml_M), fX3_findAhead_2 fu l0 l1 m = some rm → ml_V E "LostRoom$Journeys" cX3_findAhead 2 false m 2 [(0, ml_r l0), (1, ml_i l1)] [] := by
  intro fu
  induction fu with
  | zero => intro l0 l1 m h; exact ml_none h
  | succ fu ih =>
    intro l0 l1 m h
    have hk2 := ih
    unfold fX3_findAhead_2 at h
    exact ml_iload_n dX3_findAhead_2 1 rfl <| ml_aload_n dX3_findAhead_3 0 rfl <| ml_ck_of h fun hc3385 h => ml_getI dX3_findAhead_4 wb_441 hc3385 <| ml_icmp_ge dX3_findAhead_7 h (fun _ h => ml_rv hr dX3_findAhead_78 trivial h) (fun _ h => ml_aload_n dX3_findAhead_10 0 rfl <| ml_getR dX3_findAhead_11 wb_443 hc3385 <| ml_lx (mk := ml_r) h fun a3386 h => ml_iload_n dX3_findAhead_14 1 rfl <| ml_iconst dX3_findAhead_15 kc_i0 <| ml_ck_of h fun hi3387 h => ml_iast dX3_findAhead_16 hi3387 <| ml_lt (m := m) rfl h fun m3388 em3389 h => ml_iconst dX3_findAhead_17 kc_i0 <| ml_istore_n (lv' := [(2, ml_i (0 : Int32)), (0, ml_r l0), (1, ml_i l1)]) dX3_findAhead_18 (ml_hn hL rfl) rfl <| ml_V.sub [1, 2, 0] rfl (vX3_findAhead_19 hL hr hk2 ml_fu _ _ _ _ h))
def fX3_findAhead (l0 : Nat) (m : ml_M) : Option ml_M :=
    fX3_findAhead_2 ml_fu l0 (0 : Int32) m
theorem wX3_findAhead_0 {E : ml_E} (hL : ml_eL E = 3) {rm : ml_M} (hr : ∀ (pc pc' : Nat) (lv : List (Nat × ml_X)), ml_d cX3_findAhead pc .return_ 1 pc' → True → ml_V E "LostRoom$Journeys" cX3_findAhead 2 false rm pc lv []) : ∀ (l0 : Nat) (m : ml_M), fX3_findAhead l0 m = some rm → ml_V E "LostRoom$Journeys" cX3_findAhead 2 false m 0 [(0, ml_r l0)] [] := by
  intro l0 m h
  unfold fX3_findAhead at h
  exact ml_iconst dX3_findAhead_0 kc_i0 <| ml_istore_n (lv' := [(1, ml_i (0 : Int32)), (0, ml_r l0)]) dX3_findAhead_1 (ml_hn hL rfl) rfl <| ml_V.sub [1, 0] rfl (vX3_findAhead_2 hL hr  ml_fu _ _ _ h)
theorem sX3_findAhead {l0 : Nat} {m : ml_M} {rm : ml_M} (h : fX3_findAhead l0 m = some rm) : ml_Sn yX3_findAhead cX3_findAhead 3 none 2 [ml_r l0] m none rm :=
  ml_Sn_of (P := True) (ini := false) (by decide +kernel) (Nat.le_of_ble_eq_true rfl) (fun h => by cases h) (fun _ => ml_RkV) fun E hL hr => wX3_findAhead_0 hL hr _ _ h
theorem dX3_canEnd_0 : ml_d cX3_canEnd 0 (.iload_n 1) 1 1 := ⟨by decide +kernel, rfl⟩
theorem dX3_canEnd_1 : ml_j cX3_canEnd 1 (.ifCond .ne) 6 4 := ⟨5, by decide +kernel, by decide, rfl⟩
theorem dX3_canEnd_4 : ml_d cX3_canEnd 4 (.iconst 1) 1 5 := ⟨by decide +kernel, rfl⟩
theorem dX3_canEnd_5 : ml_d cX3_canEnd 5 (.ireturn) 1 6 := ⟨by decide +kernel, rfl⟩
theorem dX3_canEnd_6 : ml_d cX3_canEnd 6 (.aload_n 0) 1 7 := ⟨by decide +kernel, rfl⟩
theorem dX3_canEnd_7 : ml_d cX3_canEnd 7 (.getfield 24) 3 10 := ⟨by decide +kernel, rfl⟩
theorem dX3_canEnd_10 : ml_d cX3_canEnd 10 (.iload_n 1) 1 11 := ⟨by decide +kernel, rfl⟩
theorem dX3_canEnd_11 : ml_d cX3_canEnd 11 (.iaload) 1 12 := ⟨by decide +kernel, rfl⟩
theorem dX3_canEnd_12 : ml_d cX3_canEnd 12 (.aload_n 0) 1 13 := ⟨by decide +kernel, rfl⟩
theorem dX3_canEnd_13 : ml_d cX3_canEnd 13 (.getfield 11) 3 16 := ⟨by decide +kernel, rfl⟩
theorem dX3_canEnd_16 : ml_d cX3_canEnd 16 (.iload_n 2) 1 17 := ⟨by decide +kernel, rfl⟩
theorem dX3_canEnd_17 : ml_d cX3_canEnd 17 (.aaload) 1 18 := ⟨by decide +kernel, rfl⟩
theorem dX3_canEnd_18 : ml_d cX3_canEnd 18 (.getfield 65) 3 21 := ⟨by decide +kernel, rfl⟩
theorem dX3_canEnd_21 : ml_j cX3_canEnd 21 (.if_icmp .gt) 44 24 := ⟨23, by decide +kernel, by decide, rfl⟩
theorem dX3_canEnd_24 : ml_d cX3_canEnd 24 (.aload_n 0) 1 25 := ⟨by decide +kernel, rfl⟩
theorem dX3_canEnd_25 : ml_d cX3_canEnd 25 (.getfield 21) 3 28 := ⟨by decide +kernel, rfl⟩
theorem dX3_canEnd_28 : ml_d cX3_canEnd 28 (.iload_n 1) 1 29 := ⟨by decide +kernel, rfl⟩
theorem dX3_canEnd_29 : ml_d cX3_canEnd 29 (.iaload) 1 30 := ⟨by decide +kernel, rfl⟩
theorem dX3_canEnd_30 : ml_d cX3_canEnd 30 (.aload_n 0) 1 31 := ⟨by decide +kernel, rfl⟩
theorem dX3_canEnd_31 : ml_d cX3_canEnd 31 (.getfield 17) 3 34 := ⟨by decide +kernel, rfl⟩
theorem dX3_canEnd_34 : ml_d cX3_canEnd 34 (.iload_n 2) 1 35 := ⟨by decide +kernel, rfl⟩
theorem dX3_canEnd_35 : ml_d cX3_canEnd 35 (.iaload) 1 36 := ⟨by decide +kernel, rfl⟩
theorem dX3_canEnd_36 : ml_d cX3_canEnd 36 (.iand) 1 37 := ⟨by decide +kernel, rfl⟩
theorem dX3_canEnd_37 : ml_j cX3_canEnd 37 (.ifCond .eq) 44 40 := ⟨7, by decide +kernel, by decide, rfl⟩
theorem dX3_canEnd_40 : ml_d cX3_canEnd 40 (.iconst 1) 1 41 := ⟨by decide +kernel, rfl⟩
theorem dX3_canEnd_41 : ml_j cX3_canEnd 41 .goto 45 44 := ⟨4, by decide +kernel, by decide, rfl⟩
theorem dX3_canEnd_44 : ml_d cX3_canEnd 44 (.iconst 0) 1 45 := ⟨by decide +kernel, rfl⟩
theorem dX3_canEnd_45 : ml_d cX3_canEnd 45 (.ireturn) 1 46 := ⟨by decide +kernel, rfl⟩
def fX3_canEnd (l0 : Nat) (l1 : Int32) (l2 : Int32) (m : ml_M) : Option Int32 :=
    if l1 = 0 then
    some (1 : Int32)
    else
    if (ml_K m l0).1 = 3 then
    ml_let (ml_R m l0 4) fun a3391 =>
    if ml_in m a3391 20 l1 then
    ml_let (ml_R m l0 0) fun a3393 =>
    if ml_in m a3393 29 l2 then
    ml_let (ml_R m a3393 l2.toNatClampNeg) fun a3395 =>
    if (ml_K m a3395).1 = 8 then
    if (ml_I m a3395 2) < (ml_I m a3391 l1.toNatClampNeg) then
    some (0 : Int32)
    else
    ml_let (ml_R m l0 3) fun a3397 =>
    if ml_in m a3397 20 l1 then
    ml_let (ml_R m l0 2) fun a3399 =>
    if ml_in m a3399 20 l2 then
    if ((ml_I m a3397 l1.toNatClampNeg) &&& (ml_I m a3399 l2.toNatClampNeg)) = 0 then
    some (0 : Int32)
    else
    some (1 : Int32)
    else none
    else none
    else none
    else none
    else none
    else none
theorem wX3_canEnd_0 {E : ml_E} (hL : ml_eL E = 3) {rv : Int32} {m : ml_M} (hr : ∀ (pc pc' : Nat) (lv : List (Nat × ml_X)), ml_d cX3_canEnd pc .ireturn 1 pc' → (rv = 0 ∨ rv = 1) → ml_V E "LostRoom$Journeys" cX3_canEnd 2 false m pc lv [ml_i rv]) : ∀ (l0 : Nat) (l1 : Int32) (l2 : Int32), fX3_canEnd l0 l1 l2 m = some rv → ml_V E "LostRoom$Journeys" cX3_canEnd 2 false m 0 [(0, ml_r l0), (1, ml_i l1), (2, ml_i l2)] [] := by
  intro l0 l1 l2 h
  unfold fX3_canEnd at h
  exact ml_iload_n dX3_canEnd_0 1 rfl <| ml_if_ne dX3_canEnd_1 h (fun _ h => ml_aload_n dX3_canEnd_6 0 rfl <| ml_ck_of h fun hc3390 h => ml_getR dX3_canEnd_7 wb_444 hc3390 <| ml_lx (mk := ml_r) h fun a3391 h => ml_iload_n dX3_canEnd_10 1 rfl <| ml_ck_of h fun hi3392 h => ml_iald dX3_canEnd_11 hi3392 <| ml_aload_n dX3_canEnd_12 0 rfl <| ml_getR dX3_canEnd_13 wb_440 hc3390 <| ml_lx (mk := ml_r) h fun a3393 h => ml_iload_n dX3_canEnd_16 2 rfl <| ml_ck_of h fun hi3394 h => ml_aald (kd := 29) dX3_canEnd_17 (by decide) hi3394 <| ml_lx (mk := ml_r) h fun a3395 h => ml_ck_of h fun hc3396 h => ml_getI dX3_canEnd_18 wb_445 hc3396 <| ml_icmp_gt dX3_canEnd_21 h (fun _ h => ml_iconst dX3_canEnd_44 kc_i0 <| ml_rp (mk := ml_i) hr dX3_canEnd_45 (fun e => Or.inl e.symm) h) (fun _ h => ml_aload_n dX3_canEnd_24 0 rfl <| ml_getR dX3_canEnd_25 wb_446 hc3390 <| ml_lx (mk := ml_r) h fun a3397 h => ml_iload_n dX3_canEnd_28 1 rfl <| ml_ck_of h fun hi3398 h => ml_iald dX3_canEnd_29 hi3398 <| ml_aload_n dX3_canEnd_30 0 rfl <| ml_getR dX3_canEnd_31 wb_443 hc3390 <| ml_lx (mk := ml_r) h fun a3399 h => ml_iload_n dX3_canEnd_34 2 rfl <| ml_ck_of h fun hi3400 h => ml_iald dX3_canEnd_35 hi3400 <| ml_iand dX3_canEnd_36 <| ml_if_eq dX3_canEnd_37 h (fun _ h => ml_iconst dX3_canEnd_44 kc_i0 <| ml_rp (mk := ml_i) hr dX3_canEnd_45 (fun e => Or.inl e.symm) h) (fun _ h => ml_iconst dX3_canEnd_40 kc_i1 <| ml_goto dX3_canEnd_41 <| ml_rp (mk := ml_i) hr dX3_canEnd_45 (fun e => Or.inr e.symm) h))) (fun _ h => ml_iconst dX3_canEnd_4 kc_i1 <| ml_rp (mk := ml_i) hr dX3_canEnd_5 (fun e => Or.inr e.symm) h)
theorem sX3_canEnd {l0 : Nat} {l1 : Int32} {l2 : Int32} {m : ml_M} {rv : Int32} (h : fX3_canEnd l0 l1 l2 m = some rv) : ml_Sn yX3_canEnd cX3_canEnd 3 (some .boolean) 2 [ml_r l0, ml_i l1, ml_i l2] m (some (ml_i rv)) m :=
  ml_Sn_of (P := (rv = 0 ∨ rv = 1)) (ini := false) (by decide +kernel) (Nat.le_of_ble_eq_true rfl) (fun h => by cases h) (fun hz => ml_RkZ rv hz) fun E hL hr => wX3_canEnd_0 hL hr _ _ _ h
theorem dX3_findLasts_0 : ml_d cX3_findLasts 0 (.aload_n 0) 1 1 := ⟨by decide +kernel, rfl⟩
theorem dX3_findLasts_1 : ml_d cX3_findLasts 1 (.invokevirtual 50) 3 4 := ⟨by decide +kernel, rfl⟩
theorem dX3_findLasts_4 : ml_d cX3_findLasts 4 (.iconst 1) 1 5 := ⟨by decide +kernel, rfl⟩
theorem dX3_findLasts_5 : ml_d cX3_findLasts 5 (.istore_n 1) 1 6 := ⟨by decide +kernel, rfl⟩
theorem dX3_findLasts_6 : ml_d cX3_findLasts 6 (.iload_n 1) 1 7 := ⟨by decide +kernel, rfl⟩
theorem dX3_findLasts_7 : ml_d cX3_findLasts 7 (.iconst 1) 1 8 := ⟨by decide +kernel, rfl⟩
theorem dX3_findLasts_8 : ml_d cX3_findLasts 8 (.aload_n 0) 1 9 := ⟨by decide +kernel, rfl⟩
theorem dX3_findLasts_9 : ml_d cX3_findLasts 9 (.getfield 44) 3 12 := ⟨by decide +kernel, rfl⟩
theorem dX3_findLasts_12 : ml_d cX3_findLasts 12 (.ishl) 1 13 := ⟨by decide +kernel, rfl⟩
theorem dX3_findLasts_13 : ml_j cX3_findLasts 13 (.if_icmp .ge) 114 16 := ⟨101, by decide +kernel, by decide, rfl⟩
theorem dX3_findLasts_16 : ml_d cX3_findLasts 16 (.aload_n 0) 1 17 := ⟨by decide +kernel, rfl⟩
theorem dX3_findLasts_17 : ml_d cX3_findLasts 17 (.getfield 21) 3 20 := ⟨by decide +kernel, rfl⟩
theorem dX3_findLasts_20 : ml_d cX3_findLasts 20 (.iload_n 1) 1 21 := ⟨by decide +kernel, rfl⟩
theorem dX3_findLasts_21 : ml_d cX3_findLasts 21 (.iconst 0) 1 22 := ⟨by decide +kernel, rfl⟩
theorem dX3_findLasts_22 : ml_d cX3_findLasts 22 (.iastore) 1 23 := ⟨by decide +kernel, rfl⟩
theorem dX3_findLasts_23 : ml_d cX3_findLasts 23 (.aload_n 0) 1 24 := ⟨by decide +kernel, rfl⟩
theorem dX3_findLasts_24 : ml_d cX3_findLasts 24 (.getfield 24) 3 27 := ⟨by decide +kernel, rfl⟩
theorem dX3_findLasts_27 : ml_d cX3_findLasts 27 (.iload_n 1) 1 28 := ⟨by decide +kernel, rfl⟩
theorem dX3_findLasts_28 : ml_d cX3_findLasts 28 (.iconst 0) 1 29 := ⟨by decide +kernel, rfl⟩
theorem dX3_findLasts_29 : ml_d cX3_findLasts 29 (.iastore) 1 30 := ⟨by decide +kernel, rfl⟩
theorem dX3_findLasts_30 : ml_d cX3_findLasts 30 (.iconst 0) 1 31 := ⟨by decide +kernel, rfl⟩
theorem dX3_findLasts_31 : ml_d cX3_findLasts 31 (.istore_n 2) 1 32 := ⟨by decide +kernel, rfl⟩
theorem dX3_findLasts_32 : ml_d cX3_findLasts 32 (.iload_n 2) 1 33 := ⟨by decide +kernel, rfl⟩
theorem dX3_findLasts_33 : ml_d cX3_findLasts 33 (.aload_n 0) 1 34 := ⟨by decide +kernel, rfl⟩
theorem dX3_findLasts_34 : ml_d cX3_findLasts 34 (.getfield 44) 3 37 := ⟨by decide +kernel, rfl⟩
theorem dX3_findLasts_37 : ml_j cX3_findLasts 37 (.if_icmp .ge) 108 40 := ⟨71, by decide +kernel, by decide, rfl⟩
theorem dX3_findLasts_40 : ml_d cX3_findLasts 40 (.iload_n 1) 1 41 := ⟨by decide +kernel, rfl⟩
theorem dX3_findLasts_41 : ml_d cX3_findLasts 41 (.iload_n 2) 1 42 := ⟨by decide +kernel, rfl⟩
theorem dX3_findLasts_42 : ml_d cX3_findLasts 42 (.invokestatic 30) 3 45 := ⟨by decide +kernel, rfl⟩
theorem dX3_findLasts_45 : ml_j cX3_findLasts 45 (.ifCond .ne) 51 48 := ⟨6, by decide +kernel, by decide, rfl⟩
theorem dX3_findLasts_48 : ml_j cX3_findLasts 48 .goto 102 51 := ⟨54, by decide +kernel, by decide, rfl⟩
theorem dX3_findLasts_51 : ml_d cX3_findLasts 51 (.aload_n 0) 1 52 := ⟨by decide +kernel, rfl⟩
theorem dX3_findLasts_52 : ml_d cX3_findLasts 52 (.getfield 24) 3 55 := ⟨by decide +kernel, rfl⟩
theorem dX3_findLasts_55 : ml_d cX3_findLasts 55 (.iload_n 1) 1 56 := ⟨by decide +kernel, rfl⟩
theorem dX3_findLasts_56 : ml_d cX3_findLasts 56 (.aload_n 0) 1 57 := ⟨by decide +kernel, rfl⟩
theorem dX3_findLasts_57 : ml_d cX3_findLasts 57 (.getfield 24) 3 60 := ⟨by decide +kernel, rfl⟩
theorem dX3_findLasts_60 : ml_d cX3_findLasts 60 (.iload_n 1) 1 61 := ⟨by decide +kernel, rfl⟩
theorem dX3_findLasts_61 : ml_d cX3_findLasts 61 (.iaload) 1 62 := ⟨by decide +kernel, rfl⟩
theorem dX3_findLasts_62 : ml_d cX3_findLasts 62 (.aload_n 0) 1 63 := ⟨by decide +kernel, rfl⟩
theorem dX3_findLasts_63 : ml_d cX3_findLasts 63 (.getfield 11) 3 66 := ⟨by decide +kernel, rfl⟩
theorem dX3_findLasts_66 : ml_d cX3_findLasts 66 (.iload_n 2) 1 67 := ⟨by decide +kernel, rfl⟩
theorem dX3_findLasts_67 : ml_d cX3_findLasts 67 (.aaload) 1 68 := ⟨by decide +kernel, rfl⟩
theorem dX3_findLasts_68 : ml_d cX3_findLasts 68 (.getfield 53) 3 71 := ⟨by decide +kernel, rfl⟩
theorem dX3_findLasts_71 : ml_d cX3_findLasts 71 (.invokestatic 56) 3 74 := ⟨by decide +kernel, rfl⟩
theorem dX3_findLasts_74 : ml_d cX3_findLasts 74 (.iastore) 1 75 := ⟨by decide +kernel, rfl⟩
theorem dX3_findLasts_75 : ml_d cX3_findLasts 75 (.aload_n 0) 1 76 := ⟨by decide +kernel, rfl⟩
theorem dX3_findLasts_76 : ml_d cX3_findLasts 76 (.iload_n 1) 1 77 := ⟨by decide +kernel, rfl⟩
theorem dX3_findLasts_77 : ml_d cX3_findLasts 77 (.iconst 1) 1 78 := ⟨by decide +kernel, rfl⟩
theorem dX3_findLasts_78 : ml_d cX3_findLasts 78 (.iload_n 2) 1 79 := ⟨by decide +kernel, rfl⟩
theorem dX3_findLasts_79 : ml_d cX3_findLasts 79 (.ishl) 1 80 := ⟨by decide +kernel, rfl⟩
theorem dX3_findLasts_80 : ml_d cX3_findLasts 80 (.iconst (-1)) 1 81 := ⟨by decide +kernel, rfl⟩
theorem dX3_findLasts_81 : ml_d cX3_findLasts 81 (.ixor) 1 82 := ⟨by decide +kernel, rfl⟩
theorem dX3_findLasts_82 : ml_d cX3_findLasts 82 (.iand) 1 83 := ⟨by decide +kernel, rfl⟩
theorem dX3_findLasts_83 : ml_d cX3_findLasts 83 (.iload_n 2) 1 84 := ⟨by decide +kernel, rfl⟩
theorem dX3_findLasts_84 : ml_d cX3_findLasts 84 (.invokevirtual 59) 3 87 := ⟨by decide +kernel, rfl⟩
theorem dX3_findLasts_87 : ml_j cX3_findLasts 87 (.ifCond .eq) 102 90 := ⟨15, by decide +kernel, by decide, rfl⟩
theorem dX3_findLasts_90 : ml_d cX3_findLasts 90 (.aload_n 0) 1 91 := ⟨by decide +kernel, rfl⟩
theorem dX3_findLasts_91 : ml_d cX3_findLasts 91 (.getfield 21) 3 94 := ⟨by decide +kernel, rfl⟩
theorem dX3_findLasts_94 : ml_d cX3_findLasts 94 (.iload_n 1) 1 95 := ⟨by decide +kernel, rfl⟩
theorem dX3_findLasts_95 : ml_d cX3_findLasts 95 (.dup2) 1 96 := ⟨by decide +kernel, rfl⟩
theorem dX3_findLasts_96 : ml_d cX3_findLasts 96 (.iaload) 1 97 := ⟨by decide +kernel, rfl⟩
theorem dX3_findLasts_97 : ml_d cX3_findLasts 97 (.iconst 1) 1 98 := ⟨by decide +kernel, rfl⟩
theorem dX3_findLasts_98 : ml_d cX3_findLasts 98 (.iload_n 2) 1 99 := ⟨by decide +kernel, rfl⟩
theorem dX3_findLasts_99 : ml_d cX3_findLasts 99 (.ishl) 1 100 := ⟨by decide +kernel, rfl⟩
theorem dX3_findLasts_100 : ml_d cX3_findLasts 100 (.ior) 1 101 := ⟨by decide +kernel, rfl⟩
theorem dX3_findLasts_101 : ml_d cX3_findLasts 101 (.iastore) 1 102 := ⟨by decide +kernel, rfl⟩
theorem dX3_findLasts_102 : ml_d cX3_findLasts 102 (.iinc 2 1) 3 105 := ⟨by decide +kernel, rfl⟩
theorem dX3_findLasts_105 : ml_j cX3_findLasts 105 .goto 32 108 := ⟨(-73), by decide +kernel, by decide, rfl⟩
theorem dX3_findLasts_108 : ml_d cX3_findLasts 108 (.iinc 1 1) 3 111 := ⟨by decide +kernel, rfl⟩
theorem dX3_findLasts_111 : ml_j cX3_findLasts 111 .goto 6 114 := ⟨(-105), by decide +kernel, by decide, rfl⟩
theorem dX3_findLasts_114 : ml_d cX3_findLasts 114 (.return_) 1 115 := ⟨by decide +kernel, rfl⟩
def fX3_findLasts_102 (k6 : Nat → Int32 → ml_M → Option ml_M) (k32 : Nat → Int32 → Int32 → ml_M → Option ml_M) (l0 : Nat) (l1 : Int32) (l2 : Int32) (m : ml_M) : Option ml_M :=
    k32 l0 l1 (l2 + (1 : Int32)) m
theorem vX3_findLasts_102 {E : ml_E} (hL : ml_eL E = 3) {rm : ml_M} (hr : ∀ (pc pc' : Nat) (lv : List (Nat × ml_X)), ml_d cX3_findLasts pc .return_ 1 pc' → True → ml_V E "LostRoom$Journeys" cX3_findLasts 3 false rm pc lv []) {k6 : Nat → Int32 → ml_M → Option ml_M} (hk6 : ∀ (l0 : Nat) (l1 : Int32) (m : ml_M), k6 l0 l1 m = some rm → ml_V E "LostRoom$Journeys" cX3_findLasts 3 false m 6 [(0, ml_r l0), (1, ml_i l1)] []) {k32 : Nat → Int32 → Int32 → ml_M → Option ml_M} (hk32 : ∀ (l0 : Nat) (l1 : Int32) (l2 : Int32) (m : ml_M), k32 l0 l1 l2 m = some rm → ml_V E "LostRoom$Journeys" cX3_findLasts 3 false m 32 [(0, ml_r l0), (1, ml_i l1), (2, ml_i l2)] []) : ∀ (l0 : Nat) (l1 : Int32) (l2 : Int32) (m : ml_M), fX3_findLasts_102 k6 k32 l0 l1 l2 m = some rm → ml_V E "LostRoom$Journeys" cX3_findLasts 3 false m 102 [(0, ml_r l0), (1, ml_i l1), (2, ml_i l2)] [] := by
  intro l0 l1 l2 m h
  unfold fX3_findLasts_102 at h
  exact ml_iinc (lv' := [(2, ml_i (l2 + (1 : Int32))), (0, ml_r l0), (1, ml_i l1)]) dX3_findLasts_102 2 rfl (congrArg (l2 + ·) kc_i1) (ml_hn hL rfl) rfl <| ml_goto dX3_findLasts_105 <| ml_V.sub [1, 2, 0] rfl (hk32 _ _ _ _ h)
def fX3_findLasts_108 (k6 : Nat → Int32 → ml_M → Option ml_M) (l0 : Nat) (l1 : Int32) (m : ml_M) : Option ml_M :=
    k6 l0 (l1 + (1 : Int32)) m
theorem vX3_findLasts_108 {E : ml_E} (hL : ml_eL E = 3) {rm : ml_M} (hr : ∀ (pc pc' : Nat) (lv : List (Nat × ml_X)), ml_d cX3_findLasts pc .return_ 1 pc' → True → ml_V E "LostRoom$Journeys" cX3_findLasts 3 false rm pc lv []) {k6 : Nat → Int32 → ml_M → Option ml_M} (hk6 : ∀ (l0 : Nat) (l1 : Int32) (m : ml_M), k6 l0 l1 m = some rm → ml_V E "LostRoom$Journeys" cX3_findLasts 3 false m 6 [(0, ml_r l0), (1, ml_i l1)] []) : ∀ (l0 : Nat) (l1 : Int32) (m : ml_M), fX3_findLasts_108 k6 l0 l1 m = some rm → ml_V E "LostRoom$Journeys" cX3_findLasts 3 false m 108 [(0, ml_r l0), (1, ml_i l1)] [] := by
  intro l0 l1 m h
  unfold fX3_findLasts_108 at h
  exact ml_iinc (lv' := [(1, ml_i (l1 + (1 : Int32))), (0, ml_r l0)]) dX3_findLasts_108 1 rfl (congrArg (l1 + ·) kc_i1) (ml_hn hL rfl) rfl <| ml_goto dX3_findLasts_111 <| ml_V.sub [1, 0] rfl (hk6 _ _ _ h)
def fX3_findLasts_32 (k6 : Nat → Int32 → ml_M → Option ml_M) : Nat → Nat → Int32 → Int32 → ml_M → Option ml_M
  | 0, _, _, _, _ => none
  | fu + 1, l0, l1, l2, m =>
    if (ml_K m l0).1 = 3 then
    if (ml_I m l0 1) ≤ l2 then
    fX3_findLasts_108 k6 l0 l1 m
    else
    ml_b1 (fX10_has l1 l2 m) fun r3403 =>
    if r3403 = 0 then
    fX3_findLasts_102 k6 (fX3_findLasts_32 k6 fu) l0 l1 l2 m
    else
    ml_let (ml_R m l0 4) fun a3404 =>
    ml_let (ml_R m l0 4) fun a3405 =>
    if ml_in m a3405 20 l1 then
    ml_let (ml_R m l0 0) fun a3407 =>
    if ml_in m a3407 29 l2 then
    ml_let (ml_R m a3407 l2.toNatClampNeg) fun a3409 =>
    if (ml_K m a3409).1 = 8 then
    if ml_in m a3404 20 l1 then
    ml_let (ml_sI m a3404 l1.toNatClampNeg (if (ml_I m a3405 l1.toNatClampNeg) < (ml_I m a3409 1) then (ml_I m a3409 1) else (ml_I m a3405 l1.toNatClampNeg))) fun m3412 =>
    ml_b1 (fX3_canEnd l0 (l1 &&& (((1 : Int32) <<< (l2 &&& 31)) ^^^ (-1 : Int32))) l2 m3412) fun r3415 =>
    if r3415 = 0 then
    fX3_findLasts_102 k6 (fX3_findLasts_32 k6 fu) l0 l1 l2 m3412
    else
    ml_let (ml_R m3412 l0 3) fun a3416 =>
    if ml_in m3412 a3416 20 l1 then
    if ml_in m3412 a3416 20 l1 then
    ml_let (ml_sI m3412 a3416 l1.toNatClampNeg ((ml_I m3412 a3416 l1.toNatClampNeg) ||| ((1 : Int32) <<< (l2 &&& 31)))) fun m3419 =>
    fX3_findLasts_102 k6 (fX3_findLasts_32 k6 fu) l0 l1 l2 m3419
    else none
    else none
    else none
    else none
    else none
    else none
    else none
theorem vX3_findLasts_32 {E : ml_E} (hL : ml_eL E = 3) {rm : ml_M} (hr : ∀ (pc pc' : Nat) (lv : List (Nat × ml_X)), ml_d cX3_findLasts pc .return_ 1 pc' → True → ml_V E "LostRoom$Journeys" cX3_findLasts 3 false rm pc lv []) {k6 : Nat → Int32 → ml_M → Option ml_M} (hk6 : ∀ (l0 : Nat) (l1 : Int32) (m : ml_M), k6 l0 l1 m = some rm → ml_V E "LostRoom$Journeys" cX3_findLasts 3 false m 6 [(0, ml_r l0), (1, ml_i l1)] []) : ∀ (fu : Nat) (l0 : Nat) (l1 : Int32) (l2 : Int32) (m : ml_M), fX3_findLasts_32 k6 fu l0 l1 l2 m = some rm → ml_V E "LostRoom$Journeys" cX3_findLasts 3 false m 32 [(0, ml_r l0), (1, ml_i l1), (2, ml_i l2)] [] := by
  intro fu
  induction fu with
  | zero => intro l0 l1 l2 m h; exact ml_none h
  | succ fu ih =>
    intro l0 l1 l2 m h
    have hk32 := ih
    unfold fX3_findLasts_32 at h
    exact ml_iload_n dX3_findLasts_32 2 rfl <| ml_aload_n dX3_findLasts_33 0 rfl <| ml_ck_of h fun hc3401 h => ml_getI dX3_findLasts_34 wb_441 hc3401 <| ml_icmp_ge dX3_findLasts_37 h (fun _ h => ml_V.sub [0, 1] rfl (vX3_findLasts_108 hL hr hk6 _ _ _ h)) (fun _ h => ml_iload_n dX3_findLasts_40 1 rfl <| ml_iload_n dX3_findLasts_41 2 rfl <| ml_b1_of h fun r3403 hv3402 h => ml_callSN (host := "LostRoom") dX3_findLasts_42 (by decide) wb_299 (sX10_has hv3402) rfl (Nat.le_of_ble_eq_true rfl) (Nat.le_of_ble_eq_true rfl) rfl <| ml_if_ne dX3_findLasts_45 h (fun _ h => ml_aload_n dX3_findLasts_51 0 rfl <| ml_getR dX3_findLasts_52 wb_444 hc3401 <| ml_lx (mk := ml_r) h fun a3404 h => ml_iload_n dX3_findLasts_55 1 rfl <| ml_aload_n dX3_findLasts_56 0 rfl <| ml_getR dX3_findLasts_57 wb_444 hc3401 <| ml_lx (mk := ml_r) h fun a3405 h => ml_iload_n dX3_findLasts_60 1 rfl <| ml_ck_of h fun hi3406 h => ml_iald dX3_findLasts_61 hi3406 <| ml_aload_n dX3_findLasts_62 0 rfl <| ml_getR dX3_findLasts_63 wb_440 hc3401 <| ml_lx (mk := ml_r) h fun a3407 h => ml_iload_n dX3_findLasts_66 2 rfl <| ml_ck_of h fun hi3408 h => ml_aald (kd := 29) dX3_findLasts_67 (by decide) hi3408 <| ml_lx (mk := ml_r) h fun a3409 h => ml_ck_of h fun hc3410 h => ml_getI dX3_findLasts_68 wb_447 hc3410 <| ml_mmax dX3_findLasts_71 wb_448 (Nat.le_of_ble_eq_true rfl) (Nat.le_of_ble_eq_true rfl) <| ml_ck_of h fun hi3411 h => ml_iast dX3_findLasts_74 hi3411 <| ml_lt (m := m) rfl h fun m3412 em3413 h => ml_aload_n dX3_findLasts_75 0 rfl <| ml_iload_n dX3_findLasts_76 1 rfl <| ml_iconst dX3_findLasts_77 kc_i1 <| ml_iload_n dX3_findLasts_78 2 rfl <| ml_ishl dX3_findLasts_79 <| ml_iconst dX3_findLasts_80 kc_im1 <| ml_ixor dX3_findLasts_81 <| ml_iand dX3_findLasts_82 <| ml_iload_n dX3_findLasts_83 2 rfl <| ml_b1_of h fun r3415 hv3414 h => ml_callV dX3_findLasts_84 wm_738 wb_449 (ml_kk em3413 hc3401) (sX3_canEnd hv3414) rfl (Nat.le_of_ble_eq_true rfl) (Nat.le_of_ble_eq_true rfl) rfl <| ml_if_eq dX3_findLasts_87 h (fun _ h => ml_V.sub [0, 1, 2] rfl (vX3_findLasts_102 hL hr hk6 hk32 _ _ _ _ h)) (fun _ h => ml_aload_n dX3_findLasts_90 0 rfl <| ml_getR dX3_findLasts_91 wb_446 (ml_kk em3413 hc3401) <| ml_lx (mk := ml_r) h fun a3416 h => ml_iload_n dX3_findLasts_94 1 rfl <| ml_dup2 dX3_findLasts_95 rfl rfl <| ml_ck_of h fun hi3417 h => ml_iald dX3_findLasts_96 hi3417 <| ml_iconst dX3_findLasts_97 kc_i1 <| ml_iload_n dX3_findLasts_98 2 rfl <| ml_ishl dX3_findLasts_99 <| ml_ior dX3_findLasts_100 <| ml_ck_of h fun hi3418 h => ml_iast dX3_findLasts_101 hi3418 <| ml_lt (m := m3412) rfl h fun m3419 em3420 h => ml_V.sub [0, 1, 2] rfl (vX3_findLasts_102 hL hr hk6 hk32 _ _ _ _ h))) (fun _ h => ml_goto dX3_findLasts_48 <| ml_V.sub [0, 1, 2] rfl (vX3_findLasts_102 hL hr hk6 hk32 _ _ _ _ h)))
def fX3_findLasts_6 : Nat → Nat → Int32 → ml_M → Option ml_M
  | 0, _, _, _ => none
  | fu + 1, l0, l1, m =>
    if (ml_K m l0).1 = 3 then
    if ((1 : Int32) <<< ((ml_I m l0 1) &&& 31)) ≤ l1 then
    some m
    else
    ml_let (ml_R m l0 3) fun a3422 =>
    if ml_in m a3422 20 l1 then
    ml_let (ml_sI m a3422 l1.toNatClampNeg (0 : Int32)) fun m3424 =>
    ml_let (ml_R m3424 l0 4) fun a3426 =>
    if ml_in m3424 a3426 20 l1 then
    ml_let (ml_sI m3424 a3426 l1.toNatClampNeg (0 : Int32)) fun m3428 =>
    fX3_findLasts_32 (fX3_findLasts_6 fu) ml_fu l0 l1 (0 : Int32) m3428
    else none
    else none
    else none
theorem vX3_findLasts_6 {E : ml_E} (hL : ml_eL E = 3) {rm : ml_M} (hr : ∀ (pc pc' : Nat) (lv : List (Nat × ml_X)), ml_d cX3_findLasts pc .return_ 1 pc' → True → ml_V E "LostRoom$Journeys" cX3_findLasts 3 false rm pc lv []) : ∀ (fu : Nat) (l0 : Nat) (l1 : Int32) (m : ml_M), fX3_findLasts_6 fu l0 l1 m = some rm → ml_V E "LostRoom$Journeys" cX3_findLasts 3 false m 6 [(0, ml_r l0), (1, ml_i l1)] [] := by
  intro fu
  induction fu with
  | zero => intro l0 l1 m h; exact ml_none h
  | succ fu ih =>
    intro l0 l1 m h
    have hk6 := ih
    unfold fX3_findLasts_6 at h
    exact ml_iload_n dX3_findLasts_6 1 rfl <| ml_iconst dX3_findLasts_7 kc_i1 <| ml_aload_n dX3_findLasts_8 0 rfl <| ml_ck_of h fun hc3421 h => ml_getI dX3_findLasts_9 wb_441 hc3421 <| ml_ishl dX3_findLasts_12 <| ml_icmp_ge dX3_findLasts_13 h (fun _ h => ml_rv hr dX3_findLasts_114 trivial h) (fun _ h => ml_aload_n dX3_findLasts_16 0 rfl <| ml_getR dX3_findLasts_17 wb_446 hc3421 <| ml_lx (mk := ml_r) h fun a3422 h => ml_iload_n dX3_findLasts_20 1 rfl <| ml_iconst dX3_findLasts_21 kc_i0 <| ml_ck_of h fun hi3423 h => ml_iast dX3_findLasts_22 hi3423 <| ml_lt (m := m) rfl h fun m3424 em3425 h => ml_aload_n dX3_findLasts_23 0 rfl <| ml_getR dX3_findLasts_24 wb_444 (ml_kk em3425 hc3421) <| ml_lx (mk := ml_r) h fun a3426 h => ml_iload_n dX3_findLasts_27 1 rfl <| ml_iconst dX3_findLasts_28 kc_i0 <| ml_ck_of h fun hi3427 h => ml_iast dX3_findLasts_29 hi3427 <| ml_lt (m := m3424) rfl h fun m3428 em3429 h => ml_iconst dX3_findLasts_30 kc_i0 <| ml_istore_n (lv' := [(2, ml_i (0 : Int32)), (0, ml_r l0), (1, ml_i l1)]) dX3_findLasts_31 (ml_hn hL rfl) rfl <| ml_V.sub [1, 2, 0] rfl (vX3_findLasts_32 hL hr hk6 ml_fu _ _ _ _ h))
def fX3_findLasts (l0 : Nat) (m : ml_M) : Option ml_M :=
    if (ml_K m l0).1 = 3 then
    ml_b1 (fX3_findAhead l0 m) fun m3432 =>
    fX3_findLasts_6 ml_fu l0 (1 : Int32) m3432
    else none
theorem wX3_findLasts_0 {E : ml_E} (hL : ml_eL E = 3) {rm : ml_M} (hr : ∀ (pc pc' : Nat) (lv : List (Nat × ml_X)), ml_d cX3_findLasts pc .return_ 1 pc' → True → ml_V E "LostRoom$Journeys" cX3_findLasts 3 false rm pc lv []) : ∀ (l0 : Nat) (m : ml_M), fX3_findLasts l0 m = some rm → ml_V E "LostRoom$Journeys" cX3_findLasts 3 false m 0 [(0, ml_r l0)] [] := by
  intro l0 m h
  unfold fX3_findLasts at h
  exact ml_aload_n dX3_findLasts_0 0 rfl <| ml_ck_of h fun hc3431 h => ml_b1_of h fun m3432 hv3430 h => ml_callV dX3_findLasts_1 wm_742 wb_450 hc3431 (sX3_findAhead hv3430) rfl (Nat.le_of_ble_eq_true rfl) (Nat.le_of_ble_eq_true rfl) rfl <| ml_iconst dX3_findLasts_4 kc_i1 <| ml_istore_n (lv' := [(1, ml_i (1 : Int32)), (0, ml_r l0)]) dX3_findLasts_5 (ml_hn hL rfl) rfl <| ml_V.sub [1, 0] rfl (vX3_findLasts_6 hL hr  ml_fu _ _ _ h)
theorem sX3_findLasts {l0 : Nat} {m : ml_M} {rm : ml_M} (h : fX3_findLasts l0 m = some rm) : ml_Sn yX3_findLasts cX3_findLasts 3 none 3 [ml_r l0] m none rm :=
  ml_Sn_of (P := True) (ini := false) (by decide +kernel) (Nat.le_of_ble_eq_true rfl) (fun h => by cases h) (fun _ => ml_RkV) fun E hL hr => wX3_findLasts_0 hL hr _ _ h
theorem dX3_fewestPeople_0 : ml_d cX3_fewestPeople 0 (.aload_n 0) 1 1 := ⟨by decide +kernel, rfl⟩
theorem dX3_fewestPeople_1 : ml_d cX3_fewestPeople 1 (.invokevirtual 47) 3 4 := ⟨by decide +kernel, rfl⟩
theorem dX3_fewestPeople_4 : ml_d cX3_fewestPeople 4 (.iconst 1) 1 5 := ⟨by decide +kernel, rfl⟩
theorem dX3_fewestPeople_5 : ml_d cX3_fewestPeople 5 (.istore_n 1) 1 6 := ⟨by decide +kernel, rfl⟩
theorem dX3_fewestPeople_6 : ml_d cX3_fewestPeople 6 (.iload_n 1) 1 7 := ⟨by decide +kernel, rfl⟩
theorem dX3_fewestPeople_7 : ml_d cX3_fewestPeople 7 (.iconst 1) 1 8 := ⟨by decide +kernel, rfl⟩
theorem dX3_fewestPeople_8 : ml_d cX3_fewestPeople 8 (.aload_n 0) 1 9 := ⟨by decide +kernel, rfl⟩
theorem dX3_fewestPeople_9 : ml_d cX3_fewestPeople 9 (.getfield 44) 3 12 := ⟨by decide +kernel, rfl⟩
theorem dX3_fewestPeople_12 : ml_d cX3_fewestPeople 12 (.ishl) 1 13 := ⟨by decide +kernel, rfl⟩
theorem dX3_fewestPeople_13 : ml_j cX3_fewestPeople 13 (.if_icmp .ge) 83 16 := ⟨70, by decide +kernel, by decide, rfl⟩
theorem dX3_fewestPeople_16 : ml_d cX3_fewestPeople 16 (.aload_n 0) 1 17 := ⟨by decide +kernel, rfl⟩
theorem dX3_fewestPeople_17 : ml_d cX3_fewestPeople 17 (.getfield 27) 3 20 := ⟨by decide +kernel, rfl⟩
theorem dX3_fewestPeople_20 : ml_d cX3_fewestPeople 20 (.iload_n 1) 1 21 := ⟨by decide +kernel, rfl⟩
theorem dX3_fewestPeople_21 : ml_d cX3_fewestPeople 21 (.aload_n 0) 1 22 := ⟨by decide +kernel, rfl⟩
theorem dX3_fewestPeople_22 : ml_d cX3_fewestPeople 22 (.getfield 44) 3 25 := ⟨by decide +kernel, rfl⟩
theorem dX3_fewestPeople_25 : ml_d cX3_fewestPeople 25 (.iastore) 1 26 := ⟨by decide +kernel, rfl⟩
theorem dX3_fewestPeople_26 : ml_d cX3_fewestPeople 26 (.iload_n 1) 1 27 := ⟨by decide +kernel, rfl⟩
theorem dX3_fewestPeople_27 : ml_d cX3_fewestPeople 27 (.istore_n 2) 1 28 := ⟨by decide +kernel, rfl⟩
theorem dX3_fewestPeople_28 : ml_d cX3_fewestPeople 28 (.iload_n 2) 1 29 := ⟨by decide +kernel, rfl⟩
theorem dX3_fewestPeople_29 : ml_j cX3_fewestPeople 29 (.ifCond .le) 77 32 := ⟨48, by decide +kernel, by decide, rfl⟩
theorem dX3_fewestPeople_32 : ml_d cX3_fewestPeople 32 (.aload_n 0) 1 33 := ⟨by decide +kernel, rfl⟩
theorem dX3_fewestPeople_33 : ml_d cX3_fewestPeople 33 (.getfield 21) 3 36 := ⟨by decide +kernel, rfl⟩
theorem dX3_fewestPeople_36 : ml_d cX3_fewestPeople 36 (.iload_n 2) 1 37 := ⟨by decide +kernel, rfl⟩
theorem dX3_fewestPeople_37 : ml_d cX3_fewestPeople 37 (.iaload) 1 38 := ⟨by decide +kernel, rfl⟩
theorem dX3_fewestPeople_38 : ml_j cX3_fewestPeople 38 (.ifCond .eq) 68 41 := ⟨30, by decide +kernel, by decide, rfl⟩
theorem dX3_fewestPeople_41 : ml_d cX3_fewestPeople 41 (.aload_n 0) 1 42 := ⟨by decide +kernel, rfl⟩
theorem dX3_fewestPeople_42 : ml_d cX3_fewestPeople 42 (.getfield 27) 3 45 := ⟨by decide +kernel, rfl⟩
theorem dX3_fewestPeople_45 : ml_d cX3_fewestPeople 45 (.iload_n 1) 1 46 := ⟨by decide +kernel, rfl⟩
theorem dX3_fewestPeople_46 : ml_d cX3_fewestPeople 46 (.aload_n 0) 1 47 := ⟨by decide +kernel, rfl⟩
theorem dX3_fewestPeople_47 : ml_d cX3_fewestPeople 47 (.getfield 27) 3 50 := ⟨by decide +kernel, rfl⟩
theorem dX3_fewestPeople_50 : ml_d cX3_fewestPeople 50 (.iload_n 1) 1 51 := ⟨by decide +kernel, rfl⟩
theorem dX3_fewestPeople_51 : ml_d cX3_fewestPeople 51 (.iaload) 1 52 := ⟨by decide +kernel, rfl⟩
theorem dX3_fewestPeople_52 : ml_d cX3_fewestPeople 52 (.aload_n 0) 1 53 := ⟨by decide +kernel, rfl⟩
theorem dX3_fewestPeople_53 : ml_d cX3_fewestPeople 53 (.getfield 27) 3 56 := ⟨by decide +kernel, rfl⟩
theorem dX3_fewestPeople_56 : ml_d cX3_fewestPeople 56 (.iload_n 1) 1 57 := ⟨by decide +kernel, rfl⟩
theorem dX3_fewestPeople_57 : ml_d cX3_fewestPeople 57 (.iload_n 2) 1 58 := ⟨by decide +kernel, rfl⟩
theorem dX3_fewestPeople_58 : ml_d cX3_fewestPeople 58 (.iconst (-1)) 1 59 := ⟨by decide +kernel, rfl⟩
theorem dX3_fewestPeople_59 : ml_d cX3_fewestPeople 59 (.ixor) 1 60 := ⟨by decide +kernel, rfl⟩
theorem dX3_fewestPeople_60 : ml_d cX3_fewestPeople 60 (.iand) 1 61 := ⟨by decide +kernel, rfl⟩
theorem dX3_fewestPeople_61 : ml_d cX3_fewestPeople 61 (.iaload) 1 62 := ⟨by decide +kernel, rfl⟩
theorem dX3_fewestPeople_62 : ml_d cX3_fewestPeople 62 (.iconst 1) 1 63 := ⟨by decide +kernel, rfl⟩
theorem dX3_fewestPeople_63 : ml_d cX3_fewestPeople 63 (.iadd) 1 64 := ⟨by decide +kernel, rfl⟩
theorem dX3_fewestPeople_64 : ml_d cX3_fewestPeople 64 (.invokestatic 38) 3 67 := ⟨by decide +kernel, rfl⟩
theorem dX3_fewestPeople_67 : ml_d cX3_fewestPeople 67 (.iastore) 1 68 := ⟨by decide +kernel, rfl⟩
theorem dX3_fewestPeople_68 : ml_d cX3_fewestPeople 68 (.iload_n 2) 1 69 := ⟨by decide +kernel, rfl⟩
theorem dX3_fewestPeople_69 : ml_d cX3_fewestPeople 69 (.iconst 1) 1 70 := ⟨by decide +kernel, rfl⟩
theorem dX3_fewestPeople_70 : ml_d cX3_fewestPeople 70 (.isub) 1 71 := ⟨by decide +kernel, rfl⟩
theorem dX3_fewestPeople_71 : ml_d cX3_fewestPeople 71 (.iload_n 1) 1 72 := ⟨by decide +kernel, rfl⟩
theorem dX3_fewestPeople_72 : ml_d cX3_fewestPeople 72 (.iand) 1 73 := ⟨by decide +kernel, rfl⟩
theorem dX3_fewestPeople_73 : ml_d cX3_fewestPeople 73 (.istore_n 2) 1 74 := ⟨by decide +kernel, rfl⟩
theorem dX3_fewestPeople_74 : ml_j cX3_fewestPeople 74 .goto 28 77 := ⟨(-46), by decide +kernel, by decide, rfl⟩
theorem dX3_fewestPeople_77 : ml_d cX3_fewestPeople 77 (.iinc 1 1) 3 80 := ⟨by decide +kernel, rfl⟩
theorem dX3_fewestPeople_80 : ml_j cX3_fewestPeople 80 .goto 6 83 := ⟨(-74), by decide +kernel, by decide, rfl⟩
theorem dX3_fewestPeople_83 : ml_d cX3_fewestPeople 83 (.aload_n 0) 1 84 := ⟨by decide +kernel, rfl⟩
theorem dX3_fewestPeople_84 : ml_d cX3_fewestPeople 84 (.getfield 27) 3 87 := ⟨by decide +kernel, rfl⟩
theorem dX3_fewestPeople_87 : ml_d cX3_fewestPeople 87 (.iconst 1) 1 88 := ⟨by decide +kernel, rfl⟩
theorem dX3_fewestPeople_88 : ml_d cX3_fewestPeople 88 (.aload_n 0) 1 89 := ⟨by decide +kernel, rfl⟩
theorem dX3_fewestPeople_89 : ml_d cX3_fewestPeople 89 (.getfield 44) 3 92 := ⟨by decide +kernel, rfl⟩
theorem dX3_fewestPeople_92 : ml_d cX3_fewestPeople 92 (.ishl) 1 93 := ⟨by decide +kernel, rfl⟩
theorem dX3_fewestPeople_93 : ml_d cX3_fewestPeople 93 (.iconst 1) 1 94 := ⟨by decide +kernel, rfl⟩
theorem dX3_fewestPeople_94 : ml_d cX3_fewestPeople 94 (.isub) 1 95 := ⟨by decide +kernel, rfl⟩
theorem dX3_fewestPeople_95 : ml_d cX3_fewestPeople 95 (.iaload) 1 96 := ⟨by decide +kernel, rfl⟩
theorem dX3_fewestPeople_96 : ml_d cX3_fewestPeople 96 (.ireturn) 1 97 := ⟨by decide +kernel, rfl⟩
def fX3_fewestPeople_68 (k6 : Nat → Int32 → ml_M → Option (Int32 × ml_M)) (k28 : Nat → Int32 → Int32 → ml_M → Option (Int32 × ml_M)) (l0 : Nat) (l1 : Int32) (l2 : Int32) (m : ml_M) : Option (Int32 × ml_M) :=
    ml_let ((l2 - (1 : Int32)) &&& l1) fun x3433 =>
    k28 l0 l1 x3433 m
theorem vX3_fewestPeople_68 {E : ml_E} (hL : ml_eL E = 3) {rv : Int32} {rm : ml_M} (hr : ∀ (pc pc' : Nat) (lv : List (Nat × ml_X)), ml_d cX3_fewestPeople pc .ireturn 1 pc' → True → ml_V E "LostRoom$Journeys" cX3_fewestPeople 4 false rm pc lv [ml_i rv]) {k6 : Nat → Int32 → ml_M → Option (Int32 × ml_M)} (hk6 : ∀ (l0 : Nat) (l1 : Int32) (m : ml_M), k6 l0 l1 m = some (rv, rm) → ml_V E "LostRoom$Journeys" cX3_fewestPeople 4 false m 6 [(0, ml_r l0), (1, ml_i l1)] []) {k28 : Nat → Int32 → Int32 → ml_M → Option (Int32 × ml_M)} (hk28 : ∀ (l0 : Nat) (l1 : Int32) (l2 : Int32) (m : ml_M), k28 l0 l1 l2 m = some (rv, rm) → ml_V E "LostRoom$Journeys" cX3_fewestPeople 4 false m 28 [(0, ml_r l0), (1, ml_i l1), (2, ml_i l2)] []) : ∀ (l0 : Nat) (l1 : Int32) (l2 : Int32) (m : ml_M), fX3_fewestPeople_68 k6 k28 l0 l1 l2 m = some (rv, rm) → ml_V E "LostRoom$Journeys" cX3_fewestPeople 4 false m 68 [(0, ml_r l0), (1, ml_i l1), (2, ml_i l2)] [] := by
  intro l0 l1 l2 m h
  unfold fX3_fewestPeople_68 at h
  exact ml_iload_n dX3_fewestPeople_68 2 rfl <| ml_iconst dX3_fewestPeople_69 kc_i1 <| ml_isub dX3_fewestPeople_70 <| ml_iload_n dX3_fewestPeople_71 1 rfl <| ml_iand dX3_fewestPeople_72 <| ml_lx (mk := ml_i) h fun x3433 h => ml_istore_n (lv' := [(2, ml_i x3433), (0, ml_r l0), (1, ml_i l1)]) dX3_fewestPeople_73 (ml_hn hL rfl) rfl <| ml_goto dX3_fewestPeople_74 <| ml_V.sub [1, 2, 0] rfl (hk28 _ _ _ _ h)
def fX3_fewestPeople_77 (k6 : Nat → Int32 → ml_M → Option (Int32 × ml_M)) (l0 : Nat) (l1 : Int32) (m : ml_M) : Option (Int32 × ml_M) :=
    k6 l0 (l1 + (1 : Int32)) m
theorem vX3_fewestPeople_77 {E : ml_E} (hL : ml_eL E = 3) {rv : Int32} {rm : ml_M} (hr : ∀ (pc pc' : Nat) (lv : List (Nat × ml_X)), ml_d cX3_fewestPeople pc .ireturn 1 pc' → True → ml_V E "LostRoom$Journeys" cX3_fewestPeople 4 false rm pc lv [ml_i rv]) {k6 : Nat → Int32 → ml_M → Option (Int32 × ml_M)} (hk6 : ∀ (l0 : Nat) (l1 : Int32) (m : ml_M), k6 l0 l1 m = some (rv, rm) → ml_V E "LostRoom$Journeys" cX3_fewestPeople 4 false m 6 [(0, ml_r l0), (1, ml_i l1)] []) : ∀ (l0 : Nat) (l1 : Int32) (m : ml_M), fX3_fewestPeople_77 k6 l0 l1 m = some (rv, rm) → ml_V E "LostRoom$Journeys" cX3_fewestPeople 4 false m 77 [(0, ml_r l0), (1, ml_i l1)] [] := by
  intro l0 l1 m h
  unfold fX3_fewestPeople_77 at h
  exact ml_iinc (lv' := [(1, ml_i (l1 + (1 : Int32))), (0, ml_r l0)]) dX3_fewestPeople_77 1 rfl (congrArg (l1 + ·) kc_i1) (ml_hn hL rfl) rfl <| ml_goto dX3_fewestPeople_80 <| ml_V.sub [1, 0] rfl (hk6 _ _ _ h)
def fX3_fewestPeople_28 (k6 : Nat → Int32 → ml_M → Option (Int32 × ml_M)) : Nat → Nat → Int32 → Int32 → ml_M → Option (Int32 × ml_M)
  | 0, _, _, _, _ => none
  | fu + 1, l0, l1, l2, m =>
    if l2 ≤ 0 then
    fX3_fewestPeople_77 k6 l0 l1 m
    else
    if (ml_K m l0).1 = 3 then
    ml_let (ml_R m l0 3) fun a3435 =>
    if ml_in m a3435 20 l2 then
    if (ml_I m a3435 l2.toNatClampNeg) = 0 then
    fX3_fewestPeople_68 k6 (fX3_fewestPeople_28 k6 fu) l0 l1 l2 m
    else
    ml_let (ml_R m l0 5) fun a3437 =>
    ml_let (ml_R m l0 5) fun a3438 =>
    if ml_in m a3438 20 l1 then
    ml_let (ml_R m l0 5) fun a3440 =>
    if ml_in m a3440 20 (l1 &&& (l2 ^^^ (-1 : Int32))) then
    if ml_in m a3437 20 l1 then
    ml_let (ml_sI m a3437 l1.toNatClampNeg (if ((ml_I m a3440 (l1 &&& (l2 ^^^ (-1 : Int32))).toNatClampNeg) + (1 : Int32)) < (ml_I m a3438 l1.toNatClampNeg) then ((ml_I m a3440 (l1 &&& (l2 ^^^ (-1 : Int32))).toNatClampNeg) + (1 : Int32)) else (ml_I m a3438 l1.toNatClampNeg))) fun m3443 =>
    fX3_fewestPeople_68 k6 (fX3_fewestPeople_28 k6 fu) l0 l1 l2 m3443
    else none
    else none
    else none
    else none
    else none
theorem vX3_fewestPeople_28 {E : ml_E} (hL : ml_eL E = 3) {rv : Int32} {rm : ml_M} (hr : ∀ (pc pc' : Nat) (lv : List (Nat × ml_X)), ml_d cX3_fewestPeople pc .ireturn 1 pc' → True → ml_V E "LostRoom$Journeys" cX3_fewestPeople 4 false rm pc lv [ml_i rv]) {k6 : Nat → Int32 → ml_M → Option (Int32 × ml_M)} (hk6 : ∀ (l0 : Nat) (l1 : Int32) (m : ml_M), k6 l0 l1 m = some (rv, rm) → ml_V E "LostRoom$Journeys" cX3_fewestPeople 4 false m 6 [(0, ml_r l0), (1, ml_i l1)] []) : ∀ (fu : Nat) (l0 : Nat) (l1 : Int32) (l2 : Int32) (m : ml_M), fX3_fewestPeople_28 k6 fu l0 l1 l2 m = some (rv, rm) → ml_V E "LostRoom$Journeys" cX3_fewestPeople 4 false m 28 [(0, ml_r l0), (1, ml_i l1), (2, ml_i l2)] [] := by
  intro fu
  induction fu with
  | zero => intro l0 l1 l2 m h; exact ml_none h
  | succ fu ih =>
    intro l0 l1 l2 m h
    have hk28 := ih
    unfold fX3_fewestPeople_28 at h
    exact ml_iload_n dX3_fewestPeople_28 2 rfl <| ml_if_le dX3_fewestPeople_29 h (fun _ h => ml_V.sub [0, 1] rfl (vX3_fewestPeople_77 hL hr hk6 _ _ _ h)) (fun _ h => ml_aload_n dX3_fewestPeople_32 0 rfl <| ml_ck_of h fun hc3434 h => ml_getR dX3_fewestPeople_33 wb_446 hc3434 <| ml_lx (mk := ml_r) h fun a3435 h => ml_iload_n dX3_fewestPeople_36 2 rfl <| ml_ck_of h fun hi3436 h => ml_iald dX3_fewestPeople_37 hi3436 <| ml_if_eq dX3_fewestPeople_38 h (fun _ h => ml_V.sub [0, 1, 2] rfl (vX3_fewestPeople_68 hL hr hk6 hk28 _ _ _ _ h)) (fun _ h => ml_aload_n dX3_fewestPeople_41 0 rfl <| ml_getR dX3_fewestPeople_42 wb_451 hc3434 <| ml_lx (mk := ml_r) h fun a3437 h => ml_iload_n dX3_fewestPeople_45 1 rfl <| ml_aload_n dX3_fewestPeople_46 0 rfl <| ml_getR dX3_fewestPeople_47 wb_451 hc3434 <| ml_lx (mk := ml_r) h fun a3438 h => ml_iload_n dX3_fewestPeople_50 1 rfl <| ml_ck_of h fun hi3439 h => ml_iald dX3_fewestPeople_51 hi3439 <| ml_aload_n dX3_fewestPeople_52 0 rfl <| ml_getR dX3_fewestPeople_53 wb_451 hc3434 <| ml_lx (mk := ml_r) h fun a3440 h => ml_iload_n dX3_fewestPeople_56 1 rfl <| ml_iload_n dX3_fewestPeople_57 2 rfl <| ml_iconst dX3_fewestPeople_58 kc_im1 <| ml_ixor dX3_fewestPeople_59 <| ml_iand dX3_fewestPeople_60 <| ml_ck_of h fun hi3441 h => ml_iald dX3_fewestPeople_61 hi3441 <| ml_iconst dX3_fewestPeople_62 kc_i1 <| ml_iadd dX3_fewestPeople_63 <| ml_mmin dX3_fewestPeople_64 wb_437 (Nat.le_of_ble_eq_true rfl) (Nat.le_of_ble_eq_true rfl) <| ml_ck_of h fun hi3442 h => ml_iast dX3_fewestPeople_67 hi3442 <| ml_lt (m := m) rfl h fun m3443 em3444 h => ml_V.sub [0, 1, 2] rfl (vX3_fewestPeople_68 hL hr hk6 hk28 _ _ _ _ h)))
def fX3_fewestPeople_83 (l0 : Nat) (m : ml_M) : Option (Int32 × ml_M) :=
    if (ml_K m l0).1 = 3 then
    ml_let (ml_R m l0 5) fun a3446 =>
    if ml_in m a3446 20 (((1 : Int32) <<< ((ml_I m l0 1) &&& 31)) - (1 : Int32)) then
    some ((ml_I m a3446 (((1 : Int32) <<< ((ml_I m l0 1) &&& 31)) - (1 : Int32)).toNatClampNeg), m)
    else none
    else none
theorem vX3_fewestPeople_83 {E : ml_E} (hL : ml_eL E = 3) {rv : Int32} {rm : ml_M} (hr : ∀ (pc pc' : Nat) (lv : List (Nat × ml_X)), ml_d cX3_fewestPeople pc .ireturn 1 pc' → True → ml_V E "LostRoom$Journeys" cX3_fewestPeople 4 false rm pc lv [ml_i rv]) : ∀ (l0 : Nat) (m : ml_M), fX3_fewestPeople_83 l0 m = some (rv, rm) → ml_V E "LostRoom$Journeys" cX3_fewestPeople 4 false m 83 [(0, ml_r l0)] [] := by
  intro l0 m h
  unfold fX3_fewestPeople_83 at h
  exact ml_aload_n dX3_fewestPeople_83 0 rfl <| ml_ck_of h fun hc3445 h => ml_getR dX3_fewestPeople_84 wb_451 hc3445 <| ml_lx (mk := ml_r) h fun a3446 h => ml_iconst dX3_fewestPeople_87 kc_i1 <| ml_aload_n dX3_fewestPeople_88 0 rfl <| ml_getI dX3_fewestPeople_89 wb_441 hc3445 <| ml_ishl dX3_fewestPeople_92 <| ml_iconst dX3_fewestPeople_93 kc_i1 <| ml_isub dX3_fewestPeople_94 <| ml_ck_of h fun hi3447 h => ml_iald dX3_fewestPeople_95 hi3447 <| ml_rI (mk := ml_i) hr dX3_fewestPeople_96 (fun _ => trivial) h
def fX3_fewestPeople_6 : Nat → Nat → Int32 → ml_M → Option (Int32 × ml_M)
  | 0, _, _, _ => none
  | fu + 1, l0, l1, m =>
    if (ml_K m l0).1 = 3 then
    if ((1 : Int32) <<< ((ml_I m l0 1) &&& 31)) ≤ l1 then
    fX3_fewestPeople_83 l0 m
    else
    ml_let (ml_R m l0 5) fun a3449 =>
    if ml_in m a3449 20 l1 then
    ml_let (ml_sI m a3449 l1.toNatClampNeg (ml_I m l0 1)) fun m3451 =>
    fX3_fewestPeople_28 (fX3_fewestPeople_6 fu) ml_fu l0 l1 l1 m3451
    else none
    else none
theorem vX3_fewestPeople_6 {E : ml_E} (hL : ml_eL E = 3) {rv : Int32} {rm : ml_M} (hr : ∀ (pc pc' : Nat) (lv : List (Nat × ml_X)), ml_d cX3_fewestPeople pc .ireturn 1 pc' → True → ml_V E "LostRoom$Journeys" cX3_fewestPeople 4 false rm pc lv [ml_i rv]) : ∀ (fu : Nat) (l0 : Nat) (l1 : Int32) (m : ml_M), fX3_fewestPeople_6 fu l0 l1 m = some (rv, rm) → ml_V E "LostRoom$Journeys" cX3_fewestPeople 4 false m 6 [(0, ml_r l0), (1, ml_i l1)] [] := by
  intro fu
  induction fu with
  | zero => intro l0 l1 m h; exact ml_none h
  | succ fu ih =>
    intro l0 l1 m h
    have hk6 := ih
    unfold fX3_fewestPeople_6 at h
    exact ml_iload_n dX3_fewestPeople_6 1 rfl <| ml_iconst dX3_fewestPeople_7 kc_i1 <| ml_aload_n dX3_fewestPeople_8 0 rfl <| ml_ck_of h fun hc3448 h => ml_getI dX3_fewestPeople_9 wb_441 hc3448 <| ml_ishl dX3_fewestPeople_12 <| ml_icmp_ge dX3_fewestPeople_13 h (fun _ h => ml_V.sub [0] rfl (vX3_fewestPeople_83 hL hr  _ _ h)) (fun _ h => ml_aload_n dX3_fewestPeople_16 0 rfl <| ml_getR dX3_fewestPeople_17 wb_451 hc3448 <| ml_lx (mk := ml_r) h fun a3449 h => ml_iload_n dX3_fewestPeople_20 1 rfl <| ml_aload_n dX3_fewestPeople_21 0 rfl <| ml_getI dX3_fewestPeople_22 wb_441 hc3448 <| ml_ck_of h fun hi3450 h => ml_iast dX3_fewestPeople_25 hi3450 <| ml_lt (m := m) rfl h fun m3451 em3452 h => ml_iload_n dX3_fewestPeople_26 1 rfl <| ml_istore_n (lv' := [(2, ml_i l1), (0, ml_r l0), (1, ml_i l1)]) dX3_fewestPeople_27 (ml_hn hL rfl) rfl <| ml_V.sub [1, 2, 0] rfl (vX3_fewestPeople_28 hL hr hk6 ml_fu _ _ _ _ h))
def fX3_fewestPeople (l0 : Nat) (m : ml_M) : Option (Int32 × ml_M) :=
    if (ml_K m l0).1 = 3 then
    ml_b1 (fX3_findLasts l0 m) fun m3455 =>
    fX3_fewestPeople_6 ml_fu l0 (1 : Int32) m3455
    else none
theorem wX3_fewestPeople_0 {E : ml_E} (hL : ml_eL E = 3) {rv : Int32} {rm : ml_M} (hr : ∀ (pc pc' : Nat) (lv : List (Nat × ml_X)), ml_d cX3_fewestPeople pc .ireturn 1 pc' → True → ml_V E "LostRoom$Journeys" cX3_fewestPeople 4 false rm pc lv [ml_i rv]) : ∀ (l0 : Nat) (m : ml_M), fX3_fewestPeople l0 m = some (rv, rm) → ml_V E "LostRoom$Journeys" cX3_fewestPeople 4 false m 0 [(0, ml_r l0)] [] := by
  intro l0 m h
  unfold fX3_fewestPeople at h
  exact ml_aload_n dX3_fewestPeople_0 0 rfl <| ml_ck_of h fun hc3454 h => ml_b1_of h fun m3455 hv3453 h => ml_callV dX3_fewestPeople_1 wm_746 wb_452 hc3454 (sX3_findLasts hv3453) rfl (Nat.le_of_ble_eq_true rfl) (Nat.le_of_ble_eq_true rfl) rfl <| ml_iconst dX3_fewestPeople_4 kc_i1 <| ml_istore_n (lv' := [(1, ml_i (1 : Int32)), (0, ml_r l0)]) dX3_fewestPeople_5 (ml_hn hL rfl) rfl <| ml_V.sub [1, 0] rfl (vX3_fewestPeople_6 hL hr  ml_fu _ _ _ h)
theorem sX3_fewestPeople {l0 : Nat} {m : ml_M} {rv : Int32} {rm : ml_M} (h : fX3_fewestPeople l0 m = some (rv, rm)) : ml_Sn yX3_fewestPeople cX3_fewestPeople 3 (some .int) 4 [ml_r l0] m (some (ml_i rv)) rm :=
  ml_Sn_of (P := True) (ini := false) (by decide +kernel) (Nat.le_of_ble_eq_true rfl) (fun h => by cases h) (fun _ => ml_RkI rv) fun E hL hr => wX3_fewestPeople_0 hL hr _ _ h
theorem dX10_travellers_0 : ml_d cX10_travellers 0 (.aload_n 0) 1 1 := ⟨by decide +kernel, rfl⟩
theorem dX10_travellers_1 : ml_d cX10_travellers 1 (.getfield 75) 3 4 := ⟨by decide +kernel, rfl⟩
theorem dX10_travellers_4 : ml_d cX10_travellers 4 (.aload_n 0) 1 5 := ⟨by decide +kernel, rfl⟩
theorem dX10_travellers_5 : ml_d cX10_travellers 5 (.getfield 36) 3 8 := ⟨by decide +kernel, rfl⟩
theorem dX10_travellers_8 : ml_d cX10_travellers 8 (.aload_n 0) 1 9 := ⟨by decide +kernel, rfl⟩
theorem dX10_travellers_9 : ml_d cX10_travellers 9 (.getfield 118) 3 12 := ⟨by decide +kernel, rfl⟩
theorem dX10_travellers_12 : ml_d cX10_travellers 12 (.iconst 1) 1 13 := ⟨by decide +kernel, rfl⟩
theorem dX10_travellers_13 : ml_d cX10_travellers 13 (.aload_n 0) 1 14 := ⟨by decide +kernel, rfl⟩
theorem dX10_travellers_14 : ml_d cX10_travellers 14 (.getfield 118) 3 17 := ⟨by decide +kernel, rfl⟩
theorem dX10_travellers_17 : ml_d cX10_travellers 17 (.ishl) 1 18 := ⟨by decide +kernel, rfl⟩
theorem dX10_travellers_18 : ml_d cX10_travellers 18 (.iconst 1) 1 19 := ⟨by decide +kernel, rfl⟩
theorem dX10_travellers_19 : ml_d cX10_travellers 19 (.isub) 1 20 := ⟨by decide +kernel, rfl⟩
theorem dX10_travellers_20 : ml_d cX10_travellers 20 (.invokevirtual 297) 3 23 := ⟨by decide +kernel, rfl⟩
theorem dX10_travellers_23 : ml_d cX10_travellers 23 (.istore_n 1) 1 24 := ⟨by decide +kernel, rfl⟩
theorem dX10_travellers_24 : ml_d cX10_travellers 24 (.iload_n 1) 1 25 := ⟨by decide +kernel, rfl⟩
theorem dX10_travellers_25 : ml_d cX10_travellers 25 (.bipush 10) 2 27 := ⟨by decide +kernel, rfl⟩
theorem dX10_travellers_27 : ml_j cX10_travellers 27 (.if_icmp .le) 35 30 := ⟨8, by decide +kernel, by decide, rfl⟩
theorem dX10_travellers_30 : ml_d cX10_travellers 30 (.bipush (-6)) 2 32 := ⟨by decide +kernel, rfl⟩
theorem dX10_travellers_32 : ml_j cX10_travellers 32 .goto 42 35 := ⟨10, by decide +kernel, by decide, rfl⟩
theorem dX10_travellers_35 : ml_d cX10_travellers 35 (.aload_n 0) 1 36 := ⟨by decide +kernel, rfl⟩
theorem dX10_travellers_36 : ml_d cX10_travellers 36 (.getfield 75) 3 39 := ⟨by decide +kernel, rfl⟩
theorem dX10_travellers_39 : ml_d cX10_travellers 39 (.invokevirtual 301) 3 42 := ⟨by decide +kernel, rfl⟩
theorem dX10_travellers_42 : ml_d cX10_travellers 42 (.ireturn) 1 43 := ⟨by decide +kernel, rfl⟩
def fX10_travellers (l0 : Nat) (m : ml_M) : Option (Int32 × ml_M) :=
    if (ml_K m l0).1 = 10 then
    ml_let (ml_R m l0 14) fun a3457 =>
    ml_let (ml_R m l0 4) fun a3458 =>
    if (ml_K m a3457).1 = 3 then
    ml_b2 (fX3_gather a3457 a3458 (ml_I m l0 5) (((1 : Int32) <<< ((ml_I m l0 5) &&& 31)) - (1 : Int32)) m) fun r3461 m3462 =>
    if r3461 ≤ (10 : Int32) then
    if (ml_K m3462 l0).1 = 10 then
    ml_let (ml_R m3462 l0 14) fun a3464 =>
    if (ml_K m3462 a3464).1 = 3 then
    ml_b2 (fX3_fewestPeople a3464 m3462) fun r3467 m3468 =>
    some (r3467, m3468)
    else none
    else none
    else
    some ((-6 : Int32), m3462)
    else none
    else none
theorem wX10_travellers_0 {E : ml_E} (hL : ml_eL E = 2) {rv : Int32} {rm : ml_M} (hr : ∀ (pc pc' : Nat) (lv : List (Nat × ml_X)), ml_d cX10_travellers pc .ireturn 1 pc' → True → ml_V E "LostRoom" cX10_travellers 5 false rm pc lv [ml_i rv]) : ∀ (l0 : Nat) (m : ml_M), fX10_travellers l0 m = some (rv, rm) → ml_V E "LostRoom" cX10_travellers 5 false m 0 [(0, ml_r l0)] [] := by
  intro l0 m h
  unfold fX10_travellers at h
  exact ml_aload_n dX10_travellers_0 0 rfl <| ml_ck_of h fun hc3456 h => ml_getR dX10_travellers_1 wb_453 hc3456 <| ml_lx (mk := ml_r) h fun a3457 h => ml_aload_n dX10_travellers_4 0 rfl <| ml_getR dX10_travellers_5 wb_218 hc3456 <| ml_lx (mk := ml_r) h fun a3458 h => ml_aload_n dX10_travellers_8 0 rfl <| ml_getI dX10_travellers_9 wb_217 hc3456 <| ml_iconst dX10_travellers_12 kc_i1 <| ml_aload_n dX10_travellers_13 0 rfl <| ml_getI dX10_travellers_14 wb_217 hc3456 <| ml_ishl dX10_travellers_17 <| ml_iconst dX10_travellers_18 kc_i1 <| ml_isub dX10_travellers_19 <| ml_ck_of h fun hc3460 h => ml_b2_of h fun r3461 m3462 hv3459 h => ml_callV dX10_travellers_20 wm_750 wb_454 hc3460 (sX3_gather hv3459) rfl (Nat.le_of_ble_eq_true rfl) (Nat.le_of_ble_eq_true rfl) rfl <| ml_istore_n (lv' := [(1, ml_i r3461), (0, ml_r l0)]) dX10_travellers_23 (ml_hn hL rfl) rfl <| ml_iload_n dX10_travellers_24 0 rfl <| ml_bipush dX10_travellers_25 kc_b10 <| ml_icmp_le dX10_travellers_27 h (fun _ h => ml_aload_n dX10_travellers_35 1 rfl <| ml_ck_of h fun hc3463 h => ml_getR dX10_travellers_36 wb_453 hc3463 <| ml_lx (mk := ml_r) h fun a3464 h => ml_ck_of h fun hc3466 h => ml_b2_of h fun r3467 m3468 hv3465 h => ml_callV dX10_travellers_39 wm_754 wb_455 hc3466 (sX3_fewestPeople hv3465) rfl (Nat.le_of_ble_eq_true rfl) (Nat.le_of_ble_eq_true rfl) rfl <| ml_rI (mk := ml_i) hr dX10_travellers_42 (fun _ => trivial) h) (fun _ h => ml_bipush dX10_travellers_30 kc_bm6 <| ml_goto dX10_travellers_32 <| ml_rI (mk := ml_i) hr dX10_travellers_42 (fun _ => trivial) h)
theorem sX10_travellers {l0 : Nat} {m : ml_M} {rv : Int32} {rm : ml_M} (h : fX10_travellers l0 m = some (rv, rm)) : ml_Sn yX10_travellers cX10_travellers 2 (some .int) 5 [ml_r l0] m (some (ml_i rv)) rm :=
  ml_Sn_of (P := True) (ini := false) (by decide +kernel) (Nat.le_of_ble_eq_true rfl) (fun h => by cases h) (fun _ => ml_RkI rv) fun E hL hr => wX10_travellers_0 hL hr _ _ h
theorem dX11_layTickets_0 : ml_d cX11_layTickets 0 (.aload_n 0) 1 1 := ⟨by decide +kernel, rfl⟩
theorem dX11_layTickets_1 : ml_d cX11_layTickets 1 (.iconst 0) 1 2 := ⟨by decide +kernel, rfl⟩
theorem dX11_layTickets_2 : ml_d cX11_layTickets 2 (.putfield 341) 3 5 := ⟨by decide +kernel, rfl⟩
theorem dX11_layTickets_5 : ml_d cX11_layTickets 5 (.iconst 0) 1 6 := ⟨by decide +kernel, rfl⟩
theorem dX11_layTickets_6 : ml_d cX11_layTickets 6 (.istore_n 2) 1 7 := ⟨by decide +kernel, rfl⟩
theorem dX11_layTickets_7 : ml_d cX11_layTickets 7 (.iload_n 2) 1 8 := ⟨by decide +kernel, rfl⟩
theorem dX11_layTickets_8 : ml_d cX11_layTickets 8 (.aload_n 0) 1 9 := ⟨by decide +kernel, rfl⟩
theorem dX11_layTickets_9 : ml_d cX11_layTickets 9 (.getfield 181) 3 12 := ⟨by decide +kernel, rfl⟩
theorem dX11_layTickets_12 : ml_j cX11_layTickets 12 (.if_icmp .ge) 58 15 := ⟨46, by decide +kernel, by decide, rfl⟩
theorem dX11_layTickets_15 : ml_d cX11_layTickets 15 (.aload_n 0) 1 16 := ⟨by decide +kernel, rfl⟩
theorem dX11_layTickets_16 : ml_d cX11_layTickets 16 (.iload_n 2) 1 17 := ⟨by decide +kernel, rfl⟩
theorem dX11_layTickets_17 : ml_d cX11_layTickets 17 (.invokevirtual 220) 3 20 := ⟨by decide +kernel, rfl⟩
theorem dX11_layTickets_20 : ml_d cX11_layTickets 20 (.iconst 4) 1 21 := ⟨by decide +kernel, rfl⟩
theorem dX11_layTickets_21 : ml_j cX11_layTickets 21 (.if_icmp .ne) 52 24 := ⟨31, by decide +kernel, by decide, rfl⟩
theorem dX11_layTickets_24 : ml_d cX11_layTickets 24 (.iload_n 1) 1 25 := ⟨by decide +kernel, rfl⟩
theorem dX11_layTickets_25 : ml_d cX11_layTickets 25 (.iload_n 2) 1 26 := ⟨by decide +kernel, rfl⟩
theorem dX11_layTickets_26 : ml_d cX11_layTickets 26 (.invokestatic 260) 3 29 := ⟨by decide +kernel, rfl⟩
theorem dX11_layTickets_29 : ml_j cX11_layTickets 29 (.ifCond .eq) 52 32 := ⟨23, by decide +kernel, by decide, rfl⟩
theorem dX11_layTickets_32 : ml_d cX11_layTickets 32 (.aload_n 0) 1 33 := ⟨by decide +kernel, rfl⟩
theorem dX11_layTickets_33 : ml_d cX11_layTickets 33 (.getfield 77) 3 36 := ⟨by decide +kernel, rfl⟩
theorem dX11_layTickets_36 : ml_d cX11_layTickets 36 (.aload_n 0) 1 37 := ⟨by decide +kernel, rfl⟩
theorem dX11_layTickets_37 : ml_d cX11_layTickets 37 (.getfield 341) 3 40 := ⟨by decide +kernel, rfl⟩
theorem dX11_layTickets_40 : ml_d cX11_layTickets 40 (.iload_n 2) 1 41 := ⟨by decide +kernel, rfl⟩
theorem dX11_layTickets_41 : ml_d cX11_layTickets 41 (.iastore) 1 42 := ⟨by decide +kernel, rfl⟩
theorem dX11_layTickets_42 : ml_d cX11_layTickets 42 (.aload_n 0) 1 43 := ⟨by decide +kernel, rfl⟩
theorem dX11_layTickets_43 : ml_d cX11_layTickets 43 (.dup) 1 44 := ⟨by decide +kernel, rfl⟩
theorem dX11_layTickets_44 : ml_d cX11_layTickets 44 (.getfield 341) 3 47 := ⟨by decide +kernel, rfl⟩
theorem dX11_layTickets_47 : ml_d cX11_layTickets 47 (.iconst 1) 1 48 := ⟨by decide +kernel, rfl⟩
theorem dX11_layTickets_48 : ml_d cX11_layTickets 48 (.iadd) 1 49 := ⟨by decide +kernel, rfl⟩
theorem dX11_layTickets_49 : ml_d cX11_layTickets 49 (.putfield 341) 3 52 := ⟨by decide +kernel, rfl⟩
theorem dX11_layTickets_52 : ml_d cX11_layTickets 52 (.iinc 2 1) 3 55 := ⟨by decide +kernel, rfl⟩
theorem dX11_layTickets_55 : ml_j cX11_layTickets 55 .goto 7 58 := ⟨(-48), by decide +kernel, by decide, rfl⟩
theorem dX11_layTickets_58 : ml_d cX11_layTickets 58 (.aload_n 0) 1 59 := ⟨by decide +kernel, rfl⟩
theorem dX11_layTickets_59 : ml_d cX11_layTickets 59 (.getfield 341) 3 62 := ⟨by decide +kernel, rfl⟩
theorem dX11_layTickets_62 : ml_d cX11_layTickets 62 (.ireturn) 1 63 := ⟨by decide +kernel, rfl⟩
def fX11_layTickets_52 (k7 : Nat → Int32 → Int32 → ml_M → Option (Int32 × ml_M)) (l0 : Nat) (l1 : Int32) (l2 : Int32) (m : ml_M) : Option (Int32 × ml_M) :=
    k7 l0 l1 (l2 + (1 : Int32)) m
theorem vX11_layTickets_52 {E : ml_E} (hL : ml_eL E = 3) {rv : Int32} {rm : ml_M} (hr : ∀ (pc pc' : Nat) (lv : List (Nat × ml_X)), ml_d cX11_layTickets pc .ireturn 1 pc' → True → ml_V E "LostRoomModel" cX11_layTickets 3 false rm pc lv [ml_i rv]) {k7 : Nat → Int32 → Int32 → ml_M → Option (Int32 × ml_M)} (hk7 : ∀ (l0 : Nat) (l1 : Int32) (l2 : Int32) (m : ml_M), k7 l0 l1 l2 m = some (rv, rm) → ml_V E "LostRoomModel" cX11_layTickets 3 false m 7 [(0, ml_r l0), (1, ml_i l1), (2, ml_i l2)] []) : ∀ (l0 : Nat) (l1 : Int32) (l2 : Int32) (m : ml_M), fX11_layTickets_52 k7 l0 l1 l2 m = some (rv, rm) → ml_V E "LostRoomModel" cX11_layTickets 3 false m 52 [(0, ml_r l0), (1, ml_i l1), (2, ml_i l2)] [] := by
  intro l0 l1 l2 m h
  unfold fX11_layTickets_52 at h
  exact ml_iinc (lv' := [(2, ml_i (l2 + (1 : Int32))), (0, ml_r l0), (1, ml_i l1)]) dX11_layTickets_52 2 rfl (congrArg (l2 + ·) kc_i1) (ml_hn hL rfl) rfl <| ml_goto dX11_layTickets_55 <| ml_V.sub [1, 2, 0] rfl (hk7 _ _ _ _ h)
def fX11_layTickets_58 (l0 : Nat) (m : ml_M) : Option (Int32 × ml_M) :=
    if (ml_K m l0).1 = 11 then
    some ((ml_I m l0 41), m)
    else none
theorem vX11_layTickets_58 {E : ml_E} (hL : ml_eL E = 3) {rv : Int32} {rm : ml_M} (hr : ∀ (pc pc' : Nat) (lv : List (Nat × ml_X)), ml_d cX11_layTickets pc .ireturn 1 pc' → True → ml_V E "LostRoomModel" cX11_layTickets 3 false rm pc lv [ml_i rv]) : ∀ (l0 : Nat) (m : ml_M), fX11_layTickets_58 l0 m = some (rv, rm) → ml_V E "LostRoomModel" cX11_layTickets 3 false m 58 [(0, ml_r l0)] [] := by
  intro l0 m h
  unfold fX11_layTickets_58 at h
  exact ml_aload_n dX11_layTickets_58 0 rfl <| ml_ck_of h fun hc3469 h => ml_getI dX11_layTickets_59 wb_456 hc3469 <| ml_rI (mk := ml_i) hr dX11_layTickets_62 (fun _ => trivial) h
def fX11_layTickets_7 : Nat → Nat → Int32 → Int32 → ml_M → Option (Int32 × ml_M)
  | 0, _, _, _, _ => none
  | fu + 1, l0, l1, l2, m =>
    if (ml_K m l0).1 = 11 then
    if (ml_I m l0 24) ≤ l2 then
    fX11_layTickets_58 l0 m
    else
    ml_b1 (fX11_kind l0 l2 m) fun r3472 =>
    if r3472 = (4 : Int32) then
    ml_b1 (fX11_has l1 l2 m) fun r3474 =>
    if r3474 = 0 then
    fX11_layTickets_52 (fX11_layTickets_7 fu) l0 l1 l2 m
    else
    ml_let (ml_R m l0 42) fun a3475 =>
    if ml_in m a3475 20 (ml_I m l0 41) then
    ml_let (ml_sI m a3475 (ml_I m l0 41).toNatClampNeg l2) fun m3477 =>
    ml_let (ml_sI m3477 l0 41 ((ml_I m3477 l0 41) + (1 : Int32))) fun m3479 =>
    fX11_layTickets_52 (fX11_layTickets_7 fu) l0 l1 l2 m3479
    else none
    else
    fX11_layTickets_52 (fX11_layTickets_7 fu) l0 l1 l2 m
    else none
theorem vX11_layTickets_7 {E : ml_E} (hL : ml_eL E = 3) {rv : Int32} {rm : ml_M} (hr : ∀ (pc pc' : Nat) (lv : List (Nat × ml_X)), ml_d cX11_layTickets pc .ireturn 1 pc' → True → ml_V E "LostRoomModel" cX11_layTickets 3 false rm pc lv [ml_i rv]) : ∀ (fu : Nat) (l0 : Nat) (l1 : Int32) (l2 : Int32) (m : ml_M), fX11_layTickets_7 fu l0 l1 l2 m = some (rv, rm) → ml_V E "LostRoomModel" cX11_layTickets 3 false m 7 [(0, ml_r l0), (1, ml_i l1), (2, ml_i l2)] [] := by
  intro fu
  induction fu with
  | zero => intro l0 l1 l2 m h; exact ml_none h
  | succ fu ih =>
    intro l0 l1 l2 m h
    have hk7 := ih
    unfold fX11_layTickets_7 at h
    exact ml_iload_n dX11_layTickets_7 2 rfl <| ml_aload_n dX11_layTickets_8 0 rfl <| ml_ck_of h fun hc3470 h => ml_getI dX11_layTickets_9 wb_228 hc3470 <| ml_icmp_ge dX11_layTickets_12 h (fun _ h => ml_V.sub [0] rfl (vX11_layTickets_58 hL hr  _ _ h)) (fun _ h => ml_aload_n dX11_layTickets_15 0 rfl <| ml_iload_n dX11_layTickets_16 2 rfl <| ml_b1_of h fun r3472 hv3471 h => ml_callV dX11_layTickets_17 wm_420 wb_276 hc3470 (sX11_kind hv3471) rfl (Nat.le_of_ble_eq_true rfl) (Nat.le_of_ble_eq_true rfl) rfl <| ml_iconst dX11_layTickets_20 kc_i4 <| ml_icmp_ne dX11_layTickets_21 h (fun _ h => ml_V.sub [0, 1, 2] rfl (vX11_layTickets_52 hL hr hk7 _ _ _ _ h)) (fun _ h => ml_iload_n dX11_layTickets_24 1 rfl <| ml_iload_n dX11_layTickets_25 2 rfl <| ml_b1_of h fun r3474 hv3473 h => ml_callS dX11_layTickets_26 wm_492 wb_300 (sX11_has hv3473) rfl (Nat.le_of_ble_eq_true rfl) (Nat.le_of_ble_eq_true rfl) rfl <| ml_if_eq dX11_layTickets_29 h (fun _ h => ml_V.sub [0, 1, 2] rfl (vX11_layTickets_52 hL hr hk7 _ _ _ _ h)) (fun _ h => ml_aload_n dX11_layTickets_32 0 rfl <| ml_getR dX11_layTickets_33 wb_457 hc3470 <| ml_lx (mk := ml_r) h fun a3475 h => ml_aload_n dX11_layTickets_36 0 rfl <| ml_getI dX11_layTickets_37 wb_456 hc3470 <| ml_iload_n dX11_layTickets_40 2 rfl <| ml_ck_of h fun hi3476 h => ml_iast dX11_layTickets_41 hi3476 <| ml_lt (m := m) rfl h fun m3477 em3478 h => ml_aload_n dX11_layTickets_42 0 rfl <| ml_dup dX11_layTickets_43 rfl <| ml_getI dX11_layTickets_44 wb_456 (ml_kk em3478 hc3470) <| ml_iconst dX11_layTickets_47 kc_i1 <| ml_iadd dX11_layTickets_48 <| ml_putI dX11_layTickets_49 wb_458 (ml_kk em3478 hc3470) <| ml_lt (m := m3477) rfl h fun m3479 em3480 h => ml_V.sub [0, 1, 2] rfl (vX11_layTickets_52 hL hr hk7 _ _ _ _ h))))
def fX11_layTickets (l0 : Nat) (l1 : Int32) (m : ml_M) : Option (Int32 × ml_M) :=
    if (ml_K m l0).1 = 11 then
    ml_let (ml_sI m l0 41 (0 : Int32)) fun m3482 =>
    fX11_layTickets_7 ml_fu l0 l1 (0 : Int32) m3482
    else none
theorem wX11_layTickets_0 {E : ml_E} (hL : ml_eL E = 3) {rv : Int32} {rm : ml_M} (hr : ∀ (pc pc' : Nat) (lv : List (Nat × ml_X)), ml_d cX11_layTickets pc .ireturn 1 pc' → True → ml_V E "LostRoomModel" cX11_layTickets 3 false rm pc lv [ml_i rv]) : ∀ (l0 : Nat) (l1 : Int32) (m : ml_M), fX11_layTickets l0 l1 m = some (rv, rm) → ml_V E "LostRoomModel" cX11_layTickets 3 false m 0 [(0, ml_r l0), (1, ml_i l1)] [] := by
  intro l0 l1 m h
  unfold fX11_layTickets at h
  exact ml_aload_n dX11_layTickets_0 0 rfl <| ml_iconst dX11_layTickets_1 kc_i0 <| ml_ck_of h fun hc3481 h => ml_putI dX11_layTickets_2 wb_458 hc3481 <| ml_lt (m := m) rfl h fun m3482 em3483 h => ml_iconst dX11_layTickets_5 kc_i0 <| ml_istore_n (lv' := [(2, ml_i (0 : Int32)), (0, ml_r l0), (1, ml_i l1)]) dX11_layTickets_6 (ml_hn hL rfl) rfl <| ml_V.sub [1, 2, 0] rfl (vX11_layTickets_7 hL hr  ml_fu _ _ _ _ h)
theorem sX11_layTickets {l0 : Nat} {l1 : Int32} {m : ml_M} {rv : Int32} {rm : ml_M} (h : fX11_layTickets l0 l1 m = some (rv, rm)) : ml_Sn yX11_layTickets cX11_layTickets 3 (some .int) 3 [ml_r l0, ml_i l1] m (some (ml_i rv)) rm :=
  ml_Sn_of (P := True) (ini := false) (by decide +kernel) (Nat.le_of_ble_eq_true rfl) (fun h => by cases h) (fun _ => ml_RkI rv) fun E hL hr => wX11_layTickets_0 hL hr _ _ _ h
theorem dX11_earliest_0 : ml_d cX11_earliest 0 (.aload_n 0) 1 1 := ⟨by decide +kernel, rfl⟩
theorem dX11_earliest_1 : ml_d cX11_earliest 1 (.getfield 47) 3 4 := ⟨by decide +kernel, rfl⟩
theorem dX11_earliest_4 : ml_d cX11_earliest 4 (.bipush 7) 2 6 := ⟨by decide +kernel, rfl⟩
theorem dX11_earliest_6 : ml_d cX11_earliest 6 (.aload_n 0) 1 7 := ⟨by decide +kernel, rfl⟩
theorem dX11_earliest_7 : ml_d cX11_earliest 7 (.getfield 77) 3 10 := ⟨by decide +kernel, rfl⟩
theorem dX11_earliest_10 : ml_d cX11_earliest 10 (.iload_n 2) 1 11 := ⟨by decide +kernel, rfl⟩
theorem dX11_earliest_11 : ml_d cX11_earliest 11 (.iaload) 1 12 := ⟨by decide +kernel, rfl⟩
theorem dX11_earliest_12 : ml_d cX11_earliest 12 (.imul) 1 13 := ⟨by decide +kernel, rfl⟩
theorem dX11_earliest_13 : ml_d cX11_earliest 13 (.iconst 1) 1 14 := ⟨by decide +kernel, rfl⟩
theorem dX11_earliest_14 : ml_d cX11_earliest 14 (.iadd) 1 15 := ⟨by decide +kernel, rfl⟩
theorem dX11_earliest_15 : ml_d cX11_earliest 15 (.iaload) 1 16 := ⟨by decide +kernel, rfl⟩
theorem dX11_earliest_16 : ml_d cX11_earliest 16 (.istore_n 3) 1 17 := ⟨by decide +kernel, rfl⟩
theorem dX11_earliest_17 : ml_d cX11_earliest 17 (.aload_n 0) 1 18 := ⟨by decide +kernel, rfl⟩
theorem dX11_earliest_18 : ml_d cX11_earliest 18 (.getfield 47) 3 21 := ⟨by decide +kernel, rfl⟩
theorem dX11_earliest_21 : ml_d cX11_earliest 21 (.bipush 7) 2 23 := ⟨by decide +kernel, rfl⟩
theorem dX11_earliest_23 : ml_d cX11_earliest 23 (.aload_n 0) 1 24 := ⟨by decide +kernel, rfl⟩
theorem dX11_earliest_24 : ml_d cX11_earliest 24 (.getfield 77) 3 27 := ⟨by decide +kernel, rfl⟩
theorem dX11_earliest_27 : ml_d cX11_earliest 27 (.iload_n 2) 1 28 := ⟨by decide +kernel, rfl⟩
theorem dX11_earliest_28 : ml_d cX11_earliest 28 (.iaload) 1 29 := ⟨by decide +kernel, rfl⟩
theorem dX11_earliest_29 : ml_d cX11_earliest 29 (.imul) 1 30 := ⟨by decide +kernel, rfl⟩
theorem dX11_earliest_30 : ml_d cX11_earliest 30 (.iconst 2) 1 31 := ⟨by decide +kernel, rfl⟩
theorem dX11_earliest_31 : ml_d cX11_earliest 31 (.iadd) 1 32 := ⟨by decide +kernel, rfl⟩
theorem dX11_earliest_32 : ml_d cX11_earliest 32 (.iaload) 1 33 := ⟨by decide +kernel, rfl⟩
theorem dX11_earliest_33 : ml_d cX11_earliest 33 (.istore 4) 2 35 := ⟨by decide +kernel, rfl⟩
theorem dX11_earliest_35 : ml_d cX11_earliest 35 (.iload_n 1) 1 36 := ⟨by decide +kernel, rfl⟩
theorem dX11_earliest_36 : ml_j cX11_earliest 36 (.ifCond .ne) 41 39 := ⟨5, by decide +kernel, by decide, rfl⟩
theorem dX11_earliest_39 : ml_d cX11_earliest 39 (.iload_n 3) 1 40 := ⟨by decide +kernel, rfl⟩
theorem dX11_earliest_40 : ml_d cX11_earliest 40 (.ireturn) 1 41 := ⟨by decide +kernel, rfl⟩
theorem dX11_earliest_41 : ml_d cX11_earliest 41 (.sipush 1000) 3 44 := ⟨by decide +kernel, rfl⟩
theorem dX11_earliest_44 : ml_d cX11_earliest 44 (.istore 5) 2 46 := ⟨by decide +kernel, rfl⟩
theorem dX11_earliest_46 : ml_d cX11_earliest 46 (.iconst 0) 1 47 := ⟨by decide +kernel, rfl⟩
theorem dX11_earliest_47 : ml_d cX11_earliest 47 (.istore 6) 2 49 := ⟨by decide +kernel, rfl⟩
theorem dX11_earliest_49 : ml_d cX11_earliest 49 (.iload 6) 2 51 := ⟨by decide +kernel, rfl⟩
theorem dX11_earliest_51 : ml_d cX11_earliest 51 (.aload_n 0) 1 52 := ⟨by decide +kernel, rfl⟩
theorem dX11_earliest_52 : ml_d cX11_earliest 52 (.getfield 341) 3 55 := ⟨by decide +kernel, rfl⟩
theorem dX11_earliest_55 : ml_j cX11_earliest 55 (.if_icmp .ge) 172 58 := ⟨117, by decide +kernel, by decide, rfl⟩
theorem dX11_earliest_58 : ml_d cX11_earliest 58 (.iload_n 1) 1 59 := ⟨by decide +kernel, rfl⟩
theorem dX11_earliest_59 : ml_d cX11_earliest 59 (.iload 6) 2 61 := ⟨by decide +kernel, rfl⟩
theorem dX11_earliest_61 : ml_d cX11_earliest 61 (.invokestatic 260) 3 64 := ⟨by decide +kernel, rfl⟩
theorem dX11_earliest_64 : ml_j cX11_earliest 64 (.ifCond .eq) 101 67 := ⟨37, by decide +kernel, by decide, rfl⟩
theorem dX11_earliest_67 : ml_d cX11_earliest 67 (.aload_n 0) 1 68 := ⟨by decide +kernel, rfl⟩
theorem dX11_earliest_68 : ml_d cX11_earliest 68 (.aload_n 0) 1 69 := ⟨by decide +kernel, rfl⟩
theorem dX11_earliest_69 : ml_d cX11_earliest 69 (.getfield 77) 3 72 := ⟨by decide +kernel, rfl⟩
theorem dX11_earliest_72 : ml_d cX11_earliest 72 (.iload 6) 2 74 := ⟨by decide +kernel, rfl⟩
theorem dX11_earliest_74 : ml_d cX11_earliest 74 (.iaload) 1 75 := ⟨by decide +kernel, rfl⟩
theorem dX11_earliest_75 : ml_d cX11_earliest 75 (.invokevirtual 226) 3 78 := ⟨by decide +kernel, rfl⟩
theorem dX11_earliest_78 : ml_d cX11_earliest 78 (.bipush 10) 2 80 := ⟨by decide +kernel, rfl⟩
theorem dX11_earliest_80 : ml_d cX11_earliest 80 (.irem) 1 81 := ⟨by decide +kernel, rfl⟩
theorem dX11_earliest_81 : ml_d cX11_earliest 81 (.aload_n 0) 1 82 := ⟨by decide +kernel, rfl⟩
theorem dX11_earliest_82 : ml_d cX11_earliest 82 (.aload_n 0) 1 83 := ⟨by decide +kernel, rfl⟩
theorem dX11_earliest_83 : ml_d cX11_earliest 83 (.getfield 77) 3 86 := ⟨by decide +kernel, rfl⟩
theorem dX11_earliest_86 : ml_d cX11_earliest 86 (.iload_n 2) 1 87 := ⟨by decide +kernel, rfl⟩
theorem dX11_earliest_87 : ml_d cX11_earliest 87 (.iaload) 1 88 := ⟨by decide +kernel, rfl⟩
theorem dX11_earliest_88 : ml_d cX11_earliest 88 (.invokevirtual 226) 3 91 := ⟨by decide +kernel, rfl⟩
theorem dX11_earliest_91 : ml_d cX11_earliest 91 (.bipush 10) 2 93 := ⟨by decide +kernel, rfl⟩
theorem dX11_earliest_93 : ml_d cX11_earliest 93 (.idiv) 1 94 := ⟨by decide +kernel, rfl⟩
theorem dX11_earliest_94 : ml_j cX11_earliest 94 (.if_icmp .ne) 101 97 := ⟨7, by decide +kernel, by decide, rfl⟩
theorem dX11_earliest_97 : ml_d cX11_earliest 97 (.iconst 1) 1 98 := ⟨by decide +kernel, rfl⟩
theorem dX11_earliest_98 : ml_j cX11_earliest 98 .goto 102 101 := ⟨4, by decide +kernel, by decide, rfl⟩
theorem dX11_earliest_101 : ml_d cX11_earliest 101 (.iconst 0) 1 102 := ⟨by decide +kernel, rfl⟩
theorem dX11_earliest_102 : ml_d cX11_earliest 102 (.istore 7) 2 104 := ⟨by decide +kernel, rfl⟩
theorem dX11_earliest_104 : ml_d cX11_earliest 104 (.iload 7) 2 106 := ⟨by decide +kernel, rfl⟩
theorem dX11_earliest_106 : ml_j cX11_earliest 106 (.ifCond .eq) 124 109 := ⟨18, by decide +kernel, by decide, rfl⟩
theorem dX11_earliest_109 : ml_d cX11_earliest 109 (.aload_n 0) 1 110 := ⟨by decide +kernel, rfl⟩
theorem dX11_earliest_110 : ml_d cX11_earliest 110 (.getfield 80) 3 113 := ⟨by decide +kernel, rfl⟩
theorem dX11_earliest_113 : ml_d cX11_earliest 113 (.bipush 10) 2 115 := ⟨by decide +kernel, rfl⟩
theorem dX11_earliest_115 : ml_d cX11_earliest 115 (.iload_n 1) 1 116 := ⟨by decide +kernel, rfl⟩
theorem dX11_earliest_116 : ml_d cX11_earliest 116 (.imul) 1 117 := ⟨by decide +kernel, rfl⟩
theorem dX11_earliest_117 : ml_d cX11_earliest 117 (.iload 6) 2 119 := ⟨by decide +kernel, rfl⟩
theorem dX11_earliest_119 : ml_d cX11_earliest 119 (.iadd) 1 120 := ⟨by decide +kernel, rfl⟩
theorem dX11_earliest_120 : ml_d cX11_earliest 120 (.iaload) 1 121 := ⟨by decide +kernel, rfl⟩
theorem dX11_earliest_121 : ml_j cX11_earliest 121 .goto 127 124 := ⟨6, by decide +kernel, by decide, rfl⟩
theorem dX11_earliest_124 : ml_d cX11_earliest 124 (.sipush 1000) 3 127 := ⟨by decide +kernel, rfl⟩
theorem dX11_earliest_127 : ml_d cX11_earliest 127 (.istore 8) 2 129 := ⟨by decide +kernel, rfl⟩
theorem dX11_earliest_129 : ml_d cX11_earliest 129 (.iload 8) 2 131 := ⟨by decide +kernel, rfl⟩
theorem dX11_earliest_131 : ml_d cX11_earliest 131 (.iload_n 3) 1 132 := ⟨by decide +kernel, rfl⟩
theorem dX11_earliest_132 : ml_j cX11_earliest 132 (.if_icmp .le) 140 135 := ⟨8, by decide +kernel, by decide, rfl⟩
theorem dX11_earliest_135 : ml_d cX11_earliest 135 (.iload 8) 2 137 := ⟨by decide +kernel, rfl⟩
theorem dX11_earliest_137 : ml_j cX11_earliest 137 .goto 141 140 := ⟨4, by decide +kernel, by decide, rfl⟩
theorem dX11_earliest_140 : ml_d cX11_earliest 140 (.iload_n 3) 1 141 := ⟨by decide +kernel, rfl⟩
theorem dX11_earliest_141 : ml_d cX11_earliest 141 (.istore 9) 2 143 := ⟨by decide +kernel, rfl⟩
theorem dX11_earliest_143 : ml_d cX11_earliest 143 (.iload 9) 2 145 := ⟨by decide +kernel, rfl⟩
theorem dX11_earliest_145 : ml_d cX11_earliest 145 (.iload 4) 2 147 := ⟨by decide +kernel, rfl⟩
theorem dX11_earliest_147 : ml_j cX11_earliest 147 (.if_icmp .gt) 162 150 := ⟨15, by decide +kernel, by decide, rfl⟩
theorem dX11_earliest_150 : ml_d cX11_earliest 150 (.iload 9) 2 152 := ⟨by decide +kernel, rfl⟩
theorem dX11_earliest_152 : ml_d cX11_earliest 152 (.iload 5) 2 154 := ⟨by decide +kernel, rfl⟩
theorem dX11_earliest_154 : ml_j cX11_earliest 154 (.if_icmp .ge) 162 157 := ⟨8, by decide +kernel, by decide, rfl⟩
theorem dX11_earliest_157 : ml_d cX11_earliest 157 (.iload 9) 2 159 := ⟨by decide +kernel, rfl⟩
theorem dX11_earliest_159 : ml_j cX11_earliest 159 .goto 164 162 := ⟨5, by decide +kernel, by decide, rfl⟩
theorem dX11_earliest_162 : ml_d cX11_earliest 162 (.iload 5) 2 164 := ⟨by decide +kernel, rfl⟩
theorem dX11_earliest_164 : ml_d cX11_earliest 164 (.istore 5) 2 166 := ⟨by decide +kernel, rfl⟩
theorem dX11_earliest_166 : ml_d cX11_earliest 166 (.iinc 6 1) 3 169 := ⟨by decide +kernel, rfl⟩
theorem dX11_earliest_169 : ml_j cX11_earliest 169 .goto 49 172 := ⟨(-120), by decide +kernel, by decide, rfl⟩
theorem dX11_earliest_172 : ml_d cX11_earliest 172 (.iload 5) 2 174 := ⟨by decide +kernel, rfl⟩
theorem dX11_earliest_174 : ml_d cX11_earliest 174 (.ireturn) 1 175 := ⟨by decide +kernel, rfl⟩
def fX11_earliest_164 (k49 : Nat → Int32 → Int32 → Int32 → Int32 → Int32 → Int32 → ml_M → Option Int32) (l0 : Nat) (l1 : Int32) (l2 : Int32) (l3 : Int32) (l4 : Int32) (l6 : Int32) (t0 : Int32) (m : ml_M) : Option Int32 :=
    k49 l0 l1 l2 l3 l4 t0 (l6 + (1 : Int32)) m
theorem vX11_earliest_164 {E : ml_E} (hL : ml_eL E = 10) {rv : Int32} {m : ml_M} (hr : ∀ (pc pc' : Nat) (lv : List (Nat × ml_X)), ml_d cX11_earliest pc .ireturn 1 pc' → True → ml_V E "LostRoomModel" cX11_earliest 3 false m pc lv [ml_i rv]) {k49 : Nat → Int32 → Int32 → Int32 → Int32 → Int32 → Int32 → ml_M → Option Int32} (hk49 : ∀ (l0 : Nat) (l1 : Int32) (l2 : Int32) (l3 : Int32) (l4 : Int32) (l5 : Int32) (l6 : Int32), k49 l0 l1 l2 l3 l4 l5 l6 m = some rv → ml_V E "LostRoomModel" cX11_earliest 3 false m 49 [(0, ml_r l0), (1, ml_i l1), (2, ml_i l2), (3, ml_i l3), (4, ml_i l4), (5, ml_i l5), (6, ml_i l6)] []) : ∀ (l0 : Nat) (l1 : Int32) (l2 : Int32) (l3 : Int32) (l4 : Int32) (l6 : Int32) (t0 : Int32), fX11_earliest_164 k49 l0 l1 l2 l3 l4 l6 t0 m = some rv → ml_V E "LostRoomModel" cX11_earliest 3 false m 164 [(0, ml_r l0), (1, ml_i l1), (2, ml_i l2), (3, ml_i l3), (4, ml_i l4), (6, ml_i l6)] [ml_i t0] := by
  intro l0 l1 l2 l3 l4 l6 t0 h
  unfold fX11_earliest_164 at h
  exact ml_istore (lv' := [(5, ml_i t0), (0, ml_r l0), (1, ml_i l1), (2, ml_i l2), (3, ml_i l3), (4, ml_i l4), (6, ml_i l6)]) dX11_earliest_164 (ml_hn hL rfl) rfl <| ml_iinc (lv' := [(6, ml_i (l6 + (1 : Int32))), (5, ml_i t0), (0, ml_r l0), (1, ml_i l1), (2, ml_i l2), (3, ml_i l3), (4, ml_i l4)]) dX11_earliest_166 6 rfl (congrArg (l6 + ·) kc_i1) (ml_hn hL rfl) rfl <| ml_goto dX11_earliest_169 <| ml_V.sub [2, 3, 4, 5, 6, 1, 0] rfl (hk49 _ _ _ _ _ _ _ h)
def fX11_earliest_162 (k49 : Nat → Int32 → Int32 → Int32 → Int32 → Int32 → Int32 → ml_M → Option Int32) (l0 : Nat) (l1 : Int32) (l2 : Int32) (l3 : Int32) (l4 : Int32) (l5 : Int32) (l6 : Int32) (m : ml_M) : Option Int32 :=
    fX11_earliest_164 k49 l0 l1 l2 l3 l4 l6 l5 m
theorem vX11_earliest_162 {E : ml_E} (hL : ml_eL E = 10) {rv : Int32} {m : ml_M} (hr : ∀ (pc pc' : Nat) (lv : List (Nat × ml_X)), ml_d cX11_earliest pc .ireturn 1 pc' → True → ml_V E "LostRoomModel" cX11_earliest 3 false m pc lv [ml_i rv]) {k49 : Nat → Int32 → Int32 → Int32 → Int32 → Int32 → Int32 → ml_M → Option Int32} (hk49 : ∀ (l0 : Nat) (l1 : Int32) (l2 : Int32) (l3 : Int32) (l4 : Int32) (l5 : Int32) (l6 : Int32), k49 l0 l1 l2 l3 l4 l5 l6 m = some rv → ml_V E "LostRoomModel" cX11_earliest 3 false m 49 [(0, ml_r l0), (1, ml_i l1), (2, ml_i l2), (3, ml_i l3), (4, ml_i l4), (5, ml_i l5), (6, ml_i l6)] []) : ∀ (l0 : Nat) (l1 : Int32) (l2 : Int32) (l3 : Int32) (l4 : Int32) (l5 : Int32) (l6 : Int32), fX11_earliest_162 k49 l0 l1 l2 l3 l4 l5 l6 m = some rv → ml_V E "LostRoomModel" cX11_earliest 3 false m 162 [(0, ml_r l0), (1, ml_i l1), (2, ml_i l2), (3, ml_i l3), (4, ml_i l4), (5, ml_i l5), (6, ml_i l6)] [] := by
  intro l0 l1 l2 l3 l4 l5 l6 h
  unfold fX11_earliest_162 at h
  exact ml_iload dX11_earliest_162 5 rfl <| ml_V.sub [0, 1, 2, 3, 4, 6] rfl (vX11_earliest_164 hL hr hk49 _ _ _ _ _ _ _ h)
def fX11_earliest_141 (k49 : Nat → Int32 → Int32 → Int32 → Int32 → Int32 → Int32 → ml_M → Option Int32) (l0 : Nat) (l1 : Int32) (l2 : Int32) (l3 : Int32) (l4 : Int32) (l5 : Int32) (l6 : Int32) (t0 : Int32) (m : ml_M) : Option Int32 :=
    if l4 < t0 then
    fX11_earliest_162 k49 l0 l1 l2 l3 l4 l5 l6 m
    else
    if l5 ≤ t0 then
    fX11_earliest_162 k49 l0 l1 l2 l3 l4 l5 l6 m
    else
    fX11_earliest_164 k49 l0 l1 l2 l3 l4 l6 t0 m
theorem vX11_earliest_141 {E : ml_E} (hL : ml_eL E = 10) {rv : Int32} {m : ml_M} (hr : ∀ (pc pc' : Nat) (lv : List (Nat × ml_X)), ml_d cX11_earliest pc .ireturn 1 pc' → True → ml_V E "LostRoomModel" cX11_earliest 3 false m pc lv [ml_i rv]) {k49 : Nat → Int32 → Int32 → Int32 → Int32 → Int32 → Int32 → ml_M → Option Int32} (hk49 : ∀ (l0 : Nat) (l1 : Int32) (l2 : Int32) (l3 : Int32) (l4 : Int32) (l5 : Int32) (l6 : Int32), k49 l0 l1 l2 l3 l4 l5 l6 m = some rv → ml_V E "LostRoomModel" cX11_earliest 3 false m 49 [(0, ml_r l0), (1, ml_i l1), (2, ml_i l2), (3, ml_i l3), (4, ml_i l4), (5, ml_i l5), (6, ml_i l6)] []) : ∀ (l0 : Nat) (l1 : Int32) (l2 : Int32) (l3 : Int32) (l4 : Int32) (l5 : Int32) (l6 : Int32) (t0 : Int32), fX11_earliest_141 k49 l0 l1 l2 l3 l4 l5 l6 t0 m = some rv → ml_V E "LostRoomModel" cX11_earliest 3 false m 141 [(0, ml_r l0), (1, ml_i l1), (2, ml_i l2), (3, ml_i l3), (4, ml_i l4), (5, ml_i l5), (6, ml_i l6)] [ml_i t0] := by
  intro l0 l1 l2 l3 l4 l5 l6 t0 h
  unfold fX11_earliest_141 at h
  exact ml_istore (lv' := [(9, ml_i t0), (0, ml_r l0), (1, ml_i l1), (2, ml_i l2), (3, ml_i l3), (4, ml_i l4), (5, ml_i l5), (6, ml_i l6)]) dX11_earliest_141 (ml_hn hL rfl) rfl <| ml_iload dX11_earliest_143 0 rfl <| ml_iload dX11_earliest_145 5 rfl <| ml_icmp_gt dX11_earliest_147 h (fun _ h => ml_V.sub [1, 2, 3, 4, 5, 6, 7] rfl (vX11_earliest_162 hL hr hk49 _ _ _ _ _ _ _ h)) (fun _ h => ml_iload dX11_earliest_150 0 rfl <| ml_iload dX11_earliest_152 6 rfl <| ml_icmp_ge dX11_earliest_154 h (fun _ h => ml_V.sub [1, 2, 3, 4, 5, 6, 7] rfl (vX11_earliest_162 hL hr hk49 _ _ _ _ _ _ _ h)) (fun _ h => ml_iload dX11_earliest_157 0 rfl <| ml_goto dX11_earliest_159 <| ml_V.sub [1, 2, 3, 4, 5, 7] rfl (vX11_earliest_164 hL hr hk49 _ _ _ _ _ _ _ h)))
def fX11_earliest_127 (k49 : Nat → Int32 → Int32 → Int32 → Int32 → Int32 → Int32 → ml_M → Option Int32) (l0 : Nat) (l1 : Int32) (l2 : Int32) (l3 : Int32) (l4 : Int32) (l5 : Int32) (l6 : Int32) (t0 : Int32) (m : ml_M) : Option Int32 :=
    if t0 ≤ l3 then
    fX11_earliest_141 k49 l0 l1 l2 l3 l4 l5 l6 l3 m
    else
    fX11_earliest_141 k49 l0 l1 l2 l3 l4 l5 l6 t0 m
theorem vX11_earliest_127 {E : ml_E} (hL : ml_eL E = 10) {rv : Int32} {m : ml_M} (hr : ∀ (pc pc' : Nat) (lv : List (Nat × ml_X)), ml_d cX11_earliest pc .ireturn 1 pc' → True → ml_V E "LostRoomModel" cX11_earliest 3 false m pc lv [ml_i rv]) {k49 : Nat → Int32 → Int32 → Int32 → Int32 → Int32 → Int32 → ml_M → Option Int32} (hk49 : ∀ (l0 : Nat) (l1 : Int32) (l2 : Int32) (l3 : Int32) (l4 : Int32) (l5 : Int32) (l6 : Int32), k49 l0 l1 l2 l3 l4 l5 l6 m = some rv → ml_V E "LostRoomModel" cX11_earliest 3 false m 49 [(0, ml_r l0), (1, ml_i l1), (2, ml_i l2), (3, ml_i l3), (4, ml_i l4), (5, ml_i l5), (6, ml_i l6)] []) : ∀ (l0 : Nat) (l1 : Int32) (l2 : Int32) (l3 : Int32) (l4 : Int32) (l5 : Int32) (l6 : Int32) (t0 : Int32), fX11_earliest_127 k49 l0 l1 l2 l3 l4 l5 l6 t0 m = some rv → ml_V E "LostRoomModel" cX11_earliest 3 false m 127 [(0, ml_r l0), (1, ml_i l1), (2, ml_i l2), (3, ml_i l3), (4, ml_i l4), (5, ml_i l5), (6, ml_i l6)] [ml_i t0] := by
  intro l0 l1 l2 l3 l4 l5 l6 t0 h
  unfold fX11_earliest_127 at h
  exact ml_istore (lv' := [(8, ml_i t0), (0, ml_r l0), (1, ml_i l1), (2, ml_i l2), (3, ml_i l3), (4, ml_i l4), (5, ml_i l5), (6, ml_i l6)]) dX11_earliest_127 (ml_hn hL rfl) rfl <| ml_iload dX11_earliest_129 0 rfl <| ml_iload_n dX11_earliest_131 4 rfl <| ml_icmp_le dX11_earliest_132 h (fun _ h => ml_iload_n dX11_earliest_140 4 rfl <| ml_V.sub [1, 2, 3, 4, 5, 6, 7] rfl (vX11_earliest_141 hL hr hk49 _ _ _ _ _ _ _ _ h)) (fun _ h => ml_iload dX11_earliest_135 0 rfl <| ml_goto dX11_earliest_137 <| ml_V.sub [1, 2, 3, 4, 5, 6, 7] rfl (vX11_earliest_141 hL hr hk49 _ _ _ _ _ _ _ _ h))
def fX11_earliest_102 (k49 : Nat → Int32 → Int32 → Int32 → Int32 → Int32 → Int32 → ml_M → Option Int32) (l0 : Nat) (l1 : Int32) (l2 : Int32) (l3 : Int32) (l4 : Int32) (l5 : Int32) (l6 : Int32) (t0 : Int32) (m : ml_M) : Option Int32 :=
    if t0 = 0 then
    fX11_earliest_127 k49 l0 l1 l2 l3 l4 l5 l6 (1000 : Int32) m
    else
    if (ml_K m l0).1 = 11 then
    ml_let (ml_R m l0 43) fun a3485 =>
    if ml_in m a3485 20 (((10 : Int32) * l1) + l6) then
    fX11_earliest_127 k49 l0 l1 l2 l3 l4 l5 l6 (ml_I m a3485 (((10 : Int32) * l1) + l6).toNatClampNeg) m
    else none
    else none
theorem vX11_earliest_102 {E : ml_E} (hL : ml_eL E = 10) {rv : Int32} {m : ml_M} (hr : ∀ (pc pc' : Nat) (lv : List (Nat × ml_X)), ml_d cX11_earliest pc .ireturn 1 pc' → True → ml_V E "LostRoomModel" cX11_earliest 3 false m pc lv [ml_i rv]) {k49 : Nat → Int32 → Int32 → Int32 → Int32 → Int32 → Int32 → ml_M → Option Int32} (hk49 : ∀ (l0 : Nat) (l1 : Int32) (l2 : Int32) (l3 : Int32) (l4 : Int32) (l5 : Int32) (l6 : Int32), k49 l0 l1 l2 l3 l4 l5 l6 m = some rv → ml_V E "LostRoomModel" cX11_earliest 3 false m 49 [(0, ml_r l0), (1, ml_i l1), (2, ml_i l2), (3, ml_i l3), (4, ml_i l4), (5, ml_i l5), (6, ml_i l6)] []) : ∀ (l0 : Nat) (l1 : Int32) (l2 : Int32) (l3 : Int32) (l4 : Int32) (l5 : Int32) (l6 : Int32) (t0 : Int32), fX11_earliest_102 k49 l0 l1 l2 l3 l4 l5 l6 t0 m = some rv → ml_V E "LostRoomModel" cX11_earliest 3 false m 102 [(0, ml_r l0), (1, ml_i l1), (2, ml_i l2), (3, ml_i l3), (4, ml_i l4), (5, ml_i l5), (6, ml_i l6)] [ml_i t0] := by
  intro l0 l1 l2 l3 l4 l5 l6 t0 h
  unfold fX11_earliest_102 at h
  exact ml_istore (lv' := [(7, ml_i t0), (0, ml_r l0), (1, ml_i l1), (2, ml_i l2), (3, ml_i l3), (4, ml_i l4), (5, ml_i l5), (6, ml_i l6)]) dX11_earliest_102 (ml_hn hL rfl) rfl <| ml_iload dX11_earliest_104 0 rfl <| ml_if_eq dX11_earliest_106 h (fun _ h => ml_sipush dX11_earliest_124 kc_s1000 <| ml_V.sub [1, 2, 3, 4, 5, 6, 7] rfl (vX11_earliest_127 hL hr hk49 _ _ _ _ _ _ _ _ h)) (fun _ h => ml_aload_n dX11_earliest_109 1 rfl <| ml_ck_of h fun hc3484 h => ml_getR dX11_earliest_110 wb_459 hc3484 <| ml_lx (mk := ml_r) h fun a3485 h => ml_bipush dX11_earliest_113 kc_b10 <| ml_iload_n dX11_earliest_115 2 rfl <| ml_imul dX11_earliest_116 <| ml_iload dX11_earliest_117 7 rfl <| ml_iadd dX11_earliest_119 <| ml_ck_of h fun hi3486 h => ml_iald dX11_earliest_120 hi3486 <| ml_goto dX11_earliest_121 <| ml_V.sub [1, 2, 3, 4, 5, 6, 7] rfl (vX11_earliest_127 hL hr hk49 _ _ _ _ _ _ _ _ h))
def fX11_earliest_101 (k49 : Nat → Int32 → Int32 → Int32 → Int32 → Int32 → Int32 → ml_M → Option Int32) (l0 : Nat) (l1 : Int32) (l2 : Int32) (l3 : Int32) (l4 : Int32) (l5 : Int32) (l6 : Int32) (m : ml_M) : Option Int32 :=
    fX11_earliest_102 k49 l0 l1 l2 l3 l4 l5 l6 (0 : Int32) m
theorem vX11_earliest_101 {E : ml_E} (hL : ml_eL E = 10) {rv : Int32} {m : ml_M} (hr : ∀ (pc pc' : Nat) (lv : List (Nat × ml_X)), ml_d cX11_earliest pc .ireturn 1 pc' → True → ml_V E "LostRoomModel" cX11_earliest 3 false m pc lv [ml_i rv]) {k49 : Nat → Int32 → Int32 → Int32 → Int32 → Int32 → Int32 → ml_M → Option Int32} (hk49 : ∀ (l0 : Nat) (l1 : Int32) (l2 : Int32) (l3 : Int32) (l4 : Int32) (l5 : Int32) (l6 : Int32), k49 l0 l1 l2 l3 l4 l5 l6 m = some rv → ml_V E "LostRoomModel" cX11_earliest 3 false m 49 [(0, ml_r l0), (1, ml_i l1), (2, ml_i l2), (3, ml_i l3), (4, ml_i l4), (5, ml_i l5), (6, ml_i l6)] []) : ∀ (l0 : Nat) (l1 : Int32) (l2 : Int32) (l3 : Int32) (l4 : Int32) (l5 : Int32) (l6 : Int32), fX11_earliest_101 k49 l0 l1 l2 l3 l4 l5 l6 m = some rv → ml_V E "LostRoomModel" cX11_earliest 3 false m 101 [(0, ml_r l0), (1, ml_i l1), (2, ml_i l2), (3, ml_i l3), (4, ml_i l4), (5, ml_i l5), (6, ml_i l6)] [] := by
  intro l0 l1 l2 l3 l4 l5 l6 h
  unfold fX11_earliest_101 at h
  exact ml_iconst dX11_earliest_101 kc_i0 <| ml_V.sub [0, 1, 2, 3, 4, 5, 6] rfl (vX11_earliest_102 hL hr hk49 _ _ _ _ _ _ _ _ h)
def fX11_earliest_49 : Nat → Nat → Int32 → Int32 → Int32 → Int32 → Int32 → Int32 → ml_M → Option Int32
  | 0, _, _, _, _, _, _, _, _ => none
  | fu + 1, l0, l1, l2, l3, l4, l5, l6, m =>
    if (ml_K m l0).1 = 11 then
    if (ml_I m l0 41) ≤ l6 then
    some l5
    else
    ml_b1 (fX11_has l1 l6 m) fun r3489 =>
    if r3489 = 0 then
    fX11_earliest_101 (fX11_earliest_49 fu) l0 l1 l2 l3 l4 l5 l6 m
    else
    ml_let (ml_R m l0 42) fun a3490 =>
    if ml_in m a3490 20 l6 then
    ml_b1 (fX11_x l0 (ml_I m a3490 l6.toNatClampNeg) m) fun r3493 =>
    ml_let (ml_R m l0 42) fun a3494 =>
    if ml_in m a3494 20 l2 then
    ml_b1 (fX11_x l0 (ml_I m a3494 l2.toNatClampNeg) m) fun r3497 =>
    if (r3493 - r3493 / (10 : Int32) * (10 : Int32)) = (r3497 / (10 : Int32)) then
    fX11_earliest_102 (fX11_earliest_49 fu) l0 l1 l2 l3 l4 l5 l6 (1 : Int32) m
    else
    fX11_earliest_101 (fX11_earliest_49 fu) l0 l1 l2 l3 l4 l5 l6 m
    else none
    else none
    else none
theorem vX11_earliest_49 {E : ml_E} (hL : ml_eL E = 10) {rv : Int32} {m : ml_M} (hr : ∀ (pc pc' : Nat) (lv : List (Nat × ml_X)), ml_d cX11_earliest pc .ireturn 1 pc' → True → ml_V E "LostRoomModel" cX11_earliest 3 false m pc lv [ml_i rv]) : ∀ (fu : Nat) (l0 : Nat) (l1 : Int32) (l2 : Int32) (l3 : Int32) (l4 : Int32) (l5 : Int32) (l6 : Int32), fX11_earliest_49 fu l0 l1 l2 l3 l4 l5 l6 m = some rv → ml_V E "LostRoomModel" cX11_earliest 3 false m 49 [(0, ml_r l0), (1, ml_i l1), (2, ml_i l2), (3, ml_i l3), (4, ml_i l4), (5, ml_i l5), (6, ml_i l6)] [] := by
  intro fu
  induction fu with
  | zero => intro l0 l1 l2 l3 l4 l5 l6 h; exact ml_none h
  | succ fu ih =>
    intro l0 l1 l2 l3 l4 l5 l6 h
    have hk49 := ih
    unfold fX11_earliest_49 at h
    exact ml_iload dX11_earliest_49 6 rfl <| ml_aload_n dX11_earliest_51 0 rfl <| ml_ck_of h fun hc3487 h => ml_getI dX11_earliest_52 wb_456 hc3487 <| ml_icmp_ge dX11_earliest_55 h (fun _ h => ml_iload dX11_earliest_172 5 rfl <| ml_rp (mk := ml_i) hr dX11_earliest_174 (fun _ => trivial) h) (fun _ h => ml_iload_n dX11_earliest_58 1 rfl <| ml_iload dX11_earliest_59 6 rfl <| ml_b1_of h fun r3489 hv3488 h => ml_callS dX11_earliest_61 wm_492 wb_300 (sX11_has hv3488) rfl (Nat.le_of_ble_eq_true rfl) (Nat.le_of_ble_eq_true rfl) rfl <| ml_if_eq dX11_earliest_64 h (fun _ h => ml_V.sub [0, 1, 2, 3, 4, 5, 6] rfl (vX11_earliest_101 hL hr hk49 _ _ _ _ _ _ _ h)) (fun _ h => ml_aload_n dX11_earliest_67 0 rfl <| ml_aload_n dX11_earliest_68 0 rfl <| ml_getR dX11_earliest_69 wb_457 hc3487 <| ml_lx (mk := ml_r) h fun a3490 h => ml_iload dX11_earliest_72 6 rfl <| ml_ck_of h fun hi3491 h => ml_iald dX11_earliest_74 hi3491 <| ml_b1_of h fun r3493 hv3492 h => ml_callV dX11_earliest_75 wm_424 wb_277 hc3487 (sX11_x hv3492) rfl (Nat.le_of_ble_eq_true rfl) (Nat.le_of_ble_eq_true rfl) rfl <| ml_bipush dX11_earliest_78 kc_b10 <| ml_irem dX11_earliest_80 (by decide) <| ml_aload_n dX11_earliest_81 0 rfl <| ml_aload_n dX11_earliest_82 0 rfl <| ml_getR dX11_earliest_83 wb_457 hc3487 <| ml_lx (mk := ml_r) h fun a3494 h => ml_iload_n dX11_earliest_86 2 rfl <| ml_ck_of h fun hi3495 h => ml_iald dX11_earliest_87 hi3495 <| ml_b1_of h fun r3497 hv3496 h => ml_callV dX11_earliest_88 wm_424 wb_277 hc3487 (sX11_x hv3496) rfl (Nat.le_of_ble_eq_true rfl) (Nat.le_of_ble_eq_true rfl) rfl <| ml_bipush dX11_earliest_91 kc_b10 <| ml_idiv dX11_earliest_93 (by decide) <| ml_icmp_ne dX11_earliest_94 h (fun _ h => ml_V.sub [0, 1, 2, 3, 4, 5, 6] rfl (vX11_earliest_101 hL hr hk49 _ _ _ _ _ _ _ h)) (fun _ h => ml_iconst dX11_earliest_97 kc_i1 <| ml_goto dX11_earliest_98 <| ml_V.sub [0, 1, 2, 3, 4, 5, 6] rfl (vX11_earliest_102 hL hr hk49 _ _ _ _ _ _ _ _ h))))
def fX11_earliest (l0 : Nat) (l1 : Int32) (l2 : Int32) (m : ml_M) : Option Int32 :=
    if (ml_K m l0).1 = 11 then
    ml_let (ml_R m l0 25) fun a3499 =>
    ml_let (ml_R m l0 42) fun a3500 =>
    if ml_in m a3500 20 l2 then
    if ml_in m a3499 20 (((7 : Int32) * (ml_I m a3500 l2.toNatClampNeg)) + (1 : Int32)) then
    ml_let (ml_I m a3499 (((7 : Int32) * (ml_I m a3500 l2.toNatClampNeg)) + (1 : Int32)).toNatClampNeg) fun x3503 =>
    ml_let (ml_R m l0 25) fun a3504 =>
    ml_let (ml_R m l0 42) fun a3505 =>
    if ml_in m a3505 20 l2 then
    if ml_in m a3504 20 (((7 : Int32) * (ml_I m a3505 l2.toNatClampNeg)) + (2 : Int32)) then
    ml_let (ml_I m a3504 (((7 : Int32) * (ml_I m a3505 l2.toNatClampNeg)) + (2 : Int32)).toNatClampNeg) fun x3508 =>
    if l1 = 0 then
    some x3503
    else
    fX11_earliest_49 ml_fu l0 l1 l2 x3503 x3508 (1000 : Int32) (0 : Int32) m
    else none
    else none
    else none
    else none
    else none
theorem wX11_earliest_0 {E : ml_E} (hL : ml_eL E = 10) {rv : Int32} {m : ml_M} (hr : ∀ (pc pc' : Nat) (lv : List (Nat × ml_X)), ml_d cX11_earliest pc .ireturn 1 pc' → True → ml_V E "LostRoomModel" cX11_earliest 3 false m pc lv [ml_i rv]) : ∀ (l0 : Nat) (l1 : Int32) (l2 : Int32), fX11_earliest l0 l1 l2 m = some rv → ml_V E "LostRoomModel" cX11_earliest 3 false m 0 [(0, ml_r l0), (1, ml_i l1), (2, ml_i l2)] [] := by
  intro l0 l1 l2 h
  unfold fX11_earliest at h
  exact ml_aload_n dX11_earliest_0 0 rfl <| ml_ck_of h fun hc3498 h => ml_getR dX11_earliest_1 wb_227 hc3498 <| ml_lx (mk := ml_r) h fun a3499 h => ml_bipush dX11_earliest_4 kc_b7 <| ml_aload_n dX11_earliest_6 0 rfl <| ml_getR dX11_earliest_7 wb_457 hc3498 <| ml_lx (mk := ml_r) h fun a3500 h => ml_iload_n dX11_earliest_10 2 rfl <| ml_ck_of h fun hi3501 h => ml_iald dX11_earliest_11 hi3501 <| ml_imul dX11_earliest_12 <| ml_iconst dX11_earliest_13 kc_i1 <| ml_iadd dX11_earliest_14 <| ml_ck_of h fun hi3502 h => ml_iald dX11_earliest_15 hi3502 <| ml_lx (mk := ml_i) h fun x3503 h => ml_istore_n (lv' := [(3, ml_i x3503), (0, ml_r l0), (1, ml_i l1), (2, ml_i l2)]) dX11_earliest_16 (ml_hn hL rfl) rfl <| ml_aload_n dX11_earliest_17 1 rfl <| ml_getR dX11_earliest_18 wb_227 hc3498 <| ml_lx (mk := ml_r) h fun a3504 h => ml_bipush dX11_earliest_21 kc_b7 <| ml_aload_n dX11_earliest_23 1 rfl <| ml_getR dX11_earliest_24 wb_457 hc3498 <| ml_lx (mk := ml_r) h fun a3505 h => ml_iload_n dX11_earliest_27 3 rfl <| ml_ck_of h fun hi3506 h => ml_iald dX11_earliest_28 hi3506 <| ml_imul dX11_earliest_29 <| ml_iconst dX11_earliest_30 kc_i2 <| ml_iadd dX11_earliest_31 <| ml_ck_of h fun hi3507 h => ml_iald dX11_earliest_32 hi3507 <| ml_lx (mk := ml_i) h fun x3508 h => ml_istore (lv' := [(4, ml_i x3508), (3, ml_i x3503), (0, ml_r l0), (1, ml_i l1), (2, ml_i l2)]) dX11_earliest_33 (ml_hn hL rfl) rfl <| ml_iload_n dX11_earliest_35 3 rfl <| ml_if_ne dX11_earliest_36 h (fun _ h => ml_sipush dX11_earliest_41 kc_s1000 <| ml_istore (lv' := [(5, ml_i (1000 : Int32)), (4, ml_i x3508), (3, ml_i x3503), (0, ml_r l0), (1, ml_i l1), (2, ml_i l2)]) dX11_earliest_44 (ml_hn hL rfl) rfl <| ml_iconst dX11_earliest_46 kc_i0 <| ml_istore (lv' := [(6, ml_i (0 : Int32)), (5, ml_i (1000 : Int32)), (4, ml_i x3508), (3, ml_i x3503), (0, ml_r l0), (1, ml_i l1), (2, ml_i l2)]) dX11_earliest_47 (ml_hn hL rfl) rfl <| ml_V.sub [4, 5, 6, 3, 2, 1, 0] rfl (vX11_earliest_49 hL hr  ml_fu _ _ _ _ _ _ _ h)) (fun _ h => ml_iload_n dX11_earliest_39 1 rfl <| ml_rp (mk := ml_i) hr dX11_earliest_40 (fun _ => trivial) h)
theorem sX11_earliest {l0 : Nat} {l1 : Int32} {l2 : Int32} {m : ml_M} {rv : Int32} (h : fX11_earliest l0 l1 l2 m = some rv) : ml_Sn yX11_earliest cX11_earliest 10 (some .int) 3 [ml_r l0, ml_i l1, ml_i l2] m (some (ml_i rv)) m :=
  ml_Sn_of (P := True) (ini := false) (by decide +kernel) (Nat.le_of_ble_eq_true rfl) (fun h => by cases h) (fun _ => ml_RkI rv) fun E hL hr => wX11_earliest_0 hL hr _ _ _ h
theorem dX11_layJourneys_0 : ml_d cX11_layJourneys 0 (.iconst 0) 1 1 := ⟨by decide +kernel, rfl⟩
theorem dX11_layJourneys_1 : ml_d cX11_layJourneys 1 (.istore_n 1) 1 2 := ⟨by decide +kernel, rfl⟩
theorem dX11_layJourneys_2 : ml_d cX11_layJourneys 2 (.iload_n 1) 1 3 := ⟨by decide +kernel, rfl⟩
theorem dX11_layJourneys_3 : ml_d cX11_layJourneys 3 (.iconst 1) 1 4 := ⟨by decide +kernel, rfl⟩
theorem dX11_layJourneys_4 : ml_d cX11_layJourneys 4 (.aload_n 0) 1 5 := ⟨by decide +kernel, rfl⟩
theorem dX11_layJourneys_5 : ml_d cX11_layJourneys 5 (.getfield 341) 3 8 := ⟨by decide +kernel, rfl⟩
theorem dX11_layJourneys_8 : ml_d cX11_layJourneys 8 (.ishl) 1 9 := ⟨by decide +kernel, rfl⟩
theorem dX11_layJourneys_9 : ml_j cX11_layJourneys 9 (.if_icmp .ge) 120 12 := ⟨111, by decide +kernel, by decide, rfl⟩
theorem dX11_layJourneys_12 : ml_d cX11_layJourneys 12 (.aload_n 0) 1 13 := ⟨by decide +kernel, rfl⟩
theorem dX11_layJourneys_13 : ml_d cX11_layJourneys 13 (.getfield 83) 3 16 := ⟨by decide +kernel, rfl⟩
theorem dX11_layJourneys_16 : ml_d cX11_layJourneys 16 (.iload_n 1) 1 17 := ⟨by decide +kernel, rfl⟩
theorem dX11_layJourneys_17 : ml_d cX11_layJourneys 17 (.iload_n 1) 1 18 := ⟨by decide +kernel, rfl⟩
theorem dX11_layJourneys_18 : ml_j cX11_layJourneys 18 (.ifCond .ne) 25 21 := ⟨7, by decide +kernel, by decide, rfl⟩
theorem dX11_layJourneys_21 : ml_d cX11_layJourneys 21 (.iconst 1) 1 22 := ⟨by decide +kernel, rfl⟩
theorem dX11_layJourneys_22 : ml_j cX11_layJourneys 22 .goto 26 25 := ⟨4, by decide +kernel, by decide, rfl⟩
theorem dX11_layJourneys_25 : ml_d cX11_layJourneys 25 (.iconst 0) 1 26 := ⟨by decide +kernel, rfl⟩
theorem dX11_layJourneys_26 : ml_d cX11_layJourneys 26 (.bastore) 1 27 := ⟨by decide +kernel, rfl⟩
theorem dX11_layJourneys_27 : ml_d cX11_layJourneys 27 (.iconst 0) 1 28 := ⟨by decide +kernel, rfl⟩
theorem dX11_layJourneys_28 : ml_d cX11_layJourneys 28 (.istore_n 2) 1 29 := ⟨by decide +kernel, rfl⟩
theorem dX11_layJourneys_29 : ml_d cX11_layJourneys 29 (.iload_n 2) 1 30 := ⟨by decide +kernel, rfl⟩
theorem dX11_layJourneys_30 : ml_d cX11_layJourneys 30 (.aload_n 0) 1 31 := ⟨by decide +kernel, rfl⟩
theorem dX11_layJourneys_31 : ml_d cX11_layJourneys 31 (.getfield 341) 3 34 := ⟨by decide +kernel, rfl⟩
theorem dX11_layJourneys_34 : ml_j cX11_layJourneys 34 (.if_icmp .ge) 114 37 := ⟨80, by decide +kernel, by decide, rfl⟩
theorem dX11_layJourneys_37 : ml_d cX11_layJourneys 37 (.bipush 10) 2 39 := ⟨by decide +kernel, rfl⟩
theorem dX11_layJourneys_39 : ml_d cX11_layJourneys 39 (.iload_n 1) 1 40 := ⟨by decide +kernel, rfl⟩
theorem dX11_layJourneys_40 : ml_d cX11_layJourneys 40 (.imul) 1 41 := ⟨by decide +kernel, rfl⟩
theorem dX11_layJourneys_41 : ml_d cX11_layJourneys 41 (.iload_n 2) 1 42 := ⟨by decide +kernel, rfl⟩
theorem dX11_layJourneys_42 : ml_d cX11_layJourneys 42 (.iadd) 1 43 := ⟨by decide +kernel, rfl⟩
theorem dX11_layJourneys_43 : ml_d cX11_layJourneys 43 (.istore_n 3) 1 44 := ⟨by decide +kernel, rfl⟩
theorem dX11_layJourneys_44 : ml_d cX11_layJourneys 44 (.aload_n 0) 1 45 := ⟨by decide +kernel, rfl⟩
theorem dX11_layJourneys_45 : ml_d cX11_layJourneys 45 (.getfield 80) 3 48 := ⟨by decide +kernel, rfl⟩
theorem dX11_layJourneys_48 : ml_d cX11_layJourneys 48 (.iload_n 3) 1 49 := ⟨by decide +kernel, rfl⟩
theorem dX11_layJourneys_49 : ml_d cX11_layJourneys 49 (.iload_n 1) 1 50 := ⟨by decide +kernel, rfl⟩
theorem dX11_layJourneys_50 : ml_d cX11_layJourneys 50 (.iload_n 2) 1 51 := ⟨by decide +kernel, rfl⟩
theorem dX11_layJourneys_51 : ml_d cX11_layJourneys 51 (.invokestatic 260) 3 54 := ⟨by decide +kernel, rfl⟩
theorem dX11_layJourneys_54 : ml_j cX11_layJourneys 54 (.ifCond .eq) 72 57 := ⟨18, by decide +kernel, by decide, rfl⟩
theorem dX11_layJourneys_57 : ml_d cX11_layJourneys 57 (.aload_n 0) 1 58 := ⟨by decide +kernel, rfl⟩
theorem dX11_layJourneys_58 : ml_d cX11_layJourneys 58 (.iload_n 1) 1 59 := ⟨by decide +kernel, rfl⟩
theorem dX11_layJourneys_59 : ml_d cX11_layJourneys 59 (.iconst 1) 1 60 := ⟨by decide +kernel, rfl⟩
theorem dX11_layJourneys_60 : ml_d cX11_layJourneys 60 (.iload_n 2) 1 61 := ⟨by decide +kernel, rfl⟩
theorem dX11_layJourneys_61 : ml_d cX11_layJourneys 61 (.ishl) 1 62 := ⟨by decide +kernel, rfl⟩
theorem dX11_layJourneys_62 : ml_d cX11_layJourneys 62 (.iconst (-1)) 1 63 := ⟨by decide +kernel, rfl⟩
theorem dX11_layJourneys_63 : ml_d cX11_layJourneys 63 (.ixor) 1 64 := ⟨by decide +kernel, rfl⟩
theorem dX11_layJourneys_64 : ml_d cX11_layJourneys 64 (.iand) 1 65 := ⟨by decide +kernel, rfl⟩
theorem dX11_layJourneys_65 : ml_d cX11_layJourneys 65 (.iload_n 2) 1 66 := ⟨by decide +kernel, rfl⟩
theorem dX11_layJourneys_66 : ml_d cX11_layJourneys 66 (.invokevirtual 344) 3 69 := ⟨by decide +kernel, rfl⟩
theorem dX11_layJourneys_69 : ml_j cX11_layJourneys 69 .goto 75 72 := ⟨6, by decide +kernel, by decide, rfl⟩
theorem dX11_layJourneys_72 : ml_d cX11_layJourneys 72 (.sipush 1000) 3 75 := ⟨by decide +kernel, rfl⟩
theorem dX11_layJourneys_75 : ml_d cX11_layJourneys 75 (.iastore) 1 76 := ⟨by decide +kernel, rfl⟩
theorem dX11_layJourneys_76 : ml_d cX11_layJourneys 76 (.aload_n 0) 1 77 := ⟨by decide +kernel, rfl⟩
theorem dX11_layJourneys_77 : ml_d cX11_layJourneys 77 (.getfield 83) 3 80 := ⟨by decide +kernel, rfl⟩
theorem dX11_layJourneys_80 : ml_d cX11_layJourneys 80 (.iload_n 1) 1 81 := ⟨by decide +kernel, rfl⟩
theorem dX11_layJourneys_81 : ml_d cX11_layJourneys 81 (.aload_n 0) 1 82 := ⟨by decide +kernel, rfl⟩
theorem dX11_layJourneys_82 : ml_d cX11_layJourneys 82 (.getfield 83) 3 85 := ⟨by decide +kernel, rfl⟩
theorem dX11_layJourneys_85 : ml_d cX11_layJourneys 85 (.iload_n 1) 1 86 := ⟨by decide +kernel, rfl⟩
theorem dX11_layJourneys_86 : ml_d cX11_layJourneys 86 (.baload) 1 87 := ⟨by decide +kernel, rfl⟩
theorem dX11_layJourneys_87 : ml_j cX11_layJourneys 87 (.ifCond .ne) 102 90 := ⟨15, by decide +kernel, by decide, rfl⟩
theorem dX11_layJourneys_90 : ml_d cX11_layJourneys 90 (.aload_n 0) 1 91 := ⟨by decide +kernel, rfl⟩
theorem dX11_layJourneys_91 : ml_d cX11_layJourneys 91 (.getfield 80) 3 94 := ⟨by decide +kernel, rfl⟩
theorem dX11_layJourneys_94 : ml_d cX11_layJourneys 94 (.iload_n 3) 1 95 := ⟨by decide +kernel, rfl⟩
theorem dX11_layJourneys_95 : ml_d cX11_layJourneys 95 (.iaload) 1 96 := ⟨by decide +kernel, rfl⟩
theorem dX11_layJourneys_96 : ml_d cX11_layJourneys 96 (.sipush 1000) 3 99 := ⟨by decide +kernel, rfl⟩
theorem dX11_layJourneys_99 : ml_j cX11_layJourneys 99 (.if_icmp .ge) 106 102 := ⟨7, by decide +kernel, by decide, rfl⟩
theorem dX11_layJourneys_102 : ml_d cX11_layJourneys 102 (.iconst 1) 1 103 := ⟨by decide +kernel, rfl⟩
theorem dX11_layJourneys_103 : ml_j cX11_layJourneys 103 .goto 107 106 := ⟨4, by decide +kernel, by decide, rfl⟩
theorem dX11_layJourneys_106 : ml_d cX11_layJourneys 106 (.iconst 0) 1 107 := ⟨by decide +kernel, rfl⟩
theorem dX11_layJourneys_107 : ml_d cX11_layJourneys 107 (.bastore) 1 108 := ⟨by decide +kernel, rfl⟩
theorem dX11_layJourneys_108 : ml_d cX11_layJourneys 108 (.iinc 2 1) 3 111 := ⟨by decide +kernel, rfl⟩
theorem dX11_layJourneys_111 : ml_j cX11_layJourneys 111 .goto 29 114 := ⟨(-82), by decide +kernel, by decide, rfl⟩
theorem dX11_layJourneys_114 : ml_d cX11_layJourneys 114 (.iinc 1 1) 3 117 := ⟨by decide +kernel, rfl⟩
theorem dX11_layJourneys_117 : ml_j cX11_layJourneys 117 .goto 2 120 := ⟨(-115), by decide +kernel, by decide, rfl⟩
theorem dX11_layJourneys_120 : ml_d cX11_layJourneys 120 (.return_) 1 121 := ⟨by decide +kernel, rfl⟩
def fX11_layJourneys_107 (k2 : Nat → Int32 → ml_M → Option ml_M) (k29 : Nat → Int32 → Int32 → ml_M → Option ml_M) (l0 : Nat) (l1 : Int32) (l2 : Int32) (t0 : Int32) (t1 : Int32) (t2 : Nat) (m : ml_M) : Option ml_M :=
    if ml_in m t2 22 t1 then
    ml_let (ml_sI m t2 t1.toNatClampNeg (t0 &&& 1)) fun m3510 =>
    k29 l0 l1 (l2 + (1 : Int32)) m3510
    else none
theorem vX11_layJourneys_107 {E : ml_E} (hL : ml_eL E = 4) {rm : ml_M} (hr : ∀ (pc pc' : Nat) (lv : List (Nat × ml_X)), ml_d cX11_layJourneys pc .return_ 1 pc' → True → ml_V E "LostRoomModel" cX11_layJourneys 4 false rm pc lv []) {k2 : Nat → Int32 → ml_M → Option ml_M} (hk2 : ∀ (l0 : Nat) (l1 : Int32) (m : ml_M), k2 l0 l1 m = some rm → ml_V E "LostRoomModel" cX11_layJourneys 4 false m 2 [(0, ml_r l0), (1, ml_i l1)] []) {k29 : Nat → Int32 → Int32 → ml_M → Option ml_M} (hk29 : ∀ (l0 : Nat) (l1 : Int32) (l2 : Int32) (m : ml_M), k29 l0 l1 l2 m = some rm → ml_V E "LostRoomModel" cX11_layJourneys 4 false m 29 [(0, ml_r l0), (1, ml_i l1), (2, ml_i l2)] []) : ∀ (l0 : Nat) (l1 : Int32) (l2 : Int32) (t0 : Int32) (t1 : Int32) (t2 : Nat) (m : ml_M), fX11_layJourneys_107 k2 k29 l0 l1 l2 t0 t1 t2 m = some rm → ml_V E "LostRoomModel" cX11_layJourneys 4 false m 107 [(0, ml_r l0), (1, ml_i l1), (2, ml_i l2)] [ml_i t0, ml_i t1, ml_r t2] := by
  intro l0 l1 l2 t0 t1 t2 m h
  unfold fX11_layJourneys_107 at h
  exact ml_ck_of h fun hi3509 h => ml_zast dX11_layJourneys_107 hi3509 <| ml_lt (m := m) rfl h fun m3510 em3511 h => ml_iinc (lv' := [(2, ml_i (l2 + (1 : Int32))), (0, ml_r l0), (1, ml_i l1)]) dX11_layJourneys_108 2 rfl (congrArg (l2 + ·) kc_i1) (ml_hn hL rfl) rfl <| ml_goto dX11_layJourneys_111 <| ml_V.sub [1, 2, 0] rfl (hk29 _ _ _ _ h)
def fX11_layJourneys_102 (k2 : Nat → Int32 → ml_M → Option ml_M) (k29 : Nat → Int32 → Int32 → ml_M → Option ml_M) (l0 : Nat) (l1 : Int32) (l2 : Int32) (t0 : Int32) (t1 : Nat) (m : ml_M) : Option ml_M :=
    fX11_layJourneys_107 k2 k29 l0 l1 l2 (1 : Int32) t0 t1 m
theorem vX11_layJourneys_102 {E : ml_E} (hL : ml_eL E = 4) {rm : ml_M} (hr : ∀ (pc pc' : Nat) (lv : List (Nat × ml_X)), ml_d cX11_layJourneys pc .return_ 1 pc' → True → ml_V E "LostRoomModel" cX11_layJourneys 4 false rm pc lv []) {k2 : Nat → Int32 → ml_M → Option ml_M} (hk2 : ∀ (l0 : Nat) (l1 : Int32) (m : ml_M), k2 l0 l1 m = some rm → ml_V E "LostRoomModel" cX11_layJourneys 4 false m 2 [(0, ml_r l0), (1, ml_i l1)] []) {k29 : Nat → Int32 → Int32 → ml_M → Option ml_M} (hk29 : ∀ (l0 : Nat) (l1 : Int32) (l2 : Int32) (m : ml_M), k29 l0 l1 l2 m = some rm → ml_V E "LostRoomModel" cX11_layJourneys 4 false m 29 [(0, ml_r l0), (1, ml_i l1), (2, ml_i l2)] []) : ∀ (l0 : Nat) (l1 : Int32) (l2 : Int32) (t0 : Int32) (t1 : Nat) (m : ml_M), fX11_layJourneys_102 k2 k29 l0 l1 l2 t0 t1 m = some rm → ml_V E "LostRoomModel" cX11_layJourneys 4 false m 102 [(0, ml_r l0), (1, ml_i l1), (2, ml_i l2)] [ml_i t0, ml_r t1] := by
  intro l0 l1 l2 t0 t1 m h
  unfold fX11_layJourneys_102 at h
  exact ml_iconst dX11_layJourneys_102 kc_i1 <| ml_goto dX11_layJourneys_103 <| ml_V.sub [0, 1, 2] rfl (vX11_layJourneys_107 hL hr hk2 hk29 _ _ _ _ _ _ _ h)
def fX11_layJourneys_75 (k2 : Nat → Int32 → ml_M → Option ml_M) (k29 : Nat → Int32 → Int32 → ml_M → Option ml_M) (l0 : Nat) (l1 : Int32) (l2 : Int32) (l3 : Int32) (t0 : Int32) (t1 : Int32) (t2 : Nat) (m : ml_M) : Option ml_M :=
    if ml_in m t2 20 t1 then
    ml_let (ml_sI m t2 t1.toNatClampNeg t0) fun m3513 =>
    if (ml_K m3513 l0).1 = 11 then
    ml_let (ml_R m3513 l0 44) fun a3516 =>
    ml_let (ml_R m3513 l0 44) fun a3517 =>
    if ml_in m3513 a3517 22 l1 then
    if (ml_I m3513 a3517 l1.toNatClampNeg) = 0 then
    ml_let (ml_R m3513 l0 43) fun a3519 =>
    if ml_in m3513 a3519 20 l3 then
    if (1000 : Int32) ≤ (ml_I m3513 a3519 l3.toNatClampNeg) then
    fX11_layJourneys_107 k2 k29 l0 l1 l2 (0 : Int32) l1 a3516 m3513
    else
    fX11_layJourneys_102 k2 k29 l0 l1 l2 l1 a3516 m3513
    else none
    else
    fX11_layJourneys_102 k2 k29 l0 l1 l2 l1 a3516 m3513
    else none
    else none
    else none
theorem vX11_layJourneys_75 {E : ml_E} (hL : ml_eL E = 4) {rm : ml_M} (hr : ∀ (pc pc' : Nat) (lv : List (Nat × ml_X)), ml_d cX11_layJourneys pc .return_ 1 pc' → True → ml_V E "LostRoomModel" cX11_layJourneys 4 false rm pc lv []) {k2 : Nat → Int32 → ml_M → Option ml_M} (hk2 : ∀ (l0 : Nat) (l1 : Int32) (m : ml_M), k2 l0 l1 m = some rm → ml_V E "LostRoomModel" cX11_layJourneys 4 false m 2 [(0, ml_r l0), (1, ml_i l1)] []) {k29 : Nat → Int32 → Int32 → ml_M → Option ml_M} (hk29 : ∀ (l0 : Nat) (l1 : Int32) (l2 : Int32) (m : ml_M), k29 l0 l1 l2 m = some rm → ml_V E "LostRoomModel" cX11_layJourneys 4 false m 29 [(0, ml_r l0), (1, ml_i l1), (2, ml_i l2)] []) : ∀ (l0 : Nat) (l1 : Int32) (l2 : Int32) (l3 : Int32) (t0 : Int32) (t1 : Int32) (t2 : Nat) (m : ml_M), fX11_layJourneys_75 k2 k29 l0 l1 l2 l3 t0 t1 t2 m = some rm → ml_V E "LostRoomModel" cX11_layJourneys 4 false m 75 [(0, ml_r l0), (1, ml_i l1), (2, ml_i l2), (3, ml_i l3)] [ml_i t0, ml_i t1, ml_r t2] := by
  intro l0 l1 l2 l3 t0 t1 t2 m h
  unfold fX11_layJourneys_75 at h
  exact ml_ck_of h fun hi3512 h => ml_iast dX11_layJourneys_75 hi3512 <| ml_lt (m := m) rfl h fun m3513 em3514 h => ml_aload_n dX11_layJourneys_76 0 rfl <| ml_ck_of h fun hc3515 h => ml_getR dX11_layJourneys_77 wb_460 hc3515 <| ml_lx (mk := ml_r) h fun a3516 h => ml_iload_n dX11_layJourneys_80 1 rfl <| ml_aload_n dX11_layJourneys_81 0 rfl <| ml_getR dX11_layJourneys_82 wb_460 hc3515 <| ml_lx (mk := ml_r) h fun a3517 h => ml_iload_n dX11_layJourneys_85 1 rfl <| ml_ck_of h fun hi3518 h => ml_zald dX11_layJourneys_86 hi3518 <| ml_if_ne dX11_layJourneys_87 h (fun _ h => ml_V.sub [0, 1, 2] rfl (vX11_layJourneys_102 hL hr hk2 hk29 _ _ _ _ _ _ h)) (fun _ h => ml_aload_n dX11_layJourneys_90 0 rfl <| ml_getR dX11_layJourneys_91 wb_459 hc3515 <| ml_lx (mk := ml_r) h fun a3519 h => ml_iload_n dX11_layJourneys_94 3 rfl <| ml_ck_of h fun hi3520 h => ml_iald dX11_layJourneys_95 hi3520 <| ml_sipush dX11_layJourneys_96 kc_s1000 <| ml_icmp_ge dX11_layJourneys_99 h (fun _ h => ml_iconst dX11_layJourneys_106 kc_i0 <| ml_V.sub [0, 1, 2] rfl (vX11_layJourneys_107 hL hr hk2 hk29 _ _ _ _ _ _ _ h)) (fun _ h => ml_V.sub [0, 1, 2] rfl (vX11_layJourneys_102 hL hr hk2 hk29 _ _ _ _ _ _ h)))
def fX11_layJourneys_114 (k2 : Nat → Int32 → ml_M → Option ml_M) (l0 : Nat) (l1 : Int32) (m : ml_M) : Option ml_M :=
    k2 l0 (l1 + (1 : Int32)) m
theorem vX11_layJourneys_114 {E : ml_E} (hL : ml_eL E = 4) {rm : ml_M} (hr : ∀ (pc pc' : Nat) (lv : List (Nat × ml_X)), ml_d cX11_layJourneys pc .return_ 1 pc' → True → ml_V E "LostRoomModel" cX11_layJourneys 4 false rm pc lv []) {k2 : Nat → Int32 → ml_M → Option ml_M} (hk2 : ∀ (l0 : Nat) (l1 : Int32) (m : ml_M), k2 l0 l1 m = some rm → ml_V E "LostRoomModel" cX11_layJourneys 4 false m 2 [(0, ml_r l0), (1, ml_i l1)] []) : ∀ (l0 : Nat) (l1 : Int32) (m : ml_M), fX11_layJourneys_114 k2 l0 l1 m = some rm → ml_V E "LostRoomModel" cX11_layJourneys 4 false m 114 [(0, ml_r l0), (1, ml_i l1)] [] := by
  intro l0 l1 m h
  unfold fX11_layJourneys_114 at h
  exact ml_iinc (lv' := [(1, ml_i (l1 + (1 : Int32))), (0, ml_r l0)]) dX11_layJourneys_114 1 rfl (congrArg (l1 + ·) kc_i1) (ml_hn hL rfl) rfl <| ml_goto dX11_layJourneys_117 <| ml_V.sub [1, 0] rfl (hk2 _ _ _ h)
def fX11_layJourneys_29 (k2 : Nat → Int32 → ml_M → Option ml_M) : Nat → Nat → Int32 → Int32 → ml_M → Option ml_M
  | 0, _, _, _, _ => none
  | fu + 1, l0, l1, l2, m =>
    if (ml_K m l0).1 = 11 then
    if (ml_I m l0 41) ≤ l2 then
    fX11_layJourneys_114 k2 l0 l1 m
    else
    ml_let (((10 : Int32) * l1) + l2) fun x3522 =>
    ml_let (ml_R m l0 43) fun a3523 =>
    ml_b1 (fX11_has l1 l2 m) fun r3525 =>
    if r3525 = 0 then
    fX11_layJourneys_75 k2 (fX11_layJourneys_29 k2 fu) l0 l1 l2 x3522 (1000 : Int32) x3522 a3523 m
    else
    ml_b1 (fX11_earliest l0 (l1 &&& (((1 : Int32) <<< (l2 &&& 31)) ^^^ (-1 : Int32))) l2 m) fun r3527 =>
    fX11_layJourneys_75 k2 (fX11_layJourneys_29 k2 fu) l0 l1 l2 x3522 r3527 x3522 a3523 m
    else none
theorem vX11_layJourneys_29 {E : ml_E} (hL : ml_eL E = 4) {rm : ml_M} (hr : ∀ (pc pc' : Nat) (lv : List (Nat × ml_X)), ml_d cX11_layJourneys pc .return_ 1 pc' → True → ml_V E "LostRoomModel" cX11_layJourneys 4 false rm pc lv []) {k2 : Nat → Int32 → ml_M → Option ml_M} (hk2 : ∀ (l0 : Nat) (l1 : Int32) (m : ml_M), k2 l0 l1 m = some rm → ml_V E "LostRoomModel" cX11_layJourneys 4 false m 2 [(0, ml_r l0), (1, ml_i l1)] []) : ∀ (fu : Nat) (l0 : Nat) (l1 : Int32) (l2 : Int32) (m : ml_M), fX11_layJourneys_29 k2 fu l0 l1 l2 m = some rm → ml_V E "LostRoomModel" cX11_layJourneys 4 false m 29 [(0, ml_r l0), (1, ml_i l1), (2, ml_i l2)] [] := by
  intro fu
  induction fu with
  | zero => intro l0 l1 l2 m h; exact ml_none h
  | succ fu ih =>
    intro l0 l1 l2 m h
    have hk29 := ih
    unfold fX11_layJourneys_29 at h
    exact ml_iload_n dX11_layJourneys_29 2 rfl <| ml_aload_n dX11_layJourneys_30 0 rfl <| ml_ck_of h fun hc3521 h => ml_getI dX11_layJourneys_31 wb_456 hc3521 <| ml_icmp_ge dX11_layJourneys_34 h (fun _ h => ml_V.sub [0, 1] rfl (vX11_layJourneys_114 hL hr hk2 _ _ _ h)) (fun _ h => ml_bipush dX11_layJourneys_37 kc_b10 <| ml_iload_n dX11_layJourneys_39 1 rfl <| ml_imul dX11_layJourneys_40 <| ml_iload_n dX11_layJourneys_41 2 rfl <| ml_iadd dX11_layJourneys_42 <| ml_lx (mk := ml_i) h fun x3522 h => ml_istore_n (lv' := [(3, ml_i x3522), (0, ml_r l0), (1, ml_i l1), (2, ml_i l2)]) dX11_layJourneys_43 (ml_hn hL rfl) rfl <| ml_aload_n dX11_layJourneys_44 1 rfl <| ml_getR dX11_layJourneys_45 wb_459 hc3521 <| ml_lx (mk := ml_r) h fun a3523 h => ml_iload_n dX11_layJourneys_48 0 rfl <| ml_iload_n dX11_layJourneys_49 2 rfl <| ml_iload_n dX11_layJourneys_50 3 rfl <| ml_b1_of h fun r3525 hv3524 h => ml_callS dX11_layJourneys_51 wm_492 wb_300 (sX11_has hv3524) rfl (Nat.le_of_ble_eq_true rfl) (Nat.le_of_ble_eq_true rfl) rfl <| ml_if_eq dX11_layJourneys_54 h (fun _ h => ml_sipush dX11_layJourneys_72 kc_s1000 <| ml_V.sub [1, 2, 3, 0] rfl (vX11_layJourneys_75 hL hr hk2 hk29 _ _ _ _ _ _ _ _ h)) (fun _ h => ml_aload_n dX11_layJourneys_57 1 rfl <| ml_iload_n dX11_layJourneys_58 2 rfl <| ml_iconst dX11_layJourneys_59 kc_i1 <| ml_iload_n dX11_layJourneys_60 3 rfl <| ml_ishl dX11_layJourneys_61 <| ml_iconst dX11_layJourneys_62 kc_im1 <| ml_ixor dX11_layJourneys_63 <| ml_iand dX11_layJourneys_64 <| ml_iload_n dX11_layJourneys_65 3 rfl <| ml_b1_of h fun r3527 hv3526 h => ml_callV dX11_layJourneys_66 wm_759 wb_461 hc3521 (sX11_earliest hv3526) rfl (Nat.le_of_ble_eq_true rfl) (Nat.le_of_ble_eq_true rfl) rfl <| ml_goto dX11_layJourneys_69 <| ml_V.sub [1, 2, 3, 0] rfl (vX11_layJourneys_75 hL hr hk2 hk29 _ _ _ _ _ _ _ _ h)))
def fX11_layJourneys_26 (k2 : Nat → Int32 → ml_M → Option ml_M) (l0 : Nat) (l1 : Int32) (t0 : Int32) (t1 : Int32) (t2 : Nat) (m : ml_M) : Option ml_M :=
    if ml_in m t2 22 t1 then
    ml_let (ml_sI m t2 t1.toNatClampNeg (t0 &&& 1)) fun m3529 =>
    fX11_layJourneys_29 k2 ml_fu l0 l1 (0 : Int32) m3529
    else none
theorem vX11_layJourneys_26 {E : ml_E} (hL : ml_eL E = 4) {rm : ml_M} (hr : ∀ (pc pc' : Nat) (lv : List (Nat × ml_X)), ml_d cX11_layJourneys pc .return_ 1 pc' → True → ml_V E "LostRoomModel" cX11_layJourneys 4 false rm pc lv []) {k2 : Nat → Int32 → ml_M → Option ml_M} (hk2 : ∀ (l0 : Nat) (l1 : Int32) (m : ml_M), k2 l0 l1 m = some rm → ml_V E "LostRoomModel" cX11_layJourneys 4 false m 2 [(0, ml_r l0), (1, ml_i l1)] []) : ∀ (l0 : Nat) (l1 : Int32) (t0 : Int32) (t1 : Int32) (t2 : Nat) (m : ml_M), fX11_layJourneys_26 k2 l0 l1 t0 t1 t2 m = some rm → ml_V E "LostRoomModel" cX11_layJourneys 4 false m 26 [(0, ml_r l0), (1, ml_i l1)] [ml_i t0, ml_i t1, ml_r t2] := by
  intro l0 l1 t0 t1 t2 m h
  unfold fX11_layJourneys_26 at h
  exact ml_ck_of h fun hi3528 h => ml_zast dX11_layJourneys_26 hi3528 <| ml_lt (m := m) rfl h fun m3529 em3530 h => ml_iconst dX11_layJourneys_27 kc_i0 <| ml_istore_n (lv' := [(2, ml_i (0 : Int32)), (0, ml_r l0), (1, ml_i l1)]) dX11_layJourneys_28 (ml_hn hL rfl) rfl <| ml_V.sub [1, 2, 0] rfl (vX11_layJourneys_29 hL hr hk2 ml_fu _ _ _ _ h)
def fX11_layJourneys_2 : Nat → Nat → Int32 → ml_M → Option ml_M
  | 0, _, _, _ => none
  | fu + 1, l0, l1, m =>
    if (ml_K m l0).1 = 11 then
    if ((1 : Int32) <<< ((ml_I m l0 41) &&& 31)) ≤ l1 then
    some m
    else
    ml_let (ml_R m l0 44) fun a3532 =>
    if l1 = 0 then
    fX11_layJourneys_26 (fX11_layJourneys_2 fu) l0 l1 (1 : Int32) l1 a3532 m
    else
    fX11_layJourneys_26 (fX11_layJourneys_2 fu) l0 l1 (0 : Int32) l1 a3532 m
    else none
theorem vX11_layJourneys_2 {E : ml_E} (hL : ml_eL E = 4) {rm : ml_M} (hr : ∀ (pc pc' : Nat) (lv : List (Nat × ml_X)), ml_d cX11_layJourneys pc .return_ 1 pc' → True → ml_V E "LostRoomModel" cX11_layJourneys 4 false rm pc lv []) : ∀ (fu : Nat) (l0 : Nat) (l1 : Int32) (m : ml_M), fX11_layJourneys_2 fu l0 l1 m = some rm → ml_V E "LostRoomModel" cX11_layJourneys 4 false m 2 [(0, ml_r l0), (1, ml_i l1)] [] := by
  intro fu
  induction fu with
  | zero => intro l0 l1 m h; exact ml_none h
  | succ fu ih =>
    intro l0 l1 m h
    have hk2 := ih
    unfold fX11_layJourneys_2 at h
    exact ml_iload_n dX11_layJourneys_2 1 rfl <| ml_iconst dX11_layJourneys_3 kc_i1 <| ml_aload_n dX11_layJourneys_4 0 rfl <| ml_ck_of h fun hc3531 h => ml_getI dX11_layJourneys_5 wb_456 hc3531 <| ml_ishl dX11_layJourneys_8 <| ml_icmp_ge dX11_layJourneys_9 h (fun _ h => ml_rv hr dX11_layJourneys_120 trivial h) (fun _ h => ml_aload_n dX11_layJourneys_12 0 rfl <| ml_getR dX11_layJourneys_13 wb_460 hc3531 <| ml_lx (mk := ml_r) h fun a3532 h => ml_iload_n dX11_layJourneys_16 1 rfl <| ml_iload_n dX11_layJourneys_17 1 rfl <| ml_if_ne dX11_layJourneys_18 h (fun _ h => ml_iconst dX11_layJourneys_25 kc_i0 <| ml_V.sub [0, 1] rfl (vX11_layJourneys_26 hL hr hk2 _ _ _ _ _ _ h)) (fun _ h => ml_iconst dX11_layJourneys_21 kc_i1 <| ml_goto dX11_layJourneys_22 <| ml_V.sub [0, 1] rfl (vX11_layJourneys_26 hL hr hk2 _ _ _ _ _ _ h)))
def fX11_layJourneys (l0 : Nat) (m : ml_M) : Option ml_M :=
    fX11_layJourneys_2 ml_fu l0 (0 : Int32) m
theorem wX11_layJourneys_0 {E : ml_E} (hL : ml_eL E = 4) {rm : ml_M} (hr : ∀ (pc pc' : Nat) (lv : List (Nat × ml_X)), ml_d cX11_layJourneys pc .return_ 1 pc' → True → ml_V E "LostRoomModel" cX11_layJourneys 4 false rm pc lv []) : ∀ (l0 : Nat) (m : ml_M), fX11_layJourneys l0 m = some rm → ml_V E "LostRoomModel" cX11_layJourneys 4 false m 0 [(0, ml_r l0)] [] := by
  intro l0 m h
  unfold fX11_layJourneys at h
  exact ml_iconst dX11_layJourneys_0 kc_i0 <| ml_istore_n (lv' := [(1, ml_i (0 : Int32)), (0, ml_r l0)]) dX11_layJourneys_1 (ml_hn hL rfl) rfl <| ml_V.sub [1, 0] rfl (vX11_layJourneys_2 hL hr  ml_fu _ _ _ h)
theorem sX11_layJourneys {l0 : Nat} {m : ml_M} {rm : ml_M} (h : fX11_layJourneys l0 m = some rm) : ml_Sn yX11_layJourneys cX11_layJourneys 4 none 4 [ml_r l0] m none rm :=
  ml_Sn_of (P := True) (ini := false) (by decide +kernel) (Nat.le_of_ble_eq_true rfl) (fun h => by cases h) (fun _ => ml_RkV) fun E hL hr => wX11_layJourneys_0 hL hr _ _ h
theorem dX11_travellers_0 : ml_d cX11_travellers 0 (.aload_n 0) 1 1 := ⟨by decide +kernel, rfl⟩
theorem dX11_travellers_1 : ml_d cX11_travellers 1 (.iconst (-1)) 1 2 := ⟨by decide +kernel, rfl⟩
theorem dX11_travellers_2 : ml_d cX11_travellers 2 (.invokevirtual 347) 3 5 := ⟨by decide +kernel, rfl⟩
theorem dX11_travellers_5 : ml_d cX11_travellers 5 (.bipush 10) 2 7 := ⟨by decide +kernel, rfl⟩
theorem dX11_travellers_7 : ml_j cX11_travellers 7 (.if_icmp .le) 13 10 := ⟨6, by decide +kernel, by decide, rfl⟩
theorem dX11_travellers_10 : ml_d cX11_travellers 10 (.bipush (-6)) 2 12 := ⟨by decide +kernel, rfl⟩
theorem dX11_travellers_12 : ml_d cX11_travellers 12 (.ireturn) 1 13 := ⟨by decide +kernel, rfl⟩
theorem dX11_travellers_13 : ml_d cX11_travellers 13 (.aload_n 0) 1 14 := ⟨by decide +kernel, rfl⟩
theorem dX11_travellers_14 : ml_d cX11_travellers 14 (.invokevirtual 350) 3 17 := ⟨by decide +kernel, rfl⟩
theorem dX11_travellers_17 : ml_d cX11_travellers 17 (.iconst 0) 1 18 := ⟨by decide +kernel, rfl⟩
theorem dX11_travellers_18 : ml_d cX11_travellers 18 (.istore_n 1) 1 19 := ⟨by decide +kernel, rfl⟩
theorem dX11_travellers_19 : ml_d cX11_travellers 19 (.iload_n 1) 1 20 := ⟨by decide +kernel, rfl⟩
theorem dX11_travellers_20 : ml_d cX11_travellers 20 (.iconst 1) 1 21 := ⟨by decide +kernel, rfl⟩
theorem dX11_travellers_21 : ml_d cX11_travellers 21 (.aload_n 0) 1 22 := ⟨by decide +kernel, rfl⟩
theorem dX11_travellers_22 : ml_d cX11_travellers 22 (.getfield 341) 3 25 := ⟨by decide +kernel, rfl⟩
theorem dX11_travellers_25 : ml_d cX11_travellers 25 (.ishl) 1 26 := ⟨by decide +kernel, rfl⟩
theorem dX11_travellers_26 : ml_j cX11_travellers 26 (.if_icmp .ge) 119 29 := ⟨93, by decide +kernel, by decide, rfl⟩
theorem dX11_travellers_29 : ml_d cX11_travellers 29 (.aload_n 0) 1 30 := ⟨by decide +kernel, rfl⟩
theorem dX11_travellers_30 : ml_d cX11_travellers 30 (.getfield 87) 3 33 := ⟨by decide +kernel, rfl⟩
theorem dX11_travellers_33 : ml_d cX11_travellers 33 (.iload_n 1) 1 34 := ⟨by decide +kernel, rfl⟩
theorem dX11_travellers_34 : ml_d cX11_travellers 34 (.iload_n 1) 1 35 := ⟨by decide +kernel, rfl⟩
theorem dX11_travellers_35 : ml_j cX11_travellers 35 (.ifCond .ne) 42 38 := ⟨7, by decide +kernel, by decide, rfl⟩
theorem dX11_travellers_38 : ml_d cX11_travellers 38 (.iconst 0) 1 39 := ⟨by decide +kernel, rfl⟩
theorem dX11_travellers_39 : ml_j cX11_travellers 39 .goto 44 42 := ⟨5, by decide +kernel, by decide, rfl⟩
theorem dX11_travellers_42 : ml_d cX11_travellers 42 (.bipush 100) 2 44 := ⟨by decide +kernel, rfl⟩
theorem dX11_travellers_44 : ml_d cX11_travellers 44 (.iastore) 1 45 := ⟨by decide +kernel, rfl⟩
theorem dX11_travellers_45 : ml_d cX11_travellers 45 (.iload_n 1) 1 46 := ⟨by decide +kernel, rfl⟩
theorem dX11_travellers_46 : ml_d cX11_travellers 46 (.istore_n 2) 1 47 := ⟨by decide +kernel, rfl⟩
theorem dX11_travellers_47 : ml_d cX11_travellers 47 (.iload_n 2) 1 48 := ⟨by decide +kernel, rfl⟩
theorem dX11_travellers_48 : ml_j cX11_travellers 48 (.ifCond .le) 113 51 := ⟨65, by decide +kernel, by decide, rfl⟩
theorem dX11_travellers_51 : ml_d cX11_travellers 51 (.aload_n 0) 1 52 := ⟨by decide +kernel, rfl⟩
theorem dX11_travellers_52 : ml_d cX11_travellers 52 (.getfield 83) 3 55 := ⟨by decide +kernel, rfl⟩
theorem dX11_travellers_55 : ml_d cX11_travellers 55 (.iload_n 2) 1 56 := ⟨by decide +kernel, rfl⟩
theorem dX11_travellers_56 : ml_d cX11_travellers 56 (.baload) 1 57 := ⟨by decide +kernel, rfl⟩
theorem dX11_travellers_57 : ml_j cX11_travellers 57 (.ifCond .eq) 75 60 := ⟨18, by decide +kernel, by decide, rfl⟩
theorem dX11_travellers_60 : ml_d cX11_travellers 60 (.iconst 1) 1 61 := ⟨by decide +kernel, rfl⟩
theorem dX11_travellers_61 : ml_d cX11_travellers 61 (.aload_n 0) 1 62 := ⟨by decide +kernel, rfl⟩
theorem dX11_travellers_62 : ml_d cX11_travellers 62 (.getfield 87) 3 65 := ⟨by decide +kernel, rfl⟩
theorem dX11_travellers_65 : ml_d cX11_travellers 65 (.iload_n 1) 1 66 := ⟨by decide +kernel, rfl⟩
theorem dX11_travellers_66 : ml_d cX11_travellers 66 (.iload_n 2) 1 67 := ⟨by decide +kernel, rfl⟩
theorem dX11_travellers_67 : ml_d cX11_travellers 67 (.iconst (-1)) 1 68 := ⟨by decide +kernel, rfl⟩
theorem dX11_travellers_68 : ml_d cX11_travellers 68 (.ixor) 1 69 := ⟨by decide +kernel, rfl⟩
theorem dX11_travellers_69 : ml_d cX11_travellers 69 (.iand) 1 70 := ⟨by decide +kernel, rfl⟩
theorem dX11_travellers_70 : ml_d cX11_travellers 70 (.iaload) 1 71 := ⟨by decide +kernel, rfl⟩
theorem dX11_travellers_71 : ml_d cX11_travellers 71 (.iadd) 1 72 := ⟨by decide +kernel, rfl⟩
theorem dX11_travellers_72 : ml_j cX11_travellers 72 .goto 77 75 := ⟨5, by decide +kernel, by decide, rfl⟩
theorem dX11_travellers_75 : ml_d cX11_travellers 75 (.bipush 100) 2 77 := ⟨by decide +kernel, rfl⟩
theorem dX11_travellers_77 : ml_d cX11_travellers 77 (.istore_n 3) 1 78 := ⟨by decide +kernel, rfl⟩
theorem dX11_travellers_78 : ml_d cX11_travellers 78 (.aload_n 0) 1 79 := ⟨by decide +kernel, rfl⟩
theorem dX11_travellers_79 : ml_d cX11_travellers 79 (.getfield 87) 3 82 := ⟨by decide +kernel, rfl⟩
theorem dX11_travellers_82 : ml_d cX11_travellers 82 (.iload_n 1) 1 83 := ⟨by decide +kernel, rfl⟩
theorem dX11_travellers_83 : ml_d cX11_travellers 83 (.iload_n 3) 1 84 := ⟨by decide +kernel, rfl⟩
theorem dX11_travellers_84 : ml_d cX11_travellers 84 (.aload_n 0) 1 85 := ⟨by decide +kernel, rfl⟩
theorem dX11_travellers_85 : ml_d cX11_travellers 85 (.getfield 87) 3 88 := ⟨by decide +kernel, rfl⟩
theorem dX11_travellers_88 : ml_d cX11_travellers 88 (.iload_n 1) 1 89 := ⟨by decide +kernel, rfl⟩
theorem dX11_travellers_89 : ml_d cX11_travellers 89 (.iaload) 1 90 := ⟨by decide +kernel, rfl⟩
theorem dX11_travellers_90 : ml_j cX11_travellers 90 (.if_icmp .ge) 97 93 := ⟨7, by decide +kernel, by decide, rfl⟩
theorem dX11_travellers_93 : ml_d cX11_travellers 93 (.iload_n 3) 1 94 := ⟨by decide +kernel, rfl⟩
theorem dX11_travellers_94 : ml_j cX11_travellers 94 .goto 103 97 := ⟨9, by decide +kernel, by decide, rfl⟩
theorem dX11_travellers_97 : ml_d cX11_travellers 97 (.aload_n 0) 1 98 := ⟨by decide +kernel, rfl⟩
theorem dX11_travellers_98 : ml_d cX11_travellers 98 (.getfield 87) 3 101 := ⟨by decide +kernel, rfl⟩
theorem dX11_travellers_101 : ml_d cX11_travellers 101 (.iload_n 1) 1 102 := ⟨by decide +kernel, rfl⟩
theorem dX11_travellers_102 : ml_d cX11_travellers 102 (.iaload) 1 103 := ⟨by decide +kernel, rfl⟩
theorem dX11_travellers_103 : ml_d cX11_travellers 103 (.iastore) 1 104 := ⟨by decide +kernel, rfl⟩
theorem dX11_travellers_104 : ml_d cX11_travellers 104 (.iload_n 2) 1 105 := ⟨by decide +kernel, rfl⟩
theorem dX11_travellers_105 : ml_d cX11_travellers 105 (.iconst 1) 1 106 := ⟨by decide +kernel, rfl⟩
theorem dX11_travellers_106 : ml_d cX11_travellers 106 (.isub) 1 107 := ⟨by decide +kernel, rfl⟩
theorem dX11_travellers_107 : ml_d cX11_travellers 107 (.iload_n 1) 1 108 := ⟨by decide +kernel, rfl⟩
theorem dX11_travellers_108 : ml_d cX11_travellers 108 (.iand) 1 109 := ⟨by decide +kernel, rfl⟩
theorem dX11_travellers_109 : ml_d cX11_travellers 109 (.istore_n 2) 1 110 := ⟨by decide +kernel, rfl⟩
theorem dX11_travellers_110 : ml_j cX11_travellers 110 .goto 47 113 := ⟨(-63), by decide +kernel, by decide, rfl⟩
theorem dX11_travellers_113 : ml_d cX11_travellers 113 (.iinc 1 1) 3 116 := ⟨by decide +kernel, rfl⟩
theorem dX11_travellers_116 : ml_j cX11_travellers 116 .goto 19 119 := ⟨(-97), by decide +kernel, by decide, rfl⟩
theorem dX11_travellers_119 : ml_d cX11_travellers 119 (.aload_n 0) 1 120 := ⟨by decide +kernel, rfl⟩
theorem dX11_travellers_120 : ml_d cX11_travellers 120 (.getfield 87) 3 123 := ⟨by decide +kernel, rfl⟩
theorem dX11_travellers_123 : ml_d cX11_travellers 123 (.iconst 1) 1 124 := ⟨by decide +kernel, rfl⟩
theorem dX11_travellers_124 : ml_d cX11_travellers 124 (.aload_n 0) 1 125 := ⟨by decide +kernel, rfl⟩
theorem dX11_travellers_125 : ml_d cX11_travellers 125 (.getfield 341) 3 128 := ⟨by decide +kernel, rfl⟩
theorem dX11_travellers_128 : ml_d cX11_travellers 128 (.ishl) 1 129 := ⟨by decide +kernel, rfl⟩
theorem dX11_travellers_129 : ml_d cX11_travellers 129 (.iconst 1) 1 130 := ⟨by decide +kernel, rfl⟩
theorem dX11_travellers_130 : ml_d cX11_travellers 130 (.isub) 1 131 := ⟨by decide +kernel, rfl⟩
theorem dX11_travellers_131 : ml_d cX11_travellers 131 (.iaload) 1 132 := ⟨by decide +kernel, rfl⟩
theorem dX11_travellers_132 : ml_d cX11_travellers 132 (.ireturn) 1 133 := ⟨by decide +kernel, rfl⟩
def fX11_travellers_103 (k19 : Nat → Int32 → ml_M → Option (Int32 × ml_M)) (k47 : Nat → Int32 → Int32 → ml_M → Option (Int32 × ml_M)) (l0 : Nat) (l1 : Int32) (l2 : Int32) (t0 : Int32) (t1 : Int32) (t2 : Nat) (m : ml_M) : Option (Int32 × ml_M) :=
    if ml_in m t2 20 t1 then
    ml_let (ml_sI m t2 t1.toNatClampNeg t0) fun m3534 =>
    ml_let ((l2 - (1 : Int32)) &&& l1) fun x3536 =>
    k47 l0 l1 x3536 m3534
    else none
theorem vX11_travellers_103 {E : ml_E} (hL : ml_eL E = 4) {rv : Int32} {rm : ml_M} (hr : ∀ (pc pc' : Nat) (lv : List (Nat × ml_X)), ml_d cX11_travellers pc .ireturn 1 pc' → True → ml_V E "LostRoomModel" cX11_travellers 5 false rm pc lv [ml_i rv]) {k19 : Nat → Int32 → ml_M → Option (Int32 × ml_M)} (hk19 : ∀ (l0 : Nat) (l1 : Int32) (m : ml_M), k19 l0 l1 m = some (rv, rm) → ml_V E "LostRoomModel" cX11_travellers 5 false m 19 [(0, ml_r l0), (1, ml_i l1)] []) {k47 : Nat → Int32 → Int32 → ml_M → Option (Int32 × ml_M)} (hk47 : ∀ (l0 : Nat) (l1 : Int32) (l2 : Int32) (m : ml_M), k47 l0 l1 l2 m = some (rv, rm) → ml_V E "LostRoomModel" cX11_travellers 5 false m 47 [(0, ml_r l0), (1, ml_i l1), (2, ml_i l2)] []) : ∀ (l0 : Nat) (l1 : Int32) (l2 : Int32) (t0 : Int32) (t1 : Int32) (t2 : Nat) (m : ml_M), fX11_travellers_103 k19 k47 l0 l1 l2 t0 t1 t2 m = some (rv, rm) → ml_V E "LostRoomModel" cX11_travellers 5 false m 103 [(0, ml_r l0), (1, ml_i l1), (2, ml_i l2)] [ml_i t0, ml_i t1, ml_r t2] := by
  intro l0 l1 l2 t0 t1 t2 m h
  unfold fX11_travellers_103 at h
  exact ml_ck_of h fun hi3533 h => ml_iast dX11_travellers_103 hi3533 <| ml_lt (m := m) rfl h fun m3534 em3535 h => ml_iload_n dX11_travellers_104 2 rfl <| ml_iconst dX11_travellers_105 kc_i1 <| ml_isub dX11_travellers_106 <| ml_iload_n dX11_travellers_107 1 rfl <| ml_iand dX11_travellers_108 <| ml_lx (mk := ml_i) h fun x3536 h => ml_istore_n (lv' := [(2, ml_i x3536), (0, ml_r l0), (1, ml_i l1)]) dX11_travellers_109 (ml_hn hL rfl) rfl <| ml_goto dX11_travellers_110 <| ml_V.sub [1, 2, 0] rfl (hk47 _ _ _ _ h)
def fX11_travellers_77 (k19 : Nat → Int32 → ml_M → Option (Int32 × ml_M)) (k47 : Nat → Int32 → Int32 → ml_M → Option (Int32 × ml_M)) (l0 : Nat) (l1 : Int32) (l2 : Int32) (t0 : Int32) (m : ml_M) : Option (Int32 × ml_M) :=
    if (ml_K m l0).1 = 11 then
    ml_let (ml_R m l0 45) fun a3538 =>
    ml_let (ml_R m l0 45) fun a3539 =>
    if ml_in m a3539 20 l1 then
    if (ml_I m a3539 l1.toNatClampNeg) ≤ t0 then
    ml_let (ml_R m l0 45) fun a3541 =>
    if ml_in m a3541 20 l1 then
    fX11_travellers_103 k19 k47 l0 l1 l2 (ml_I m a3541 l1.toNatClampNeg) l1 a3538 m
    else none
    else
    fX11_travellers_103 k19 k47 l0 l1 l2 t0 l1 a3538 m
    else none
    else none
theorem vX11_travellers_77 {E : ml_E} (hL : ml_eL E = 4) {rv : Int32} {rm : ml_M} (hr : ∀ (pc pc' : Nat) (lv : List (Nat × ml_X)), ml_d cX11_travellers pc .ireturn 1 pc' → True → ml_V E "LostRoomModel" cX11_travellers 5 false rm pc lv [ml_i rv]) {k19 : Nat → Int32 → ml_M → Option (Int32 × ml_M)} (hk19 : ∀ (l0 : Nat) (l1 : Int32) (m : ml_M), k19 l0 l1 m = some (rv, rm) → ml_V E "LostRoomModel" cX11_travellers 5 false m 19 [(0, ml_r l0), (1, ml_i l1)] []) {k47 : Nat → Int32 → Int32 → ml_M → Option (Int32 × ml_M)} (hk47 : ∀ (l0 : Nat) (l1 : Int32) (l2 : Int32) (m : ml_M), k47 l0 l1 l2 m = some (rv, rm) → ml_V E "LostRoomModel" cX11_travellers 5 false m 47 [(0, ml_r l0), (1, ml_i l1), (2, ml_i l2)] []) : ∀ (l0 : Nat) (l1 : Int32) (l2 : Int32) (t0 : Int32) (m : ml_M), fX11_travellers_77 k19 k47 l0 l1 l2 t0 m = some (rv, rm) → ml_V E "LostRoomModel" cX11_travellers 5 false m 77 [(0, ml_r l0), (1, ml_i l1), (2, ml_i l2)] [ml_i t0] := by
  intro l0 l1 l2 t0 m h
  unfold fX11_travellers_77 at h
  exact ml_istore_n (lv' := [(3, ml_i t0), (0, ml_r l0), (1, ml_i l1), (2, ml_i l2)]) dX11_travellers_77 (ml_hn hL rfl) rfl <| ml_aload_n dX11_travellers_78 1 rfl <| ml_ck_of h fun hc3537 h => ml_getR dX11_travellers_79 wb_462 hc3537 <| ml_lx (mk := ml_r) h fun a3538 h => ml_iload_n dX11_travellers_82 2 rfl <| ml_iload_n dX11_travellers_83 0 rfl <| ml_aload_n dX11_travellers_84 1 rfl <| ml_getR dX11_travellers_85 wb_462 hc3537 <| ml_lx (mk := ml_r) h fun a3539 h => ml_iload_n dX11_travellers_88 2 rfl <| ml_ck_of h fun hi3540 h => ml_iald dX11_travellers_89 hi3540 <| ml_icmp_ge dX11_travellers_90 h (fun _ h => ml_aload_n dX11_travellers_97 1 rfl <| ml_getR dX11_travellers_98 wb_462 hc3537 <| ml_lx (mk := ml_r) h fun a3541 h => ml_iload_n dX11_travellers_101 2 rfl <| ml_ck_of h fun hi3542 h => ml_iald dX11_travellers_102 hi3542 <| ml_V.sub [1, 2, 3] rfl (vX11_travellers_103 hL hr hk19 hk47 _ _ _ _ _ _ _ h)) (fun _ h => ml_iload_n dX11_travellers_93 0 rfl <| ml_goto dX11_travellers_94 <| ml_V.sub [1, 2, 3] rfl (vX11_travellers_103 hL hr hk19 hk47 _ _ _ _ _ _ _ h))
def fX11_travellers_113 (k19 : Nat → Int32 → ml_M → Option (Int32 × ml_M)) (l0 : Nat) (l1 : Int32) (m : ml_M) : Option (Int32 × ml_M) :=
    k19 l0 (l1 + (1 : Int32)) m
theorem vX11_travellers_113 {E : ml_E} (hL : ml_eL E = 4) {rv : Int32} {rm : ml_M} (hr : ∀ (pc pc' : Nat) (lv : List (Nat × ml_X)), ml_d cX11_travellers pc .ireturn 1 pc' → True → ml_V E "LostRoomModel" cX11_travellers 5 false rm pc lv [ml_i rv]) {k19 : Nat → Int32 → ml_M → Option (Int32 × ml_M)} (hk19 : ∀ (l0 : Nat) (l1 : Int32) (m : ml_M), k19 l0 l1 m = some (rv, rm) → ml_V E "LostRoomModel" cX11_travellers 5 false m 19 [(0, ml_r l0), (1, ml_i l1)] []) : ∀ (l0 : Nat) (l1 : Int32) (m : ml_M), fX11_travellers_113 k19 l0 l1 m = some (rv, rm) → ml_V E "LostRoomModel" cX11_travellers 5 false m 113 [(0, ml_r l0), (1, ml_i l1)] [] := by
  intro l0 l1 m h
  unfold fX11_travellers_113 at h
  exact ml_iinc (lv' := [(1, ml_i (l1 + (1 : Int32))), (0, ml_r l0)]) dX11_travellers_113 1 rfl (congrArg (l1 + ·) kc_i1) (ml_hn hL rfl) rfl <| ml_goto dX11_travellers_116 <| ml_V.sub [1, 0] rfl (hk19 _ _ _ h)
def fX11_travellers_47 (k19 : Nat → Int32 → ml_M → Option (Int32 × ml_M)) : Nat → Nat → Int32 → Int32 → ml_M → Option (Int32 × ml_M)
  | 0, _, _, _, _ => none
  | fu + 1, l0, l1, l2, m =>
    if l2 ≤ 0 then
    fX11_travellers_113 k19 l0 l1 m
    else
    if (ml_K m l0).1 = 11 then
    ml_let (ml_R m l0 44) fun a3544 =>
    if ml_in m a3544 22 l2 then
    if (ml_I m a3544 l2.toNatClampNeg) = 0 then
    fX11_travellers_77 k19 (fX11_travellers_47 k19 fu) l0 l1 l2 (100 : Int32) m
    else
    ml_let (ml_R m l0 45) fun a3546 =>
    if ml_in m a3546 20 (l1 &&& (l2 ^^^ (-1 : Int32))) then
    fX11_travellers_77 k19 (fX11_travellers_47 k19 fu) l0 l1 l2 ((1 : Int32) + (ml_I m a3546 (l1 &&& (l2 ^^^ (-1 : Int32))).toNatClampNeg)) m
    else none
    else none
    else none
theorem vX11_travellers_47 {E : ml_E} (hL : ml_eL E = 4) {rv : Int32} {rm : ml_M} (hr : ∀ (pc pc' : Nat) (lv : List (Nat × ml_X)), ml_d cX11_travellers pc .ireturn 1 pc' → True → ml_V E "LostRoomModel" cX11_travellers 5 false rm pc lv [ml_i rv]) {k19 : Nat → Int32 → ml_M → Option (Int32 × ml_M)} (hk19 : ∀ (l0 : Nat) (l1 : Int32) (m : ml_M), k19 l0 l1 m = some (rv, rm) → ml_V E "LostRoomModel" cX11_travellers 5 false m 19 [(0, ml_r l0), (1, ml_i l1)] []) : ∀ (fu : Nat) (l0 : Nat) (l1 : Int32) (l2 : Int32) (m : ml_M), fX11_travellers_47 k19 fu l0 l1 l2 m = some (rv, rm) → ml_V E "LostRoomModel" cX11_travellers 5 false m 47 [(0, ml_r l0), (1, ml_i l1), (2, ml_i l2)] [] := by
  intro fu
  induction fu with
  | zero => intro l0 l1 l2 m h; exact ml_none h
  | succ fu ih =>
    intro l0 l1 l2 m h
    have hk47 := ih
    unfold fX11_travellers_47 at h
    exact ml_iload_n dX11_travellers_47 2 rfl <| ml_if_le dX11_travellers_48 h (fun _ h => ml_V.sub [0, 1] rfl (vX11_travellers_113 hL hr hk19 _ _ _ h)) (fun _ h => ml_aload_n dX11_travellers_51 0 rfl <| ml_ck_of h fun hc3543 h => ml_getR dX11_travellers_52 wb_460 hc3543 <| ml_lx (mk := ml_r) h fun a3544 h => ml_iload_n dX11_travellers_55 2 rfl <| ml_ck_of h fun hi3545 h => ml_zald dX11_travellers_56 hi3545 <| ml_if_eq dX11_travellers_57 h (fun _ h => ml_bipush dX11_travellers_75 kc_b100 <| ml_V.sub [0, 1, 2] rfl (vX11_travellers_77 hL hr hk19 hk47 _ _ _ _ _ h)) (fun _ h => ml_iconst dX11_travellers_60 kc_i1 <| ml_aload_n dX11_travellers_61 0 rfl <| ml_getR dX11_travellers_62 wb_462 hc3543 <| ml_lx (mk := ml_r) h fun a3546 h => ml_iload_n dX11_travellers_65 1 rfl <| ml_iload_n dX11_travellers_66 2 rfl <| ml_iconst dX11_travellers_67 kc_im1 <| ml_ixor dX11_travellers_68 <| ml_iand dX11_travellers_69 <| ml_ck_of h fun hi3547 h => ml_iald dX11_travellers_70 hi3547 <| ml_iadd dX11_travellers_71 <| ml_goto dX11_travellers_72 <| ml_V.sub [0, 1, 2] rfl (vX11_travellers_77 hL hr hk19 hk47 _ _ _ _ _ h)))
def fX11_travellers_44 (k19 : Nat → Int32 → ml_M → Option (Int32 × ml_M)) (l0 : Nat) (l1 : Int32) (t0 : Int32) (t1 : Int32) (t2 : Nat) (m : ml_M) : Option (Int32 × ml_M) :=
    if ml_in m t2 20 t1 then
    ml_let (ml_sI m t2 t1.toNatClampNeg t0) fun m3549 =>
    fX11_travellers_47 k19 ml_fu l0 l1 l1 m3549
    else none
theorem vX11_travellers_44 {E : ml_E} (hL : ml_eL E = 4) {rv : Int32} {rm : ml_M} (hr : ∀ (pc pc' : Nat) (lv : List (Nat × ml_X)), ml_d cX11_travellers pc .ireturn 1 pc' → True → ml_V E "LostRoomModel" cX11_travellers 5 false rm pc lv [ml_i rv]) {k19 : Nat → Int32 → ml_M → Option (Int32 × ml_M)} (hk19 : ∀ (l0 : Nat) (l1 : Int32) (m : ml_M), k19 l0 l1 m = some (rv, rm) → ml_V E "LostRoomModel" cX11_travellers 5 false m 19 [(0, ml_r l0), (1, ml_i l1)] []) : ∀ (l0 : Nat) (l1 : Int32) (t0 : Int32) (t1 : Int32) (t2 : Nat) (m : ml_M), fX11_travellers_44 k19 l0 l1 t0 t1 t2 m = some (rv, rm) → ml_V E "LostRoomModel" cX11_travellers 5 false m 44 [(0, ml_r l0), (1, ml_i l1)] [ml_i t0, ml_i t1, ml_r t2] := by
  intro l0 l1 t0 t1 t2 m h
  unfold fX11_travellers_44 at h
  exact ml_ck_of h fun hi3548 h => ml_iast dX11_travellers_44 hi3548 <| ml_lt (m := m) rfl h fun m3549 em3550 h => ml_iload_n dX11_travellers_45 1 rfl <| ml_istore_n (lv' := [(2, ml_i l1), (0, ml_r l0), (1, ml_i l1)]) dX11_travellers_46 (ml_hn hL rfl) rfl <| ml_V.sub [1, 2, 0] rfl (vX11_travellers_47 hL hr hk19 ml_fu _ _ _ _ h)
def fX11_travellers_119 (l0 : Nat) (m : ml_M) : Option (Int32 × ml_M) :=
    if (ml_K m l0).1 = 11 then
    ml_let (ml_R m l0 45) fun a3552 =>
    if ml_in m a3552 20 (((1 : Int32) <<< ((ml_I m l0 41) &&& 31)) - (1 : Int32)) then
    some ((ml_I m a3552 (((1 : Int32) <<< ((ml_I m l0 41) &&& 31)) - (1 : Int32)).toNatClampNeg), m)
    else none
    else none
theorem vX11_travellers_119 {E : ml_E} (hL : ml_eL E = 4) {rv : Int32} {rm : ml_M} (hr : ∀ (pc pc' : Nat) (lv : List (Nat × ml_X)), ml_d cX11_travellers pc .ireturn 1 pc' → True → ml_V E "LostRoomModel" cX11_travellers 5 false rm pc lv [ml_i rv]) : ∀ (l0 : Nat) (m : ml_M), fX11_travellers_119 l0 m = some (rv, rm) → ml_V E "LostRoomModel" cX11_travellers 5 false m 119 [(0, ml_r l0)] [] := by
  intro l0 m h
  unfold fX11_travellers_119 at h
  exact ml_aload_n dX11_travellers_119 0 rfl <| ml_ck_of h fun hc3551 h => ml_getR dX11_travellers_120 wb_462 hc3551 <| ml_lx (mk := ml_r) h fun a3552 h => ml_iconst dX11_travellers_123 kc_i1 <| ml_aload_n dX11_travellers_124 0 rfl <| ml_getI dX11_travellers_125 wb_456 hc3551 <| ml_ishl dX11_travellers_128 <| ml_iconst dX11_travellers_129 kc_i1 <| ml_isub dX11_travellers_130 <| ml_ck_of h fun hi3553 h => ml_iald dX11_travellers_131 hi3553 <| ml_rI (mk := ml_i) hr dX11_travellers_132 (fun _ => trivial) h
def fX11_travellers_19 : Nat → Nat → Int32 → ml_M → Option (Int32 × ml_M)
  | 0, _, _, _ => none
  | fu + 1, l0, l1, m =>
    if (ml_K m l0).1 = 11 then
    if ((1 : Int32) <<< ((ml_I m l0 41) &&& 31)) ≤ l1 then
    fX11_travellers_119 l0 m
    else
    ml_let (ml_R m l0 45) fun a3555 =>
    if l1 = 0 then
    fX11_travellers_44 (fX11_travellers_19 fu) l0 l1 (0 : Int32) l1 a3555 m
    else
    fX11_travellers_44 (fX11_travellers_19 fu) l0 l1 (100 : Int32) l1 a3555 m
    else none
theorem vX11_travellers_19 {E : ml_E} (hL : ml_eL E = 4) {rv : Int32} {rm : ml_M} (hr : ∀ (pc pc' : Nat) (lv : List (Nat × ml_X)), ml_d cX11_travellers pc .ireturn 1 pc' → True → ml_V E "LostRoomModel" cX11_travellers 5 false rm pc lv [ml_i rv]) : ∀ (fu : Nat) (l0 : Nat) (l1 : Int32) (m : ml_M), fX11_travellers_19 fu l0 l1 m = some (rv, rm) → ml_V E "LostRoomModel" cX11_travellers 5 false m 19 [(0, ml_r l0), (1, ml_i l1)] [] := by
  intro fu
  induction fu with
  | zero => intro l0 l1 m h; exact ml_none h
  | succ fu ih =>
    intro l0 l1 m h
    have hk19 := ih
    unfold fX11_travellers_19 at h
    exact ml_iload_n dX11_travellers_19 1 rfl <| ml_iconst dX11_travellers_20 kc_i1 <| ml_aload_n dX11_travellers_21 0 rfl <| ml_ck_of h fun hc3554 h => ml_getI dX11_travellers_22 wb_456 hc3554 <| ml_ishl dX11_travellers_25 <| ml_icmp_ge dX11_travellers_26 h (fun _ h => ml_V.sub [0] rfl (vX11_travellers_119 hL hr  _ _ h)) (fun _ h => ml_aload_n dX11_travellers_29 0 rfl <| ml_getR dX11_travellers_30 wb_462 hc3554 <| ml_lx (mk := ml_r) h fun a3555 h => ml_iload_n dX11_travellers_33 1 rfl <| ml_iload_n dX11_travellers_34 1 rfl <| ml_if_ne dX11_travellers_35 h (fun _ h => ml_bipush dX11_travellers_42 kc_b100 <| ml_V.sub [0, 1] rfl (vX11_travellers_44 hL hr hk19 _ _ _ _ _ _ h)) (fun _ h => ml_iconst dX11_travellers_38 kc_i0 <| ml_goto dX11_travellers_39 <| ml_V.sub [0, 1] rfl (vX11_travellers_44 hL hr hk19 _ _ _ _ _ _ h)))
def fX11_travellers (l0 : Nat) (m : ml_M) : Option (Int32 × ml_M) :=
    if (ml_K m l0).1 = 11 then
    ml_b2 (fX11_layTickets l0 (-1 : Int32) m) fun r3558 m3559 =>
    if r3558 ≤ (10 : Int32) then
    if (ml_K m3559 l0).1 = 11 then
    ml_b1 (fX11_layJourneys l0 m3559) fun m3562 =>
    fX11_travellers_19 ml_fu l0 (0 : Int32) m3562
    else none
    else
    some ((-6 : Int32), m3559)
    else none
theorem wX11_travellers_0 {E : ml_E} (hL : ml_eL E = 4) {rv : Int32} {rm : ml_M} (hr : ∀ (pc pc' : Nat) (lv : List (Nat × ml_X)), ml_d cX11_travellers pc .ireturn 1 pc' → True → ml_V E "LostRoomModel" cX11_travellers 5 false rm pc lv [ml_i rv]) : ∀ (l0 : Nat) (m : ml_M), fX11_travellers l0 m = some (rv, rm) → ml_V E "LostRoomModel" cX11_travellers 5 false m 0 [(0, ml_r l0)] [] := by
  intro l0 m h
  unfold fX11_travellers at h
  exact ml_aload_n dX11_travellers_0 0 rfl <| ml_iconst dX11_travellers_1 kc_im1 <| ml_ck_of h fun hc3557 h => ml_b2_of h fun r3558 m3559 hv3556 h => ml_callV dX11_travellers_2 wm_763 wb_463 hc3557 (sX11_layTickets hv3556) rfl (Nat.le_of_ble_eq_true rfl) (Nat.le_of_ble_eq_true rfl) rfl <| ml_bipush dX11_travellers_5 kc_b10 <| ml_icmp_le dX11_travellers_7 h (fun _ h => ml_aload_n dX11_travellers_13 0 rfl <| ml_ck_of h fun hc3561 h => ml_b1_of h fun m3562 hv3560 h => ml_callV dX11_travellers_14 wm_767 wb_464 hc3561 (sX11_layJourneys hv3560) rfl (Nat.le_of_ble_eq_true rfl) (Nat.le_of_ble_eq_true rfl) rfl <| ml_iconst dX11_travellers_17 kc_i0 <| ml_istore_n (lv' := [(1, ml_i (0 : Int32)), (0, ml_r l0)]) dX11_travellers_18 (ml_hn hL rfl) rfl <| ml_V.sub [1, 0] rfl (vX11_travellers_19 hL hr  ml_fu _ _ _ h)) (fun _ h => ml_bipush dX11_travellers_10 kc_bm6 <| ml_rI (mk := ml_i) hr dX11_travellers_12 (fun _ => trivial) h)
theorem sX11_travellers {l0 : Nat} {m : ml_M} {rv : Int32} {rm : ml_M} (h : fX11_travellers l0 m = some (rv, rm)) : ml_Sn yX11_travellers cX11_travellers 4 (some .int) 5 [ml_r l0] m (some (ml_i rv)) rm :=
  ml_Sn_of (P := True) (ini := false) (by decide +kernel) (Nat.le_of_ble_eq_true rfl) (fun h => by cases h) (fun _ => ml_RkI rv) fun E hL hr => wX11_travellers_0 hL hr _ _ h

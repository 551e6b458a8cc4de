/-! printed by wip/p51/emit.py out of the claim's own listing -/
theorem dX10_thingFact_0 : ml_d cX10_thingFact 0 (.aload_n 0) 1 1 := ⟨by decide +kernel, rfl⟩
theorem dX10_thingFact_1 : ml_d cX10_thingFact 1 (.getfield 36) 3 4 := ⟨by decide +kernel, rfl⟩
theorem dX10_thingFact_4 : ml_d cX10_thingFact 4 (.iload_n 1) 1 5 := ⟨by decide +kernel, rfl⟩
theorem dX10_thingFact_5 : ml_d cX10_thingFact 5 (.aaload) 1 6 := ⟨by decide +kernel, rfl⟩
theorem dX10_thingFact_6 : ml_d cX10_thingFact 6 (.astore_n 3) 1 7 := ⟨by decide +kernel, rfl⟩
theorem dX10_thingFact_7 : ml_d cX10_thingFact 7 (.iload_n 2) 1 8 := ⟨by decide +kernel, rfl⟩
theorem dX10_thingFact_8 : decode cX10_thingFact 8 = .ok (.tableswitch 52 0 3 #[32, 37, 42, 47], 32) := by decide +kernel
theorem dX10_thingFact_40 : ml_d cX10_thingFact 40 (.aload_n 3) 1 41 := ⟨by decide +kernel, rfl⟩
theorem dX10_thingFact_41 : ml_d cX10_thingFact 41 (.getfield 210) 3 44 := ⟨by decide +kernel, rfl⟩
theorem dX10_thingFact_44 : ml_d cX10_thingFact 44 (.ireturn) 1 45 := ⟨by decide +kernel, rfl⟩
theorem dX10_thingFact_45 : ml_d cX10_thingFact 45 (.aload_n 3) 1 46 := ⟨by decide +kernel, rfl⟩
theorem dX10_thingFact_46 : ml_d cX10_thingFact 46 (.getfield 390) 3 49 := ⟨by decide +kernel, rfl⟩
theorem dX10_thingFact_49 : ml_d cX10_thingFact 49 (.ireturn) 1 50 := ⟨by decide +kernel, rfl⟩
theorem dX10_thingFact_50 : ml_d cX10_thingFact 50 (.aload_n 3) 1 51 := ⟨by decide +kernel, rfl⟩
theorem dX10_thingFact_51 : ml_d cX10_thingFact 51 (.getfield 391) 3 54 := ⟨by decide +kernel, rfl⟩
theorem dX10_thingFact_54 : ml_d cX10_thingFact 54 (.ireturn) 1 55 := ⟨by decide +kernel, rfl⟩
theorem dX10_thingFact_55 : ml_d cX10_thingFact 55 (.aload_n 3) 1 56 := ⟨by decide +kernel, rfl⟩
theorem dX10_thingFact_56 : ml_d cX10_thingFact 56 (.getfield 175) 3 59 := ⟨by decide +kernel, rfl⟩
theorem dX10_thingFact_59 : ml_d cX10_thingFact 59 (.ireturn) 1 60 := ⟨by decide +kernel, rfl⟩
theorem dX10_thingFact_60 : ml_d cX10_thingFact 60 (.aload_n 3) 1 61 := ⟨by decide +kernel, rfl⟩
theorem dX10_thingFact_61 : ml_d cX10_thingFact 61 (.getfield 178) 3 64 := ⟨by decide +kernel, rfl⟩
theorem dX10_thingFact_64 : ml_j cX10_thingFact 64 (.ifCond .eq) 71 67 := ⟨7, by decide +kernel, by decide, rfl⟩
theorem dX10_thingFact_67 : ml_d cX10_thingFact 67 (.iconst 1) 1 68 := ⟨by decide +kernel, rfl⟩
theorem dX10_thingFact_68 : ml_j cX10_thingFact 68 .goto 72 71 := ⟨4, by decide +kernel, by decide, rfl⟩
theorem dX10_thingFact_71 : ml_d cX10_thingFact 71 (.iconst 0) 1 72 := ⟨by decide +kernel, rfl⟩
theorem dX10_thingFact_72 : ml_d cX10_thingFact 72 (.ireturn) 1 73 := ⟨by decide +kernel, rfl⟩
def fX10_thingFact (l0 : Nat) (l1 : Int32) (l2 : Int32) (m : ml_M) : Option Int32 :=
    if (ml_K m l0).1 = 10 then
    ml_let (ml_R m l0 4) fun a1587 =>
    if ml_in m a1587 29 l1 then
    ml_let (ml_R m a1587 l1.toNatClampNeg) fun a1589 =>
    if l2 = (0 : Int32) then
    if (ml_K m a1589).1 = 8 then
    some (ml_I m a1589 0)
    else none
    else if l2 = (1 : Int32) then
    if (ml_K m a1589).1 = 8 then
    some (ml_I m a1589 1)
    else none
    else if l2 = (2 : Int32) then
    if (ml_K m a1589).1 = 8 then
    some (ml_I m a1589 2)
    else none
    else if l2 = (3 : Int32) then
    if (ml_K m a1589).1 = 8 then
    some (ml_I m a1589 6)
    else none
    else if (ml_K m a1589).1 = 8 then
    if (ml_I m a1589 7) = 0 then
    some (0 : Int32)
    else
    some (1 : Int32)
    else none
    else none
    else none
theorem wX10_thingFact_0 {E : ml_E} (hL : ml_eL E = 4) {rv : Int32} {m : ml_M} (hr : ∀ (pc pc' : Nat) (lv : List (Nat × ml_X)), ml_d cX10_thingFact pc .ireturn 1 pc' → True → ml_V E "LostRoom" cX10_thingFact 2 false m pc lv [ml_i rv]) : ∀ (l0 : Nat) (l1 : Int32) (l2 : Int32), fX10_thingFact l0 l1 l2 m = some rv → ml_V E "LostRoom" cX10_thingFact 2 false m 0 [(0, ml_r l0), (1, ml_i l1), (2, ml_i l2)] [] := by
  intro l0 l1 l2 h
  unfold fX10_thingFact at h
  exact ml_aload_n dX10_thingFact_0 0 rfl <| ml_ck_of h fun hc1586 h => ml_getR dX10_thingFact_1 wb_78 hc1586 <| ml_lx (mk := ml_r) h fun a1587 h => ml_iload_n dX10_thingFact_4 1 rfl <| ml_ck_of h fun hi1588 h => ml_aald (kd := 29) dX10_thingFact_5 (by decide) hi1588 <| ml_lx (mk := ml_r) h fun a1589 h => ml_astore_n (lv' := [(3, ml_r a1589), (0, ml_r l0), (1, ml_i l1), (2, ml_i l2)]) dX10_thingFact_6 (ml_hn hL rfl) rfl <| ml_iload_n dX10_thingFact_7 3 rfl <| ml_sw_of h (fun hq1591 h => ml_swInC (off := 32) (0 : Int32) hq1591 dX10_thingFact_8 ⟨by decide, by decide, by decide⟩ <| ml_aload_n dX10_thingFact_40 0 rfl <| ml_ck_of h fun hc1590 h => ml_getI dX10_thingFact_41 wb_183 hc1590 <| ml_rp (mk := ml_i) hr dX10_thingFact_44 (fun _ => trivial) h) (fun hq1592 h => ml_sw_of h (fun hq1594 h => ml_swInC (off := 37) (1 : Int32) hq1594 dX10_thingFact_8 ⟨by decide, by decide, by decide⟩ <| ml_aload_n dX10_thingFact_45 0 rfl <| ml_ck_of h fun hc1593 h => ml_getI dX10_thingFact_46 wb_262 hc1593 <| ml_rp (mk := ml_i) hr dX10_thingFact_49 (fun _ => trivial) h) (fun hq1595 h => ml_sw_of h (fun hq1597 h => ml_swInC (off := 42) (2 : Int32) hq1597 dX10_thingFact_8 ⟨by decide, by decide, by decide⟩ <| ml_aload_n dX10_thingFact_50 0 rfl <| ml_ck_of h fun hc1596 h => ml_getI dX10_thingFact_51 wb_263 hc1596 <| ml_rp (mk := ml_i) hr dX10_thingFact_54 (fun _ => trivial) h) (fun hq1598 h => ml_sw_of h (fun hq1600 h => ml_swInC (off := 47) (3 : Int32) hq1600 dX10_thingFact_8 ⟨by decide, by decide, by decide⟩ <| ml_aload_n dX10_thingFact_55 0 rfl <| ml_ck_of h fun hc1599 h => ml_getI dX10_thingFact_56 wb_233 hc1599 <| ml_rp (mk := ml_i) hr dX10_thingFact_59 (fun _ => trivial) h) (fun hq1601 h => ml_swOut dX10_thingFact_8 (by have w0 := lv_neT hq1592 (show (0 : Int32).toInt = 0 from by decide); have w1 := lv_neT hq1595 (show (1 : Int32).toInt = 1 from by decide); have w2 := lv_neT hq1598 (show (2 : Int32).toInt = 2 from by decide); have w3 := lv_neT hq1601 (show (3 : Int32).toInt = 3 from by decide); omega) (by decide) <| ml_aload_n dX10_thingFact_60 0 rfl <| ml_ck_of h fun hc1602 h => ml_getI dX10_thingFact_61 wb_254 hc1602 <| ml_if_eq dX10_thingFact_64 h (fun _ h => ml_iconst dX10_thingFact_71 kc_i0 <| ml_rp (mk := ml_i) hr dX10_thingFact_72 (fun _ => trivial) h) (fun _ h => ml_iconst dX10_thingFact_67 kc_i1 <| ml_goto dX10_thingFact_68 <| ml_rp (mk := ml_i) hr dX10_thingFact_72 (fun _ => trivial) h)))))
theorem sX10_thingFact {l0 : Nat} {l1 : Int32} {l2 : Int32} {m : ml_M} {rv : Int32} (h : fX10_thingFact l0 l1 l2 m = some rv) : ml_Sn yX10_thingFact cX10_thingFact 4 (some .int) 2 [ml_r l0, ml_i l1, ml_i l2] m (some (ml_i rv)) m :=
  ml_Sn_of (P := True) (ini := false) (by decide +kernel) (Nat.le_of_ble_eq_true rfl) (fun h => by cases h) (fun _ => ml_RkI rv) fun E hL hr => wX10_thingFact_0 hL hr _ _ _ h
theorem dX10_told_0 : ml_d cX10_told 0 (.aload_n 0) 1 1 := ⟨by decide +kernel, rfl⟩
theorem dX10_told_1 : ml_d cX10_told 1 (.iload_n 1) 1 2 := ⟨by decide +kernel, rfl⟩
theorem dX10_told_2 : ml_d cX10_told 2 (.invokevirtual 172) 3 5 := ⟨by decide +kernel, rfl⟩
theorem dX10_told_5 : ml_j cX10_told 5 (.ifCond .eq) 17 8 := ⟨12, by decide +kernel, by decide, rfl⟩
theorem dX10_told_8 : ml_d cX10_told 8 (.iload_n 2) 1 9 := ⟨by decide +kernel, rfl⟩
theorem dX10_told_9 : ml_d cX10_told 9 (.iconst 0) 1 10 := ⟨by decide +kernel, rfl⟩
theorem dX10_told_10 : ml_d cX10_told 10 (.iconst 4) 1 11 := ⟨by decide +kernel, rfl⟩
theorem dX10_told_11 : ml_d cX10_told 11 (.invokestatic 138) 3 14 := ⟨by decide +kernel, rfl⟩
theorem dX10_told_14 : ml_j cX10_told 14 (.ifCond .ne) 19 17 := ⟨5, by decide +kernel, by decide, rfl⟩
theorem dX10_told_17 : ml_d cX10_told 17 (.iconst (-1)) 1 18 := ⟨by decide +kernel, rfl⟩
theorem dX10_told_18 : ml_d cX10_told 18 (.ireturn) 1 19 := ⟨by decide +kernel, rfl⟩
theorem dX10_told_19 : ml_d cX10_told 19 (.aload_n 0) 1 20 := ⟨by decide +kernel, rfl⟩
theorem dX10_told_20 : ml_d cX10_told 20 (.aload_n 0) 1 21 := ⟨by decide +kernel, rfl⟩
theorem dX10_told_21 : ml_d cX10_told 21 (.iload_n 1) 1 22 := ⟨by decide +kernel, rfl⟩
theorem dX10_told_22 : ml_d cX10_told 22 (.iload_n 2) 1 23 := ⟨by decide +kernel, rfl⟩
theorem dX10_told_23 : ml_d cX10_told 23 (.invokevirtual 181) 3 26 := ⟨by decide +kernel, rfl⟩
theorem dX10_told_26 : ml_d cX10_told 26 (.invokevirtual 90) 3 29 := ⟨by decide +kernel, rfl⟩
theorem dX10_told_29 : ml_d cX10_told 29 (.ireturn) 1 30 := ⟨by decide +kernel, rfl⟩
def fX10_told (l0 : Nat) (l1 : Int32) (l2 : Int32) (m : ml_M) : Option (Int32 × ml_M) :=
    if (ml_K m l0).1 = 10 then
    ml_b1 (fX10_isThing l0 l1 m) fun r1605 =>
    if r1605 = 0 then
    some ((-1 : Int32), m)
    else
    ml_b1 (fX10_within l2 (0 : Int32) (4 : Int32) m) fun r1607 =>
    if r1607 = 0 then
    some ((-1 : Int32), m)
    else
    ml_b1 (fX10_thingFact l0 l1 l2 m) fun r1609 =>
    ml_b2 (fX10_tell l0 r1609 m) fun r1611 m1612 =>
    some (r1611, m1612)
    else none
theorem wX10_told_0 {E : ml_E} (hL : ml_eL E = 3) {rv : Int32} {rm : ml_M} (hr : ∀ (pc pc' : Nat) (lv : List (Nat × ml_X)), ml_d cX10_told pc .ireturn 1 pc' → True → ml_V E "LostRoom" cX10_told 4 false rm pc lv [ml_i rv]) : ∀ (l0 : Nat) (l1 : Int32) (l2 : Int32) (m : ml_M), fX10_told l0 l1 l2 m = some (rv, rm) → ml_V E "LostRoom" cX10_told 4 false m 0 [(0, ml_r l0), (1, ml_i l1), (2, ml_i l2)] [] := by
  intro l0 l1 l2 m h
  unfold fX10_told at h
  exact ml_aload_n dX10_told_0 0 rfl <| ml_iload_n dX10_told_1 1 rfl <| ml_ck_of h fun hc1604 h => ml_b1_of h fun r1605 hv1603 h => ml_callV dX10_told_2 wm_159 wb_85 hc1604 (sX10_isThing hv1603) rfl (Nat.le_of_ble_eq_true rfl) (Nat.le_of_ble_eq_true rfl) rfl <| ml_if_eq dX10_told_5 h (fun _ h => ml_iconst dX10_told_17 kc_im1 <| ml_rI (mk := ml_i) hr dX10_told_18 (fun _ => trivial) h) (fun _ h => ml_iload_n dX10_told_8 2 rfl <| ml_iconst dX10_told_9 kc_i0 <| ml_iconst dX10_told_10 kc_i4 <| ml_b1_of h fun r1607 hv1606 h => ml_callS dX10_told_11 wm_21 wb_4 (sX10_within hv1606) rfl (Nat.le_of_ble_eq_true rfl) (Nat.le_of_ble_eq_true rfl) rfl <| ml_if_ne dX10_told_14 h (fun _ h => ml_aload_n dX10_told_19 0 rfl <| ml_aload_n dX10_told_20 0 rfl <| ml_iload_n dX10_told_21 1 rfl <| ml_iload_n dX10_told_22 2 rfl <| ml_b1_of h fun r1609 hv1608 h => ml_callV dX10_told_23 wm_434 wb_264 hc1604 (sX10_thingFact hv1608) rfl (Nat.le_of_ble_eq_true rfl) (Nat.le_of_ble_eq_true rfl) rfl <| ml_b2_of h fun r1611 m1612 hv1610 h => ml_callV dX10_told_26 wm_428 wb_261 hc1604 (sX10_tell hv1610) rfl (Nat.le_of_ble_eq_true rfl) (Nat.le_of_ble_eq_true rfl) rfl <| ml_rI (mk := ml_i) hr dX10_told_29 (fun _ => trivial) h) (fun _ h => ml_iconst dX10_told_17 kc_im1 <| ml_rI (mk := ml_i) hr dX10_told_18 (fun _ => trivial) h))
theorem sX10_told {l0 : Nat} {l1 : Int32} {l2 : Int32} {m : ml_M} {rv : Int32} {rm : ml_M} (h : fX10_told l0 l1 l2 m = some (rv, rm)) : ml_Sn yX10_told cX10_told 3 (some .int) 4 [ml_r l0, ml_i l1, ml_i l2] m (some (ml_i rv)) rm :=
  ml_Sn_of (P := True) (ini := false) (by decide +kernel) (Nat.le_of_ble_eq_true rfl) (fun h => by cases h) (fun _ => ml_RkI rv) fun E hL hr => wX10_told_0 hL hr _ _ _ _ h
theorem dX10_thingsIn_0 : ml_d cX10_thingsIn 0 (.iconst 0) 1 1 := ⟨by decide +kernel, rfl⟩
theorem dX10_thingsIn_1 : ml_d cX10_thingsIn 1 (.istore_n 2) 1 2 := ⟨by decide +kernel, rfl⟩
theorem dX10_thingsIn_2 : ml_d cX10_thingsIn 2 (.iconst 0) 1 3 := ⟨by decide +kernel, rfl⟩
theorem dX10_thingsIn_3 : ml_d cX10_thingsIn 3 (.istore_n 3) 1 4 := ⟨by decide +kernel, rfl⟩
theorem dX10_thingsIn_4 : ml_d cX10_thingsIn 4 (.iload_n 3) 1 5 := ⟨by decide +kernel, rfl⟩
theorem dX10_thingsIn_5 : ml_d cX10_thingsIn 5 (.aload_n 0) 1 6 := ⟨by decide +kernel, rfl⟩
theorem dX10_thingsIn_6 : ml_d cX10_thingsIn 6 (.getfield 118) 3 9 := ⟨by decide +kernel, rfl⟩
theorem dX10_thingsIn_9 : ml_j cX10_thingsIn 9 (.if_icmp .ge) 34 12 := ⟨25, by decide +kernel, by decide, rfl⟩
theorem dX10_thingsIn_12 : ml_d cX10_thingsIn 12 (.aload_n 0) 1 13 := ⟨by decide +kernel, rfl⟩
theorem dX10_thingsIn_13 : ml_d cX10_thingsIn 13 (.getfield 36) 3 16 := ⟨by decide +kernel, rfl⟩
theorem dX10_thingsIn_16 : ml_d cX10_thingsIn 16 (.iload_n 3) 1 17 := ⟨by decide +kernel, rfl⟩
theorem dX10_thingsIn_17 : ml_d cX10_thingsIn 17 (.aaload) 1 18 := ⟨by decide +kernel, rfl⟩
theorem dX10_thingsIn_18 : ml_d cX10_thingsIn 18 (.getfield 175) 3 21 := ⟨by decide +kernel, rfl⟩
theorem dX10_thingsIn_21 : ml_d cX10_thingsIn 21 (.iload_n 1) 1 22 := ⟨by decide +kernel, rfl⟩
theorem dX10_thingsIn_22 : ml_j cX10_thingsIn 22 (.if_icmp .ne) 28 25 := ⟨6, by decide +kernel, by decide, rfl⟩
theorem dX10_thingsIn_25 : ml_d cX10_thingsIn 25 (.iinc 2 1) 3 28 := ⟨by decide +kernel, rfl⟩
theorem dX10_thingsIn_28 : ml_d cX10_thingsIn 28 (.iinc 3 1) 3 31 := ⟨by decide +kernel, rfl⟩
theorem dX10_thingsIn_31 : ml_j cX10_thingsIn 31 .goto 4 34 := ⟨(-27), by decide +kernel, by decide, rfl⟩
theorem dX10_thingsIn_34 : ml_d cX10_thingsIn 34 (.iload_n 2) 1 35 := ⟨by decide +kernel, rfl⟩
theorem dX10_thingsIn_35 : ml_d cX10_thingsIn 35 (.ireturn) 1 36 := ⟨by decide +kernel, rfl⟩
def fX10_thingsIn_28 (k4 : Nat → Int32 → Int32 → Int32 → ml_M → Option Int32) (l0 : Nat) (l1 : Int32) (l2 : Int32) (l3 : Int32) (m : ml_M) : Option Int32 :=
    k4 l0 l1 l2 (l3 + (1 : Int32)) m
theorem vX10_thingsIn_28 {E : ml_E} (hL : ml_eL E = 4) {rv : Int32} {m : ml_M} (hr : ∀ (pc pc' : Nat) (lv : List (Nat × ml_X)), ml_d cX10_thingsIn pc .ireturn 1 pc' → True → ml_V E "LostRoom" cX10_thingsIn 2 false m pc lv [ml_i rv]) {k4 : Nat → Int32 → Int32 → Int32 → ml_M → Option Int32} (hk4 : ∀ (l0 : Nat) (l1 : Int32) (l2 : Int32) (l3 : Int32), k4 l0 l1 l2 l3 m = some rv → ml_V E "LostRoom" cX10_thingsIn 2 false m 4 [(0, ml_r l0), (1, ml_i l1), (2, ml_i l2), (3, ml_i l3)] []) : ∀ (l0 : Nat) (l1 : Int32) (l2 : Int32) (l3 : Int32), fX10_thingsIn_28 k4 l0 l1 l2 l3 m = some rv → ml_V E "LostRoom" cX10_thingsIn 2 false m 28 [(0, ml_r l0), (1, ml_i l1), (2, ml_i l2), (3, ml_i l3)] [] := by
  intro l0 l1 l2 l3 h
  unfold fX10_thingsIn_28 at h
  exact ml_iinc (lv' := [(3, ml_i (l3 + (1 : Int32))), (0, ml_r l0), (1, ml_i l1), (2, ml_i l2)]) dX10_thingsIn_28 3 rfl (congrArg (l3 + ·) kc_i1) (ml_hn hL rfl) rfl <| ml_goto dX10_thingsIn_31 <| ml_V.sub [1, 2, 3, 0] rfl (hk4 _ _ _ _ h)
def fX10_thingsIn_4 : Nat → Nat → Int32 → Int32 → Int32 → ml_M → Option Int32
  | 0, _, _, _, _, _ => none
  | fu + 1, l0, l1, l2, l3, m =>
    if (ml_K m l0).1 = 10 then
    if (ml_I m l0 5) ≤ l3 then
    some l2
    else
    ml_let (ml_R m l0 4) fun a1614 =>
    if ml_in m a1614 29 l3 then
    ml_let (ml_R m a1614 l3.toNatClampNeg) fun a1616 =>
    if (ml_K m a1616).1 = 8 then
    if (ml_I m a1616 6) = l1 then
    fX10_thingsIn_28 (fX10_thingsIn_4 fu) l0 l1 (l2 + (1 : Int32)) l3 m
    else
    fX10_thingsIn_28 (fX10_thingsIn_4 fu) l0 l1 l2 l3 m
    else none
    else none
    else none
theorem vX10_thingsIn_4 {E : ml_E} (hL : ml_eL E = 4) {rv : Int32} {m : ml_M} (hr : ∀ (pc pc' : Nat) (lv : List (Nat × ml_X)), ml_d cX10_thingsIn pc .ireturn 1 pc' → True → ml_V E "LostRoom" cX10_thingsIn 2 false m pc lv [ml_i rv]) : ∀ (fu : Nat) (l0 : Nat) (l1 : Int32) (l2 : Int32) (l3 : Int32), fX10_thingsIn_4 fu l0 l1 l2 l3 m = some rv → ml_V E "LostRoom" cX10_thingsIn 2 false m 4 [(0, ml_r l0), (1, ml_i l1), (2, ml_i l2), (3, ml_i l3)] [] := by
  intro fu
  induction fu with
  | zero => intro l0 l1 l2 l3 h; exact ml_none h
  | succ fu ih =>
    intro l0 l1 l2 l3 h
    have hk4 := ih
    unfold fX10_thingsIn_4 at h
    exact ml_iload_n dX10_thingsIn_4 3 rfl <| ml_aload_n dX10_thingsIn_5 0 rfl <| ml_ck_of h fun hc1613 h => ml_getI dX10_thingsIn_6 wb_77 hc1613 <| ml_icmp_ge dX10_thingsIn_9 h (fun _ h => ml_iload_n dX10_thingsIn_34 2 rfl <| ml_rp (mk := ml_i) hr dX10_thingsIn_35 (fun _ => trivial) h) (fun _ h => ml_aload_n dX10_thingsIn_12 0 rfl <| ml_getR dX10_thingsIn_13 wb_78 hc1613 <| ml_lx (mk := ml_r) h fun a1614 h => ml_iload_n dX10_thingsIn_16 3 rfl <| ml_ck_of h fun hi1615 h => ml_aald (kd := 29) dX10_thingsIn_17 (by decide) hi1615 <| ml_lx (mk := ml_r) h fun a1616 h => ml_ck_of h fun hc1617 h => ml_getI dX10_thingsIn_18 wb_233 hc1617 <| ml_iload_n dX10_thingsIn_21 1 rfl <| ml_icmp_ne dX10_thingsIn_22 h (fun _ h => ml_V.sub [0, 1, 2, 3] rfl (vX10_thingsIn_28 hL hr hk4 _ _ _ _ h)) (fun _ h => ml_iinc (lv' := [(2, ml_i (l2 + (1 : Int32))), (0, ml_r l0), (1, ml_i l1), (3, ml_i l3)]) dX10_thingsIn_25 2 rfl (congrArg (l2 + ·) kc_i1) (ml_hn hL rfl) rfl <| ml_V.sub [1, 2, 0, 3] rfl (vX10_thingsIn_28 hL hr hk4 _ _ _ _ h)))
def fX10_thingsIn (l0 : Nat) (l1 : Int32) (m : ml_M) : Option Int32 :=
    fX10_thingsIn_4 ml_fu l0 l1 (0 : Int32) (0 : Int32) m
theorem wX10_thingsIn_0 {E : ml_E} (hL : ml_eL E = 4) {rv : Int32} {m : ml_M} (hr : ∀ (pc pc' : Nat) (lv : List (Nat × ml_X)), ml_d cX10_thingsIn pc .ireturn 1 pc' → True → ml_V E "LostRoom" cX10_thingsIn 2 false m pc lv [ml_i rv]) : ∀ (l0 : Nat) (l1 : Int32), fX10_thingsIn l0 l1 m = some rv → ml_V E "LostRoom" cX10_thingsIn 2 false m 0 [(0, ml_r l0), (1, ml_i l1)] [] := by
  intro l0 l1 h
  unfold fX10_thingsIn at h
  exact ml_iconst dX10_thingsIn_0 kc_i0 <| ml_istore_n (lv' := [(2, ml_i (0 : Int32)), (0, ml_r l0), (1, ml_i l1)]) dX10_thingsIn_1 (ml_hn hL rfl) rfl <| ml_iconst dX10_thingsIn_2 kc_i0 <| ml_istore_n (lv' := [(3, ml_i (0 : Int32)), (2, ml_i (0 : Int32)), (0, ml_r l0), (1, ml_i l1)]) dX10_thingsIn_3 (ml_hn hL rfl) rfl <| ml_V.sub [2, 3, 1, 0] rfl (vX10_thingsIn_4 hL hr  ml_fu _ _ _ _ h)
theorem sX10_thingsIn {l0 : Nat} {l1 : Int32} {m : ml_M} {rv : Int32} (h : fX10_thingsIn l0 l1 m = some rv) : ml_Sn yX10_thingsIn cX10_thingsIn 4 (some .int) 2 [ml_r l0, ml_i l1] m (some (ml_i rv)) m :=
  ml_Sn_of (P := True) (ini := false) (by decide +kernel) (Nat.le_of_ble_eq_true rfl) (fun h => by cases h) (fun _ => ml_RkI rv) fun E hL hr => wX10_thingsIn_0 hL hr _ _ h
theorem dX10_trunkFact_0 : ml_d cX10_trunkFact 0 (.aload_n 0) 1 1 := ⟨by decide +kernel, rfl⟩
theorem dX10_trunkFact_1 : ml_d cX10_trunkFact 1 (.getfield 26) 3 4 := ⟨by decide +kernel, rfl⟩
theorem dX10_trunkFact_4 : ml_d cX10_trunkFact 4 (.getfield 219) 3 7 := ⟨by decide +kernel, rfl⟩
theorem dX10_trunkFact_7 : ml_d cX10_trunkFact 7 (.iload_n 1) 1 8 := ⟨by decide +kernel, rfl⟩
theorem dX10_trunkFact_8 : ml_d cX10_trunkFact 8 (.aaload) 1 9 := ⟨by decide +kernel, rfl⟩
theorem dX10_trunkFact_9 : ml_d cX10_trunkFact 9 (.astore_n 3) 1 10 := ⟨by decide +kernel, rfl⟩
theorem dX10_trunkFact_10 : ml_d cX10_trunkFact 10 (.iload_n 2) 1 11 := ⟨by decide +kernel, rfl⟩
theorem dX10_trunkFact_11 : decode cX10_trunkFact 11 = .ok (.tableswitch 40 0 2 #[25, 30, 35], 25) := by decide +kernel
theorem dX10_trunkFact_36 : ml_d cX10_trunkFact 36 (.aload_n 3) 1 37 := ⟨by decide +kernel, rfl⟩
theorem dX10_trunkFact_37 : ml_d cX10_trunkFact 37 (.getfield 381) 3 40 := ⟨by decide +kernel, rfl⟩
theorem dX10_trunkFact_40 : ml_d cX10_trunkFact 40 (.ireturn) 1 41 := ⟨by decide +kernel, rfl⟩
theorem dX10_trunkFact_41 : ml_d cX10_trunkFact 41 (.aload_n 3) 1 42 := ⟨by decide +kernel, rfl⟩
theorem dX10_trunkFact_42 : ml_d cX10_trunkFact 42 (.getfield 223) 3 45 := ⟨by decide +kernel, rfl⟩
theorem dX10_trunkFact_45 : ml_d cX10_trunkFact 45 (.ireturn) 1 46 := ⟨by decide +kernel, rfl⟩
theorem dX10_trunkFact_46 : ml_d cX10_trunkFact 46 (.aload_n 3) 1 47 := ⟨by decide +kernel, rfl⟩
theorem dX10_trunkFact_47 : ml_d cX10_trunkFact 47 (.getfield 384) 3 50 := ⟨by decide +kernel, rfl⟩
theorem dX10_trunkFact_50 : ml_d cX10_trunkFact 50 (.ireturn) 1 51 := ⟨by decide +kernel, rfl⟩
theorem dX10_trunkFact_51 : ml_d cX10_trunkFact 51 (.aload_n 0) 1 52 := ⟨by decide +kernel, rfl⟩
theorem dX10_trunkFact_52 : ml_d cX10_trunkFact 52 (.iload_n 1) 1 53 := ⟨by decide +kernel, rfl⟩
theorem dX10_trunkFact_53 : ml_d cX10_trunkFact 53 (.invokevirtual 387) 3 56 := ⟨by decide +kernel, rfl⟩
theorem dX10_trunkFact_56 : ml_d cX10_trunkFact 56 (.ireturn) 1 57 := ⟨by decide +kernel, rfl⟩
def fX10_trunkFact (l0 : Nat) (l1 : Int32) (l2 : Int32) (m : ml_M) : Option Int32 :=
    if (ml_K m l0).1 = 10 then
    ml_let (ml_R m l0 2) fun a1619 =>
    if (ml_K m a1619).1 = 1 then
    ml_let (ml_R m a1619 1) fun a1621 =>
    if ml_in m a1621 30 l1 then
    ml_let (ml_R m a1621 l1.toNatClampNeg) fun a1623 =>
    if l2 = (0 : Int32) then
    if (ml_K m a1623).1 = 9 then
    some (ml_I m a1623 0)
    else none
    else if l2 = (1 : Int32) then
    if (ml_K m a1623).1 = 9 then
    some (ml_I m a1623 1)
    else none
    else if l2 = (2 : Int32) then
    if (ml_K m a1623).1 = 9 then
    some (ml_I m a1623 2)
    else none
    else ml_b1 (fX10_thingsIn l0 l1 m) fun r1634 =>
    some r1634
    else none
    else none
    else none
theorem wX10_trunkFact_0 {E : ml_E} (hL : ml_eL E = 4) {rv : Int32} {m : ml_M} (hr : ∀ (pc pc' : Nat) (lv : List (Nat × ml_X)), ml_d cX10_trunkFact pc .ireturn 1 pc' → True → ml_V E "LostRoom" cX10_trunkFact 3 false m pc lv [ml_i rv]) : ∀ (l0 : Nat) (l1 : Int32) (l2 : Int32), fX10_trunkFact l0 l1 l2 m = some rv → ml_V E "LostRoom" cX10_trunkFact 3 false m 0 [(0, ml_r l0), (1, ml_i l1), (2, ml_i l2)] [] := by
  intro l0 l1 l2 h
  unfold fX10_trunkFact at h
  exact ml_aload_n dX10_trunkFact_0 0 rfl <| ml_ck_of h fun hc1618 h => ml_getR dX10_trunkFact_1 wb_71 hc1618 <| ml_lx (mk := ml_r) h fun a1619 h => ml_ck_of h fun hc1620 h => ml_getR dX10_trunkFact_4 wb_180 hc1620 <| ml_lx (mk := ml_r) h fun a1621 h => ml_iload_n dX10_trunkFact_7 1 rfl <| ml_ck_of h fun hi1622 h => ml_aald (kd := 30) dX10_trunkFact_8 (by decide) hi1622 <| ml_lx (mk := ml_r) h fun a1623 h => ml_astore_n (lv' := [(3, ml_r a1623), (0, ml_r l0), (1, ml_i l1), (2, ml_i l2)]) dX10_trunkFact_9 (ml_hn hL rfl) rfl <| ml_iload_n dX10_trunkFact_10 3 rfl <| ml_sw_of h (fun hq1625 h => ml_swInC (off := 25) (0 : Int32) hq1625 dX10_trunkFact_11 ⟨by decide, by decide, by decide⟩ <| ml_aload_n dX10_trunkFact_36 0 rfl <| ml_ck_of h fun hc1624 h => ml_getI dX10_trunkFact_37 wb_181 hc1624 <| ml_rp (mk := ml_i) hr dX10_trunkFact_40 (fun _ => trivial) h) (fun hq1626 h => ml_sw_of h (fun hq1628 h => ml_swInC (off := 30) (1 : Int32) hq1628 dX10_trunkFact_11 ⟨by decide, by decide, by decide⟩ <| ml_aload_n dX10_trunkFact_41 0 rfl <| ml_ck_of h fun hc1627 h => ml_getI dX10_trunkFact_42 wb_253 hc1627 <| ml_rp (mk := ml_i) hr dX10_trunkFact_45 (fun _ => trivial) h) (fun hq1629 h => ml_sw_of h (fun hq1631 h => ml_swInC (off := 35) (2 : Int32) hq1631 dX10_trunkFact_11 ⟨by decide, by decide, by decide⟩ <| ml_aload_n dX10_trunkFact_46 0 rfl <| ml_ck_of h fun hc1630 h => ml_getI dX10_trunkFact_47 wb_265 hc1630 <| ml_rp (mk := ml_i) hr dX10_trunkFact_50 (fun _ => trivial) h) (fun hq1632 h => ml_swOut dX10_trunkFact_11 (by have w0 := lv_neT hq1626 (show (0 : Int32).toInt = 0 from by decide); have w1 := lv_neT hq1629 (show (1 : Int32).toInt = 1 from by decide); have w2 := lv_neT hq1632 (show (2 : Int32).toInt = 2 from by decide); omega) (by decide) <| ml_aload_n dX10_trunkFact_51 1 rfl <| ml_iload_n dX10_trunkFact_52 2 rfl <| ml_b1_of h fun r1634 hv1633 h => ml_callV dX10_trunkFact_53 wm_439 wb_266 hc1618 (sX10_thingsIn hv1633) rfl (Nat.le_of_ble_eq_true rfl) (Nat.le_of_ble_eq_true rfl) rfl <| ml_rp (mk := ml_i) hr dX10_trunkFact_56 (fun _ => trivial) h)))
theorem sX10_trunkFact {l0 : Nat} {l1 : Int32} {l2 : Int32} {m : ml_M} {rv : Int32} (h : fX10_trunkFact l0 l1 l2 m = some rv) : ml_Sn yX10_trunkFact cX10_trunkFact 4 (some .int) 3 [ml_r l0, ml_i l1, ml_i l2] m (some (ml_i rv)) m :=
  ml_Sn_of (P := True) (ini := false) (by decide +kernel) (Nat.le_of_ble_eq_true rfl) (fun h => by cases h) (fun _ => ml_RkI rv) fun E hL hr => wX10_trunkFact_0 hL hr _ _ _ h
theorem dX10_trunk_0 : ml_d cX10_trunk 0 (.aload_n 0) 1 1 := ⟨by decide +kernel, rfl⟩
theorem dX10_trunk_1 : ml_d cX10_trunk 1 (.iload_n 1) 1 2 := ⟨by decide +kernel, rfl⟩
theorem dX10_trunk_2 : ml_d cX10_trunk 2 (.invokevirtual 148) 3 5 := ⟨by decide +kernel, rfl⟩
theorem dX10_trunk_5 : ml_j cX10_trunk 5 (.ifCond .eq) 17 8 := ⟨12, by decide +kernel, by decide, rfl⟩
theorem dX10_trunk_8 : ml_d cX10_trunk 8 (.iload_n 2) 1 9 := ⟨by decide +kernel, rfl⟩
theorem dX10_trunk_9 : ml_d cX10_trunk 9 (.iconst 0) 1 10 := ⟨by decide +kernel, rfl⟩
theorem dX10_trunk_10 : ml_d cX10_trunk 10 (.iconst 3) 1 11 := ⟨by decide +kernel, rfl⟩
theorem dX10_trunk_11 : ml_d cX10_trunk 11 (.invokestatic 138) 3 14 := ⟨by decide +kernel, rfl⟩
theorem dX10_trunk_14 : ml_j cX10_trunk 14 (.ifCond .ne) 19 17 := ⟨5, by decide +kernel, by decide, rfl⟩
theorem dX10_trunk_17 : ml_d cX10_trunk 17 (.iconst (-1)) 1 18 := ⟨by decide +kernel, rfl⟩
theorem dX10_trunk_18 : ml_d cX10_trunk 18 (.ireturn) 1 19 := ⟨by decide +kernel, rfl⟩
theorem dX10_trunk_19 : ml_d cX10_trunk 19 (.aload_n 0) 1 20 := ⟨by decide +kernel, rfl⟩
theorem dX10_trunk_20 : ml_d cX10_trunk 20 (.aload_n 0) 1 21 := ⟨by decide +kernel, rfl⟩
theorem dX10_trunk_21 : ml_d cX10_trunk 21 (.iload_n 1) 1 22 := ⟨by decide +kernel, rfl⟩
theorem dX10_trunk_22 : ml_d cX10_trunk 22 (.iload_n 2) 1 23 := ⟨by decide +kernel, rfl⟩
theorem dX10_trunk_23 : ml_d cX10_trunk 23 (.invokevirtual 151) 3 26 := ⟨by decide +kernel, rfl⟩
theorem dX10_trunk_26 : ml_d cX10_trunk 26 (.invokevirtual 90) 3 29 := ⟨by decide +kernel, rfl⟩
theorem dX10_trunk_29 : ml_d cX10_trunk 29 (.ireturn) 1 30 := ⟨by decide +kernel, rfl⟩
def fX10_trunk (l0 : Nat) (l1 : Int32) (l2 : Int32) (m : ml_M) : Option (Int32 × ml_M) :=
    if (ml_K m l0).1 = 10 then
    ml_b1 (fX10_isTrunk l0 l1 m) fun r1637 =>
    if r1637 = 0 then
    some ((-1 : Int32), m)
    else
    ml_b1 (fX10_within l2 (0 : Int32) (3 : Int32) m) fun r1639 =>
    if r1639 = 0 then
    some ((-1 : Int32), m)
    else
    ml_b1 (fX10_trunkFact l0 l1 l2 m) fun r1641 =>
    ml_b2 (fX10_tell l0 r1641 m) fun r1643 m1644 =>
    some (r1643, m1644)
    else none
theorem wX10_trunk_0 {E : ml_E} (hL : ml_eL E = 3) {rv : Int32} {rm : ml_M} (hr : ∀ (pc pc' : Nat) (lv : List (Nat × ml_X)), ml_d cX10_trunk pc .ireturn 1 pc' → True → ml_V E "LostRoom" cX10_trunk 4 false rm pc lv [ml_i rv]) : ∀ (l0 : Nat) (l1 : Int32) (l2 : Int32) (m : ml_M), fX10_trunk l0 l1 l2 m = some (rv, rm) → ml_V E "LostRoom" cX10_trunk 4 false m 0 [(0, ml_r l0), (1, ml_i l1), (2, ml_i l2)] [] := by
  intro l0 l1 l2 m h
  unfold fX10_trunk at h
  exact ml_aload_n dX10_trunk_0 0 rfl <| ml_iload_n dX10_trunk_1 1 rfl <| ml_ck_of h fun hc1636 h => ml_b1_of h fun r1637 hv1635 h => ml_callV dX10_trunk_2 wm_286 wb_173 hc1636 (sX10_isTrunk hv1635) rfl (Nat.le_of_ble_eq_true rfl) (Nat.le_of_ble_eq_true rfl) rfl <| ml_if_eq dX10_trunk_5 h (fun _ h => ml_iconst dX10_trunk_17 kc_im1 <| ml_rI (mk := ml_i) hr dX10_trunk_18 (fun _ => trivial) h) (fun _ h => ml_iload_n dX10_trunk_8 2 rfl <| ml_iconst dX10_trunk_9 kc_i0 <| ml_iconst dX10_trunk_10 kc_i3 <| ml_b1_of h fun r1639 hv1638 h => ml_callS dX10_trunk_11 wm_21 wb_4 (sX10_within hv1638) rfl (Nat.le_of_ble_eq_true rfl) (Nat.le_of_ble_eq_true rfl) rfl <| ml_if_ne dX10_trunk_14 h (fun _ h => ml_aload_n dX10_trunk_19 0 rfl <| ml_aload_n dX10_trunk_20 0 rfl <| ml_iload_n dX10_trunk_21 1 rfl <| ml_iload_n dX10_trunk_22 2 rfl <| ml_b1_of h fun r1641 hv1640 h => ml_callV dX10_trunk_23 wm_443 wb_267 hc1636 (sX10_trunkFact hv1640) rfl (Nat.le_of_ble_eq_true rfl) (Nat.le_of_ble_eq_true rfl) rfl <| ml_b2_of h fun r1643 m1644 hv1642 h => ml_callV dX10_trunk_26 wm_428 wb_261 hc1636 (sX10_tell hv1642) rfl (Nat.le_of_ble_eq_true rfl) (Nat.le_of_ble_eq_true rfl) rfl <| ml_rI (mk := ml_i) hr dX10_trunk_29 (fun _ => trivial) h) (fun _ h => ml_iconst dX10_trunk_17 kc_im1 <| ml_rI (mk := ml_i) hr dX10_trunk_18 (fun _ => trivial) h))
theorem sX10_trunk {l0 : Nat} {l1 : Int32} {l2 : Int32} {m : ml_M} {rv : Int32} {rm : ml_M} (h : fX10_trunk l0 l1 l2 m = some (rv, rm)) : ml_Sn yX10_trunk cX10_trunk 3 (some .int) 4 [ml_r l0, ml_i l1, ml_i l2] m (some (ml_i rv)) rm :=
  ml_Sn_of (P := True) (ini := false) (by decide +kernel) (Nat.le_of_ble_eq_true rfl) (fun h => by cases h) (fun _ => ml_RkI rv) fun E hL hr => wX10_trunk_0 hL hr _ _ _ _ h
theorem dX0_init_0 : ml_d cX0_init 0 (.aload_n 0) 1 1 := ⟨by decide +kernel, rfl⟩
theorem dX0_init_1 : ml_d cX0_init 1 (.invokespecial 1) 3 4 := ⟨by decide +kernel, rfl⟩
theorem dX0_init_4 : ml_d cX0_init 4 (.aload_n 0) 1 5 := ⟨by decide +kernel, rfl⟩
theorem dX0_init_5 : ml_d cX0_init 5 (.iload_n 1) 1 6 := ⟨by decide +kernel, rfl⟩
theorem dX0_init_6 : ml_d cX0_init 6 (.putfield 7) 3 9 := ⟨by decide +kernel, rfl⟩
theorem dX0_init_9 : ml_d cX0_init 9 (.aload_n 0) 1 10 := ⟨by decide +kernel, rfl⟩
theorem dX0_init_10 : ml_d cX0_init 10 (.iload_n 2) 1 11 := ⟨by decide +kernel, rfl⟩
theorem dX0_init_11 : ml_d cX0_init 11 (.putfield 13) 3 14 := ⟨by decide +kernel, rfl⟩
theorem dX0_init_14 : ml_d cX0_init 14 (.aload_n 0) 1 15 := ⟨by decide +kernel, rfl⟩
theorem dX0_init_15 : ml_d cX0_init 15 (.iload_n 3) 1 16 := ⟨by decide +kernel, rfl⟩
theorem dX0_init_16 : ml_d cX0_init 16 (.putfield 16) 3 19 := ⟨by decide +kernel, rfl⟩
theorem dX0_init_19 : ml_d cX0_init 19 (.aload_n 0) 1 20 := ⟨by decide +kernel, rfl⟩
theorem dX0_init_20 : ml_d cX0_init 20 (.iload 4) 2 22 := ⟨by decide +kernel, rfl⟩
theorem dX0_init_22 : ml_d cX0_init 22 (.putfield 19) 3 25 := ⟨by decide +kernel, rfl⟩
theorem dX0_init_25 : ml_d cX0_init 25 (.return_) 1 26 := ⟨by decide +kernel, rfl⟩
def fX0_init (l0 : Nat) (l1 : Int32) (l2 : Int32) (l3 : Int32) (l4 : Int32) (m : ml_M) : Option ml_M :=
    if l0 ≠ 0 then
    if (ml_K m l0).1 = 0 then
    ml_let (ml_sI m l0 0 l1) fun m1647 =>
    ml_let (ml_sI m1647 l0 1 l2) fun m1649 =>
    ml_let (ml_sI m1649 l0 2 l3) fun m1651 =>
    ml_let (ml_sI m1651 l0 3 l4) fun m1653 =>
    some m1653
    else none
    else none
theorem wX0_init_0 {E : ml_E} (hL : ml_eL E = 5) {rm : ml_M} (hr : ∀ (pc pc' : Nat) (lv : List (Nat × ml_X)), ml_d cX0_init pc .return_ 1 pc' → True → ml_V E "LostRoom$Bit" cX0_init 2 true rm pc lv []) : ∀ (l0 : Nat) (l1 : Int32) (l2 : Int32) (l3 : Int32) (l4 : Int32) (m : ml_M), fX0_init l0 l1 l2 l3 l4 m = some rm → ml_V E "LostRoom$Bit" cX0_init 2 true m 0 [(0, ml_r l0), (1, ml_i l1), (2, ml_i l2), (3, ml_i l3), (4, ml_i l4)] [] := by
  intro l0 l1 l2 l3 l4 m h
  unfold fX0_init at h
  exact ml_aload_n dX0_init_0 0 rfl <| ml_ck_of h fun hz1645 h => ml_objInit dX0_init_1 wb_268 (Nat.le_of_ble_eq_true rfl) (Nat.le_of_ble_eq_true rfl) hz1645 <| ml_aload_n dX0_init_4 0 rfl <| ml_iload_n dX0_init_5 1 rfl <| ml_ck_of h fun hc1646 h => ml_putI dX0_init_6 wb_269 hc1646 <| ml_lt (m := m) rfl h fun m1647 em1648 h => ml_aload_n dX0_init_9 0 rfl <| ml_iload_n dX0_init_10 2 rfl <| ml_putI dX0_init_11 wb_270 (ml_kk em1648 hc1646) <| ml_lt (m := m1647) rfl h fun m1649 em1650 h => ml_aload_n dX0_init_14 0 rfl <| ml_iload_n dX0_init_15 3 rfl <| ml_putI dX0_init_16 wb_271 (ml_kk em1650 (ml_kk em1648 hc1646)) <| ml_lt (m := m1649) rfl h fun m1651 em1652 h => ml_aload_n dX0_init_19 0 rfl <| ml_iload dX0_init_20 4 rfl <| ml_putI dX0_init_22 wb_272 (ml_kk em1652 (ml_kk em1650 (ml_kk em1648 hc1646))) <| ml_lt (m := m1651) rfl h fun m1653 em1654 h => ml_rv hr dX0_init_25 trivial h
theorem sX0_init {l0 : Nat} {l1 : Int32} {l2 : Int32} {l3 : Int32} {l4 : Int32} {m : ml_M} {rm : ml_M} (h : fX0_init l0 l1 l2 l3 l4 m = some rm) : ml_Sn yX0_init cX0_init 5 none 2 [ml_r l0, ml_i l1, ml_i l2, ml_i l3, ml_i l4] m none rm :=
  ml_Sn_of (P := True) (ini := true) (by decide +kernel) (Nat.le_of_ble_eq_true rfl) (fun _ => rfl) (fun _ => ml_RkV) fun E hL hr => wX0_init_0 hL hr _ _ _ _ _ _ h
theorem dX10_bit_0 : ml_d cX10_bit 0 (.iload_n 1) 1 1 := ⟨by decide +kernel, rfl⟩
theorem dX10_bit_1 : ml_d cX10_bit 1 (.iconst 1) 1 2 := ⟨by decide +kernel, rfl⟩
theorem dX10_bit_2 : ml_d cX10_bit 2 (.bipush 9) 2 4 := ⟨by decide +kernel, rfl⟩
theorem dX10_bit_4 : ml_d cX10_bit 4 (.invokestatic 138) 3 7 := ⟨by decide +kernel, rfl⟩
theorem dX10_bit_7 : ml_j cX10_bit 7 (.ifCond .eq) 20 10 := ⟨13, by decide +kernel, by decide, rfl⟩
theorem dX10_bit_10 : ml_d cX10_bit 10 (.iload_n 2) 1 11 := ⟨by decide +kernel, rfl⟩
theorem dX10_bit_11 : ml_d cX10_bit 11 (.iconst 0) 1 12 := ⟨by decide +kernel, rfl⟩
theorem dX10_bit_12 : ml_d cX10_bit 12 (.bipush 9) 2 14 := ⟨by decide +kernel, rfl⟩
theorem dX10_bit_14 : ml_d cX10_bit 14 (.invokestatic 138) 3 17 := ⟨by decide +kernel, rfl⟩
theorem dX10_bit_17 : ml_j cX10_bit 17 (.ifCond .ne) 22 20 := ⟨5, by decide +kernel, by decide, rfl⟩
theorem dX10_bit_20 : ml_d cX10_bit 20 (.iconst (-1)) 1 21 := ⟨by decide +kernel, rfl⟩
theorem dX10_bit_21 : ml_d cX10_bit 21 (.ireturn) 1 22 := ⟨by decide +kernel, rfl⟩
theorem dX10_bit_22 : ml_d cX10_bit 22 (.iload_n 3) 1 23 := ⟨by decide +kernel, rfl⟩
theorem dX10_bit_23 : ml_d cX10_bit 23 (.iconst 0) 1 24 := ⟨by decide +kernel, rfl⟩
theorem dX10_bit_24 : ml_d cX10_bit 24 (.sipush 999) 3 27 := ⟨by decide +kernel, rfl⟩
theorem dX10_bit_27 : ml_d cX10_bit 27 (.invokestatic 138) 3 30 := ⟨by decide +kernel, rfl⟩
theorem dX10_bit_30 : ml_j cX10_bit 30 (.ifCond .eq) 45 33 := ⟨15, by decide +kernel, by decide, rfl⟩
theorem dX10_bit_33 : ml_d cX10_bit 33 (.iload 4) 2 35 := ⟨by decide +kernel, rfl⟩
theorem dX10_bit_35 : ml_d cX10_bit 35 (.iconst 0) 1 36 := ⟨by decide +kernel, rfl⟩
theorem dX10_bit_36 : ml_d cX10_bit 36 (.sipush 999) 3 39 := ⟨by decide +kernel, rfl⟩
theorem dX10_bit_39 : ml_d cX10_bit 39 (.invokestatic 138) 3 42 := ⟨by decide +kernel, rfl⟩
theorem dX10_bit_42 : ml_j cX10_bit 42 (.ifCond .ne) 47 45 := ⟨5, by decide +kernel, by decide, rfl⟩
theorem dX10_bit_45 : ml_d cX10_bit 45 (.iconst (-1)) 1 46 := ⟨by decide +kernel, rfl⟩
theorem dX10_bit_46 : ml_d cX10_bit 46 (.ireturn) 1 47 := ⟨by decide +kernel, rfl⟩
theorem dX10_bit_47 : ml_d cX10_bit 47 (.aload_n 0) 1 48 := ⟨by decide +kernel, rfl⟩
theorem dX10_bit_48 : ml_d cX10_bit 48 (.getfield 124) 3 51 := ⟨by decide +kernel, rfl⟩
theorem dX10_bit_51 : ml_d cX10_bit 51 (.bipush 10) 2 53 := ⟨by decide +kernel, rfl⟩
theorem dX10_bit_53 : ml_j cX10_bit 53 (.if_icmp .lt) 59 56 := ⟨6, by decide +kernel, by decide, rfl⟩
theorem dX10_bit_56 : ml_d cX10_bit 56 (.bipush (-2)) 2 58 := ⟨by decide +kernel, rfl⟩
theorem dX10_bit_58 : ml_d cX10_bit 58 (.ireturn) 1 59 := ⟨by decide +kernel, rfl⟩
theorem dX10_bit_59 : ml_d cX10_bit 59 (.aload_n 0) 1 60 := ⟨by decide +kernel, rfl⟩
theorem dX10_bit_60 : ml_d cX10_bit 60 (.getfield 48) 3 63 := ⟨by decide +kernel, rfl⟩
theorem dX10_bit_63 : ml_d cX10_bit 63 (.aload_n 0) 1 64 := ⟨by decide +kernel, rfl⟩
theorem dX10_bit_64 : ml_d cX10_bit 64 (.getfield 124) 3 67 := ⟨by decide +kernel, rfl⟩
theorem dX10_bit_67 : ml_d cX10_bit 67 (.new 46) 3 70 := ⟨by decide +kernel, rfl⟩
theorem dX10_bit_70 : ml_d cX10_bit 70 (.dup) 1 71 := ⟨by decide +kernel, rfl⟩
theorem dX10_bit_71 : ml_d cX10_bit 71 (.iload_n 1) 1 72 := ⟨by decide +kernel, rfl⟩
theorem dX10_bit_72 : ml_d cX10_bit 72 (.iload_n 2) 1 73 := ⟨by decide +kernel, rfl⟩
theorem dX10_bit_73 : ml_d cX10_bit 73 (.iload_n 3) 1 74 := ⟨by decide +kernel, rfl⟩
theorem dX10_bit_74 : ml_d cX10_bit 74 (.iload 4) 2 76 := ⟨by decide +kernel, rfl⟩
theorem dX10_bit_76 : ml_d cX10_bit 76 (.invokespecial 281) 3 79 := ⟨by decide +kernel, rfl⟩
theorem dX10_bit_79 : ml_d cX10_bit 79 (.aastore) 1 80 := ⟨by decide +kernel, rfl⟩
theorem dX10_bit_80 : ml_d cX10_bit 80 (.aload_n 0) 1 81 := ⟨by decide +kernel, rfl⟩
theorem dX10_bit_81 : ml_d cX10_bit 81 (.getfield 68) 3 84 := ⟨by decide +kernel, rfl⟩
theorem dX10_bit_84 : ml_d cX10_bit 84 (.iconst 1) 1 85 := ⟨by decide +kernel, rfl⟩
theorem dX10_bit_85 : ml_d cX10_bit 85 (.putfield 134) 3 88 := ⟨by decide +kernel, rfl⟩
theorem dX10_bit_88 : ml_d cX10_bit 88 (.aload_n 0) 1 89 := ⟨by decide +kernel, rfl⟩
theorem dX10_bit_89 : ml_d cX10_bit 89 (.dup) 1 90 := ⟨by decide +kernel, rfl⟩
theorem dX10_bit_90 : ml_d cX10_bit 90 (.getfield 124) 3 93 := ⟨by decide +kernel, rfl⟩
theorem dX10_bit_93 : ml_d cX10_bit 93 (.dup_x1) 1 94 := ⟨by decide +kernel, rfl⟩
theorem dX10_bit_94 : ml_d cX10_bit 94 (.iconst 1) 1 95 := ⟨by decide +kernel, rfl⟩
theorem dX10_bit_95 : ml_d cX10_bit 95 (.iadd) 1 96 := ⟨by decide +kernel, rfl⟩
theorem dX10_bit_96 : ml_d cX10_bit 96 (.putfield 124) 3 99 := ⟨by decide +kernel, rfl⟩
theorem dX10_bit_99 : ml_d cX10_bit 99 (.ireturn) 1 100 := ⟨by decide +kernel, rfl⟩
def fX10_bit (l0 : Nat) (l1 : Int32) (l2 : Int32) (l3 : Int32) (l4 : Int32) (m : ml_M) : Option (Int32 × ml_M) :=
    ml_b1 (fX10_within l1 (1 : Int32) (9 : Int32) m) fun r1656 =>
    if r1656 = 0 then
    some ((-1 : Int32), m)
    else
    ml_b1 (fX10_within l2 (0 : Int32) (9 : Int32) m) fun r1658 =>
    if r1658 = 0 then
    some ((-1 : Int32), m)
    else
    ml_b1 (fX10_within l3 (0 : Int32) (999 : Int32) m) fun r1660 =>
    if r1660 = 0 then
    some ((-1 : Int32), m)
    else
    ml_b1 (fX10_within l4 (0 : Int32) (999 : Int32) m) fun r1662 =>
    if r1662 = 0 then
    some ((-1 : Int32), m)
    else
    if (ml_K m l0).1 = 10 then
    if (ml_I m l0 9) < (10 : Int32) then
    ml_let (ml_R m l0 8) fun a1664 =>
    ml_let (ml_n m + 1) fun a1665 =>
    ml_let (ml_al m 0 0 4) fun m1666 =>
    ml_b1 (fX0_init a1665 l1 l2 l3 l4 m1666) fun m1670 =>
    if (ml_K m1670 a1665).1 = 0 then
    if ml_in m1670 a1664 25 (ml_I m l0 9) then
    ml_let (ml_sR m1670 a1664 (ml_I m l0 9).toNatClampNeg a1665) fun m1673 =>
    if (ml_K m1673 l0).1 = 10 then
    ml_let (ml_R m1673 l0 13) fun a1676 =>
    if (ml_K m1673 a1676).1 = 4 then
    ml_let (ml_sI m1673 a1676 0 (1 : Int32)) fun m1678 =>
    ml_let (ml_sI m1678 l0 9 ((ml_I m1678 l0 9) + (1 : Int32))) fun m1680 =>
    some ((ml_I m1678 l0 9), m1680)
    else none
    else none
    else none
    else none
    else
    some ((-2 : Int32), m)
    else none
theorem wX10_bit_0 {E : ml_E} (hL : ml_eL E = 5) {rv : Int32} {rm : ml_M} (hr : ∀ (pc pc' : Nat) (lv : List (Nat × ml_X)), ml_d cX10_bit pc .ireturn 1 pc' → True → ml_V E "LostRoom" cX10_bit 3 false rm pc lv [ml_i rv]) : ∀ (l0 : Nat) (l1 : Int32) (l2 : Int32) (l3 : Int32) (l4 : Int32) (m : ml_M), fX10_bit l0 l1 l2 l3 l4 m = some (rv, rm) → ml_V E "LostRoom" cX10_bit 3 false m 0 [(0, ml_r l0), (1, ml_i l1), (2, ml_i l2), (3, ml_i l3), (4, ml_i l4)] [] := by
  intro l0 l1 l2 l3 l4 m h
  unfold fX10_bit at h
  exact ml_iload_n dX10_bit_0 1 rfl <| ml_iconst dX10_bit_1 kc_i1 <| ml_bipush dX10_bit_2 kc_b9 <| ml_b1_of h fun r1656 hv1655 h => ml_callS dX10_bit_4 wm_21 wb_4 (sX10_within hv1655) rfl (Nat.le_of_ble_eq_true rfl) (Nat.le_of_ble_eq_true rfl) rfl <| ml_if_eq dX10_bit_7 h (fun _ h => ml_iconst dX10_bit_20 kc_im1 <| ml_rI (mk := ml_i) hr dX10_bit_21 (fun _ => trivial) h) (fun _ h => ml_iload_n dX10_bit_10 2 rfl <| ml_iconst dX10_bit_11 kc_i0 <| ml_bipush dX10_bit_12 kc_b9 <| ml_b1_of h fun r1658 hv1657 h => ml_callS dX10_bit_14 wm_21 wb_4 (sX10_within hv1657) rfl (Nat.le_of_ble_eq_true rfl) (Nat.le_of_ble_eq_true rfl) rfl <| ml_if_ne dX10_bit_17 h (fun _ h => ml_iload_n dX10_bit_22 3 rfl <| ml_iconst dX10_bit_23 kc_i0 <| ml_sipush dX10_bit_24 kc_s999 <| ml_b1_of h fun r1660 hv1659 h => ml_callS dX10_bit_27 wm_21 wb_4 (sX10_within hv1659) rfl (Nat.le_of_ble_eq_true rfl) (Nat.le_of_ble_eq_true rfl) rfl <| ml_if_eq dX10_bit_30 h (fun _ h => ml_iconst dX10_bit_45 kc_im1 <| ml_rI (mk := ml_i) hr dX10_bit_46 (fun _ => trivial) h) (fun _ h => ml_iload dX10_bit_33 4 rfl <| ml_iconst dX10_bit_35 kc_i0 <| ml_sipush dX10_bit_36 kc_s999 <| ml_b1_of h fun r1662 hv1661 h => ml_callS dX10_bit_39 wm_21 wb_4 (sX10_within hv1661) rfl (Nat.le_of_ble_eq_true rfl) (Nat.le_of_ble_eq_true rfl) rfl <| ml_if_ne dX10_bit_42 h (fun _ h => ml_aload_n dX10_bit_47 0 rfl <| ml_ck_of h fun hc1663 h => ml_getI dX10_bit_48 wb_273 hc1663 <| ml_bipush dX10_bit_51 kc_b10 <| ml_icmp_lt dX10_bit_53 h (fun _ h => ml_aload_n dX10_bit_59 0 rfl <| ml_getR dX10_bit_60 wb_274 hc1663 <| ml_lx (mk := ml_r) h fun a1664 h => ml_aload_n dX10_bit_63 0 rfl <| ml_getI dX10_bit_64 wb_273 hc1663 <| ml_newOs dX10_bit_67 wb_275 h fun a1665 m1666 hn1667 hc1668 h => ml_dup dX10_bit_70 rfl <| ml_iload_n dX10_bit_71 1 rfl <| ml_iload_n dX10_bit_72 2 rfl <| ml_iload_n dX10_bit_73 3 rfl <| ml_iload dX10_bit_74 4 rfl <| ml_b1_of h fun m1670 hv1669 h => ml_callI dX10_bit_76 wm_453 wb_276 hn1667 (sX0_init hv1669) rfl (Nat.le_of_ble_eq_true rfl) (Nat.le_of_ble_eq_true rfl) rfl <| ml_ck_of h fun hc1672 h => ml_ck_of h fun hi1671 h => ml_aast (kd := 25) (ci := 0) dX10_bit_79 (by decide) hi1671 hc1672 <| ml_lt (m := m1670) rfl h fun m1673 em1674 h => ml_aload_n dX10_bit_80 0 rfl <| ml_ck_of h fun hc1675 h => ml_getR dX10_bit_81 wb_69 hc1675 <| ml_lx (mk := ml_r) h fun a1676 h => ml_iconst dX10_bit_84 kc_i1 <| ml_ck_of h fun hc1677 h => ml_putZ dX10_bit_85 wb_70 hc1677 (Or.inr rfl) <| ml_lt (m := m1673) rfl h fun m1678 em1679 h => ml_aload_n dX10_bit_88 0 rfl <| ml_dup dX10_bit_89 rfl <| ml_getI dX10_bit_90 wb_273 (ml_kk em1679 hc1675) <| ml_dup_x1 dX10_bit_93 rfl rfl <| ml_iconst dX10_bit_94 kc_i1 <| ml_iadd dX10_bit_95 <| ml_putI dX10_bit_96 wb_65 (ml_kk em1679 hc1675) <| ml_lt (m := m1678) rfl h fun m1680 em1681 h => ml_rI (mk := ml_i) hr dX10_bit_99 (fun _ => trivial) h) (fun _ h => ml_bipush dX10_bit_56 kc_bm2 <| ml_rI (mk := ml_i) hr dX10_bit_58 (fun _ => trivial) h)) (fun _ h => ml_iconst dX10_bit_45 kc_im1 <| ml_rI (mk := ml_i) hr dX10_bit_46 (fun _ => trivial) h))) (fun _ h => ml_iconst dX10_bit_20 kc_im1 <| ml_rI (mk := ml_i) hr dX10_bit_21 (fun _ => trivial) h))
theorem sX10_bit {l0 : Nat} {l1 : Int32} {l2 : Int32} {l3 : Int32} {l4 : Int32} {m : ml_M} {rv : Int32} {rm : ml_M} (h : fX10_bit l0 l1 l2 l3 l4 m = some (rv, rm)) : ml_Sn yX10_bit cX10_bit 5 (some .int) 3 [ml_r l0, ml_i l1, ml_i l2, ml_i l3, ml_i l4] m (some (ml_i rv)) rm :=
  ml_Sn_of (P := True) (ini := false) (by decide +kernel) (Nat.le_of_ble_eq_true rfl) (fun h => by cases h) (fun _ => ml_RkI rv) fun E hL hr => wX10_bit_0 hL hr _ _ _ _ _ _ h
theorem dX0_meets_0 : ml_d cX0_meets 0 (.aload_n 0) 1 1 := ⟨by decide +kernel, rfl⟩
theorem dX0_meets_1 : ml_d cX0_meets 1 (.getfield 19) 3 4 := ⟨by decide +kernel, rfl⟩
theorem dX0_meets_4 : ml_d cX0_meets 4 (.aload_n 1) 1 5 := ⟨by decide +kernel, rfl⟩
theorem dX0_meets_5 : ml_d cX0_meets 5 (.getfield 16) 3 8 := ⟨by decide +kernel, rfl⟩
theorem dX0_meets_8 : ml_d cX0_meets 8 (.iadd) 1 9 := ⟨by decide +kernel, rfl⟩
theorem dX0_meets_9 : ml_d cX0_meets 9 (.sipush 1000) 3 12 := ⟨by decide +kernel, rfl⟩
theorem dX0_meets_12 : ml_j cX0_meets 12 (.if_icmp .ne) 41 15 := ⟨29, by decide +kernel, by decide, rfl⟩
theorem dX0_meets_15 : ml_d cX0_meets 15 (.aload_n 0) 1 16 := ⟨by decide +kernel, rfl⟩
theorem dX0_meets_16 : ml_d cX0_meets 16 (.getfield 7) 3 19 := ⟨by decide +kernel, rfl⟩
theorem dX0_meets_19 : ml_d cX0_meets 19 (.aload_n 1) 1 20 := ⟨by decide +kernel, rfl⟩
theorem dX0_meets_20 : ml_d cX0_meets 20 (.getfield 7) 3 23 := ⟨by decide +kernel, rfl⟩
theorem dX0_meets_23 : ml_j cX0_meets 23 (.if_icmp .ne) 41 26 := ⟨18, by decide +kernel, by decide, rfl⟩
theorem dX0_meets_26 : ml_d cX0_meets 26 (.aload_n 0) 1 27 := ⟨by decide +kernel, rfl⟩
theorem dX0_meets_27 : ml_d cX0_meets 27 (.getfield 13) 3 30 := ⟨by decide +kernel, rfl⟩
theorem dX0_meets_30 : ml_d cX0_meets 30 (.aload_n 1) 1 31 := ⟨by decide +kernel, rfl⟩
theorem dX0_meets_31 : ml_d cX0_meets 31 (.getfield 13) 3 34 := ⟨by decide +kernel, rfl⟩
theorem dX0_meets_34 : ml_j cX0_meets 34 (.if_icmp .ne) 41 37 := ⟨7, by decide +kernel, by decide, rfl⟩
theorem dX0_meets_37 : ml_d cX0_meets 37 (.iconst 1) 1 38 := ⟨by decide +kernel, rfl⟩
theorem dX0_meets_38 : ml_j cX0_meets 38 .goto 42 41 := ⟨4, by decide +kernel, by decide, rfl⟩
theorem dX0_meets_41 : ml_d cX0_meets 41 (.iconst 0) 1 42 := ⟨by decide +kernel, rfl⟩
theorem dX0_meets_42 : ml_d cX0_meets 42 (.ireturn) 1 43 := ⟨by decide +kernel, rfl⟩
def fX0_meets (l0 : Nat) (l1 : Nat) (m : ml_M) : Option Int32 :=
    if (ml_K m l0).1 = 0 then
    if (ml_K m l1).1 = 0 then
    if ((ml_I m l0 3) + (ml_I m l1 2)) = (1000 : Int32) then
    if (ml_I m l0 0) = (ml_I m l1 0) then
    if (ml_I m l0 1) = (ml_I m l1 1) then
    some (1 : Int32)
    else
    some (0 : Int32)
    else
    some (0 : Int32)
    else
    some (0 : Int32)
    else none
    else none
theorem wX0_meets_0 {E : ml_E} (hL : ml_eL E = 2) {rv : Int32} {m : ml_M} (hr : ∀ (pc pc' : Nat) (lv : List (Nat × ml_X)), ml_d cX0_meets pc .ireturn 1 pc' → (rv = 0 ∨ rv = 1) → ml_V E "LostRoom$Bit" cX0_meets 2 false m pc lv [ml_i rv]) : ∀ (l0 : Nat) (l1 : Nat), fX0_meets l0 l1 m = some rv → ml_V E "LostRoom$Bit" cX0_meets 2 false m 0 [(0, ml_r l0), (1, ml_r l1)] [] := by
  intro l0 l1 h
  unfold fX0_meets at h
  exact ml_aload_n dX0_meets_0 0 rfl <| ml_ck_of h fun hc1682 h => ml_getI dX0_meets_1 wb_277 hc1682 <| ml_aload_n dX0_meets_4 1 rfl <| ml_ck_of h fun hc1683 h => ml_getI dX0_meets_5 wb_278 hc1683 <| ml_iadd dX0_meets_8 <| ml_sipush dX0_meets_9 kc_s1000 <| ml_icmp_ne dX0_meets_12 h (fun _ h => ml_iconst dX0_meets_41 kc_i0 <| ml_rp (mk := ml_i) hr dX0_meets_42 (fun e => Or.inl e.symm) h) (fun _ h => ml_aload_n dX0_meets_15 0 rfl <| ml_getI dX0_meets_16 wb_279 hc1682 <| ml_aload_n dX0_meets_19 1 rfl <| ml_getI dX0_meets_20 wb_279 hc1683 <| ml_icmp_ne dX0_meets_23 h (fun _ h => ml_iconst dX0_meets_41 kc_i0 <| ml_rp (mk := ml_i) hr dX0_meets_42 (fun e => Or.inl e.symm) h) (fun _ h => ml_aload_n dX0_meets_26 0 rfl <| ml_getI dX0_meets_27 wb_280 hc1682 <| ml_aload_n dX0_meets_30 1 rfl <| ml_getI dX0_meets_31 wb_280 hc1683 <| ml_icmp_ne dX0_meets_34 h (fun _ h => ml_iconst dX0_meets_41 kc_i0 <| ml_rp (mk := ml_i) hr dX0_meets_42 (fun e => Or.inl e.symm) h) (fun _ h => ml_iconst dX0_meets_37 kc_i1 <| ml_goto dX0_meets_38 <| ml_rp (mk := ml_i) hr dX0_meets_42 (fun e => Or.inr e.symm) h)))
theorem sX0_meets {l0 : Nat} {l1 : Nat} {m : ml_M} {rv : Int32} (h : fX0_meets l0 l1 m = some rv) : ml_Sn yX0_meets cX0_meets 2 (some .boolean) 2 [ml_r l0, ml_r l1] m (some (ml_i rv)) m :=
  ml_Sn_of (P := (rv = 0 ∨ rv = 1)) (ini := false) (by decide +kernel) (Nat.le_of_ble_eq_true rfl) (fun h => by cases h) (fun hz => ml_RkZ rv hz) fun E hL hr => wX0_meets_0 hL hr _ _ h
theorem dX4_slot_0 : ml_d cX4_slot 0 (.iload_n 0) 1 1 := ⟨by decide +kernel, rfl⟩
theorem dX4_slot_1 : ml_d cX4_slot 1 (.bipush 10) 2 3 := ⟨by decide +kernel, rfl⟩
theorem dX4_slot_3 : ml_d cX4_slot 3 (.imul) 1 4 := ⟨by decide +kernel, rfl⟩
theorem dX4_slot_4 : ml_d cX4_slot 4 (.iload_n 1) 1 5 := ⟨by decide +kernel, rfl⟩
theorem dX4_slot_5 : ml_d cX4_slot 5 (.iadd) 1 6 := ⟨by decide +kernel, rfl⟩
theorem dX4_slot_6 : ml_d cX4_slot 6 (.ireturn) 1 7 := ⟨by decide +kernel, rfl⟩
def fX4_slot (l0 : Int32) (l1 : Int32) (m : ml_M) : Option Int32 :=
    some ((l0 * (10 : Int32)) + l1)
theorem wX4_slot_0 {E : ml_E} (hL : ml_eL E = 2) {rv : Int32} {m : ml_M} (hr : ∀ (pc pc' : Nat) (lv : List (Nat × ml_X)), ml_d cX4_slot pc .ireturn 1 pc' → True → ml_V E "LostRoom$Lays" cX4_slot 2 false m pc lv [ml_i rv]) : ∀ (l0 : Int32) (l1 : Int32), fX4_slot l0 l1 m = some rv → ml_V E "LostRoom$Lays" cX4_slot 2 false m 0 [(0, ml_i l0), (1, ml_i l1)] [] := by
  intro l0 l1 h
  unfold fX4_slot at h
  exact ml_iload_n dX4_slot_0 0 rfl <| ml_bipush dX4_slot_1 kc_b10 <| ml_imul dX4_slot_3 <| ml_iload_n dX4_slot_4 1 rfl <| ml_iadd dX4_slot_5 <| ml_rp (mk := ml_i) hr dX4_slot_6 (fun _ => trivial) h
theorem sX4_slot {l0 : Int32} {l1 : Int32} {m : ml_M} {rv : Int32} (h : fX4_slot l0 l1 m = some rv) : ml_Sn yX4_slot cX4_slot 2 (some .int) 2 [ml_i l0, ml_i l1] m (some (ml_i rv)) m :=
  ml_Sn_of (P := True) (ini := false) (by decide +kernel) (Nat.le_of_ble_eq_true rfl) (fun h => by cases h) (fun _ => ml_RkI rv) fun E hL hr => wX4_slot_0 hL hr _ _ h
theorem dX4_follow_0 : ml_d cX4_follow 0 (.aload_n 0) 1 1 := ⟨by decide +kernel, rfl⟩
theorem dX4_follow_1 : ml_d cX4_follow 1 (.getfield 22) 3 4 := ⟨by decide +kernel, rfl⟩
theorem dX4_follow_4 : ml_d cX4_follow 4 (.iload_n 2) 1 5 := ⟨by decide +kernel, rfl⟩
theorem dX4_follow_5 : ml_d cX4_follow 5 (.iconst 0) 1 6 := ⟨by decide +kernel, rfl⟩
theorem dX4_follow_6 : ml_d cX4_follow 6 (.iastore) 1 7 := ⟨by decide +kernel, rfl⟩
theorem dX4_follow_7 : ml_d cX4_follow 7 (.aload_n 0) 1 8 := ⟨by decide +kernel, rfl⟩
theorem dX4_follow_8 : ml_d cX4_follow 8 (.getfield 25) 3 11 := ⟨by decide +kernel, rfl⟩
theorem dX4_follow_11 : ml_d cX4_follow 11 (.iload_n 2) 1 12 := ⟨by decide +kernel, rfl⟩
theorem dX4_follow_12 : ml_d cX4_follow 12 (.iconst 0) 1 13 := ⟨by decide +kernel, rfl⟩
theorem dX4_follow_13 : ml_d cX4_follow 13 (.iastore) 1 14 := ⟨by decide +kernel, rfl⟩
theorem dX4_follow_14 : ml_d cX4_follow 14 (.iload_n 1) 1 15 := ⟨by decide +kernel, rfl⟩
theorem dX4_follow_15 : ml_d cX4_follow 15 (.iconst 1) 1 16 := ⟨by decide +kernel, rfl⟩
theorem dX4_follow_16 : ml_d cX4_follow 16 (.aload_n 0) 1 17 := ⟨by decide +kernel, rfl⟩
theorem dX4_follow_17 : ml_d cX4_follow 17 (.getfield 28) 3 20 := ⟨by decide +kernel, rfl⟩
theorem dX4_follow_20 : ml_d cX4_follow 20 (.ishl) 1 21 := ⟨by decide +kernel, rfl⟩
theorem dX4_follow_21 : ml_d cX4_follow 21 (.iconst 1) 1 22 := ⟨by decide +kernel, rfl⟩
theorem dX4_follow_22 : ml_d cX4_follow 22 (.isub) 1 23 := ⟨by decide +kernel, rfl⟩
theorem dX4_follow_23 : ml_j cX4_follow 23 (.if_icmp .ne) 33 26 := ⟨10, by decide +kernel, by decide, rfl⟩
theorem dX4_follow_26 : ml_d cX4_follow 26 (.aload_n 0) 1 27 := ⟨by decide +kernel, rfl⟩
theorem dX4_follow_27 : ml_d cX4_follow 27 (.getfield 25) 3 30 := ⟨by decide +kernel, rfl⟩
theorem dX4_follow_30 : ml_d cX4_follow 30 (.iload_n 2) 1 31 := ⟨by decide +kernel, rfl⟩
theorem dX4_follow_31 : ml_d cX4_follow 31 (.iconst 1) 1 32 := ⟨by decide +kernel, rfl⟩
theorem dX4_follow_32 : ml_d cX4_follow 32 (.iastore) 1 33 := ⟨by decide +kernel, rfl⟩
theorem dX4_follow_33 : ml_d cX4_follow 33 (.iconst 0) 1 34 := ⟨by decide +kernel, rfl⟩
theorem dX4_follow_34 : ml_d cX4_follow 34 (.istore 4) 2 36 := ⟨by decide +kernel, rfl⟩
theorem dX4_follow_36 : ml_d cX4_follow 36 (.iload 4) 2 38 := ⟨by decide +kernel, rfl⟩
theorem dX4_follow_38 : ml_d cX4_follow 38 (.aload_n 0) 1 39 := ⟨by decide +kernel, rfl⟩
theorem dX4_follow_39 : ml_d cX4_follow 39 (.getfield 28) 3 42 := ⟨by decide +kernel, rfl⟩
theorem dX4_follow_42 : ml_j cX4_follow 42 (.if_icmp .ge) 171 45 := ⟨129, by decide +kernel, by decide, rfl⟩
theorem dX4_follow_45 : ml_d cX4_follow 45 (.iload_n 1) 1 46 := ⟨by decide +kernel, rfl⟩
theorem dX4_follow_46 : ml_d cX4_follow 46 (.iload 4) 2 48 := ⟨by decide +kernel, rfl⟩
theorem dX4_follow_48 : ml_d cX4_follow 48 (.invokestatic 38) 3 51 := ⟨by decide +kernel, rfl⟩
theorem dX4_follow_51 : ml_j cX4_follow 51 (.ifCond .eq) 57 54 := ⟨6, by decide +kernel, by decide, rfl⟩
theorem dX4_follow_54 : ml_j cX4_follow 54 .goto 165 57 := ⟨111, by decide +kernel, by decide, rfl⟩
theorem dX4_follow_57 : ml_d cX4_follow 57 (.iload_n 1) 1 58 := ⟨by decide +kernel, rfl⟩
theorem dX4_follow_58 : ml_d cX4_follow 58 (.iconst 1) 1 59 := ⟨by decide +kernel, rfl⟩
theorem dX4_follow_59 : ml_d cX4_follow 59 (.iload 4) 2 61 := ⟨by decide +kernel, rfl⟩
theorem dX4_follow_61 : ml_d cX4_follow 61 (.ishl) 1 62 := ⟨by decide +kernel, rfl⟩
theorem dX4_follow_62 : ml_d cX4_follow 62 (.ior) 1 63 := ⟨by decide +kernel, rfl⟩
theorem dX4_follow_63 : ml_d cX4_follow 63 (.iload 4) 2 65 := ⟨by decide +kernel, rfl⟩
theorem dX4_follow_65 : ml_d cX4_follow 65 (.invokestatic 42) 3 68 := ⟨by decide +kernel, rfl⟩
theorem dX4_follow_68 : ml_d cX4_follow 68 (.istore 5) 2 70 := ⟨by decide +kernel, rfl⟩
theorem dX4_follow_70 : ml_d cX4_follow 70 (.aload_n 0) 1 71 := ⟨by decide +kernel, rfl⟩
theorem dX4_follow_71 : ml_d cX4_follow 71 (.getfield 22) 3 74 := ⟨by decide +kernel, rfl⟩
theorem dX4_follow_74 : ml_d cX4_follow 74 (.iload 5) 2 76 := ⟨by decide +kernel, rfl⟩
theorem dX4_follow_76 : ml_d cX4_follow 76 (.iaload) 1 77 := ⟨by decide +kernel, rfl⟩
theorem dX4_follow_77 : ml_d cX4_follow 77 (.iload_n 3) 1 78 := ⟨by decide +kernel, rfl⟩
theorem dX4_follow_78 : ml_d cX4_follow 78 (.iload 4) 2 80 := ⟨by decide +kernel, rfl⟩
theorem dX4_follow_80 : ml_d cX4_follow 80 (.invokestatic 38) 3 83 := ⟨by decide +kernel, rfl⟩
theorem dX4_follow_83 : ml_j cX4_follow 83 (.ifCond .eq) 90 86 := ⟨7, by decide +kernel, by decide, rfl⟩
theorem dX4_follow_86 : ml_d cX4_follow 86 (.iconst 0) 1 87 := ⟨by decide +kernel, rfl⟩
theorem dX4_follow_87 : ml_j cX4_follow 87 .goto 91 90 := ⟨4, by decide +kernel, by decide, rfl⟩
theorem dX4_follow_90 : ml_d cX4_follow 90 (.iconst 1) 1 91 := ⟨by decide +kernel, rfl⟩
theorem dX4_follow_91 : ml_d cX4_follow 91 (.iadd) 1 92 := ⟨by decide +kernel, rfl⟩
theorem dX4_follow_92 : ml_d cX4_follow 92 (.istore 6) 2 94 := ⟨by decide +kernel, rfl⟩
theorem dX4_follow_94 : ml_d cX4_follow 94 (.aload_n 0) 1 95 := ⟨by decide +kernel, rfl⟩
theorem dX4_follow_95 : ml_d cX4_follow 95 (.getfield 25) 3 98 := ⟨by decide +kernel, rfl⟩
theorem dX4_follow_98 : ml_d cX4_follow 98 (.iload_n 2) 1 99 := ⟨by decide +kernel, rfl⟩
theorem dX4_follow_99 : ml_d cX4_follow 99 (.iaload) 1 100 := ⟨by decide +kernel, rfl⟩
theorem dX4_follow_100 : ml_j cX4_follow 100 (.ifCond .eq) 114 103 := ⟨14, by decide +kernel, by decide, rfl⟩
theorem dX4_follow_103 : ml_d cX4_follow 103 (.iload 6) 2 105 := ⟨by decide +kernel, rfl⟩
theorem dX4_follow_105 : ml_d cX4_follow 105 (.aload_n 0) 1 106 := ⟨by decide +kernel, rfl⟩
theorem dX4_follow_106 : ml_d cX4_follow 106 (.getfield 22) 3 109 := ⟨by decide +kernel, rfl⟩
theorem dX4_follow_109 : ml_d cX4_follow 109 (.iload_n 2) 1 110 := ⟨by decide +kernel, rfl⟩
theorem dX4_follow_110 : ml_d cX4_follow 110 (.iaload) 1 111 := ⟨by decide +kernel, rfl⟩
theorem dX4_follow_111 : ml_j cX4_follow 111 (.if_icmp .ge) 138 114 := ⟨27, by decide +kernel, by decide, rfl⟩
theorem dX4_follow_114 : ml_d cX4_follow 114 (.aload_n 0) 1 115 := ⟨by decide +kernel, rfl⟩
theorem dX4_follow_115 : ml_d cX4_follow 115 (.getfield 22) 3 118 := ⟨by decide +kernel, rfl⟩
theorem dX4_follow_118 : ml_d cX4_follow 118 (.iload_n 2) 1 119 := ⟨by decide +kernel, rfl⟩
theorem dX4_follow_119 : ml_d cX4_follow 119 (.iload 6) 2 121 := ⟨by decide +kernel, rfl⟩
theorem dX4_follow_121 : ml_d cX4_follow 121 (.iastore) 1 122 := ⟨by decide +kernel, rfl⟩
theorem dX4_follow_122 : ml_d cX4_follow 122 (.aload_n 0) 1 123 := ⟨by decide +kernel, rfl⟩
theorem dX4_follow_123 : ml_d cX4_follow 123 (.getfield 25) 3 126 := ⟨by decide +kernel, rfl⟩
theorem dX4_follow_126 : ml_d cX4_follow 126 (.iload_n 2) 1 127 := ⟨by decide +kernel, rfl⟩
theorem dX4_follow_127 : ml_d cX4_follow 127 (.aload_n 0) 1 128 := ⟨by decide +kernel, rfl⟩
theorem dX4_follow_128 : ml_d cX4_follow 128 (.getfield 25) 3 131 := ⟨by decide +kernel, rfl⟩
theorem dX4_follow_131 : ml_d cX4_follow 131 (.iload 5) 2 133 := ⟨by decide +kernel, rfl⟩
theorem dX4_follow_133 : ml_d cX4_follow 133 (.iaload) 1 134 := ⟨by decide +kernel, rfl⟩
theorem dX4_follow_134 : ml_d cX4_follow 134 (.iastore) 1 135 := ⟨by decide +kernel, rfl⟩
theorem dX4_follow_135 : ml_j cX4_follow 135 .goto 165 138 := ⟨30, by decide +kernel, by decide, rfl⟩
theorem dX4_follow_138 : ml_d cX4_follow 138 (.iload 6) 2 140 := ⟨by decide +kernel, rfl⟩
theorem dX4_follow_140 : ml_d cX4_follow 140 (.aload_n 0) 1 141 := ⟨by decide +kernel, rfl⟩
theorem dX4_follow_141 : ml_d cX4_follow 141 (.getfield 22) 3 144 := ⟨by decide +kernel, rfl⟩
theorem dX4_follow_144 : ml_d cX4_follow 144 (.iload_n 2) 1 145 := ⟨by decide +kernel, rfl⟩
theorem dX4_follow_145 : ml_d cX4_follow 145 (.iaload) 1 146 := ⟨by decide +kernel, rfl⟩
theorem dX4_follow_146 : ml_j cX4_follow 146 (.if_icmp .ne) 165 149 := ⟨19, by decide +kernel, by decide, rfl⟩
theorem dX4_follow_149 : ml_d cX4_follow 149 (.aload_n 0) 1 150 := ⟨by decide +kernel, rfl⟩
theorem dX4_follow_150 : ml_d cX4_follow 150 (.getfield 25) 3 153 := ⟨by decide +kernel, rfl⟩
theorem dX4_follow_153 : ml_d cX4_follow 153 (.iload_n 2) 1 154 := ⟨by decide +kernel, rfl⟩
theorem dX4_follow_154 : ml_d cX4_follow 154 (.dup2) 1 155 := ⟨by decide +kernel, rfl⟩
theorem dX4_follow_155 : ml_d cX4_follow 155 (.iaload) 1 156 := ⟨by decide +kernel, rfl⟩
theorem dX4_follow_156 : ml_d cX4_follow 156 (.aload_n 0) 1 157 := ⟨by decide +kernel, rfl⟩
theorem dX4_follow_157 : ml_d cX4_follow 157 (.getfield 25) 3 160 := ⟨by decide +kernel, rfl⟩
theorem dX4_follow_160 : ml_d cX4_follow 160 (.iload 5) 2 162 := ⟨by decide +kernel, rfl⟩
theorem dX4_follow_162 : ml_d cX4_follow 162 (.iaload) 1 163 := ⟨by decide +kernel, rfl⟩
theorem dX4_follow_163 : ml_d cX4_follow 163 (.iadd) 1 164 := ⟨by decide +kernel, rfl⟩
theorem dX4_follow_164 : ml_d cX4_follow 164 (.iastore) 1 165 := ⟨by decide +kernel, rfl⟩
theorem dX4_follow_165 : ml_d cX4_follow 165 (.iinc 4 1) 3 168 := ⟨by decide +kernel, rfl⟩
theorem dX4_follow_168 : ml_j cX4_follow 168 .goto 36 171 := ⟨(-132), by decide +kernel, by decide, rfl⟩
theorem dX4_follow_171 : ml_d cX4_follow 171 (.return_) 1 172 := ⟨by decide +kernel, rfl⟩
def fX4_follow_165 (k36 : Nat → Int32 → Int32 → Int32 → Int32 → ml_M → Option ml_M) (l0 : Nat) (l1 : Int32) (l2 : Int32) (l3 : Int32) (l4 : Int32) (m : ml_M) : Option ml_M :=
    k36 l0 l1 l2 l3 (l4 + (1 : Int32)) m
theorem vX4_follow_165 {E : ml_E} (hL : ml_eL E = 7) {rm : ml_M} (hr : ∀ (pc pc' : Nat) (lv : List (Nat × ml_X)), ml_d cX4_follow pc .return_ 1 pc' → True → ml_V E "LostRoom$Lays" cX4_follow 3 false rm pc lv []) {k36 : Nat → Int32 → Int32 → Int32 → Int32 → ml_M → Option ml_M} (hk36 : ∀ (l0 : Nat) (l1 : Int32) (l2 : Int32) (l3 : Int32) (l4 : Int32) (m : ml_M), k36 l0 l1 l2 l3 l4 m = some rm → ml_V E "LostRoom$Lays" cX4_follow 3 false m 36 [(0, ml_r l0), (1, ml_i l1), (2, ml_i l2), (3, ml_i l3), (4, ml_i l4)] []) : ∀ (l0 : Nat) (l1 : Int32) (l2 : Int32) (l3 : Int32) (l4 : Int32) (m : ml_M), fX4_follow_165 k36 l0 l1 l2 l3 l4 m = some rm → ml_V E "LostRoom$Lays" cX4_follow 3 false m 165 [(0, ml_r l0), (1, ml_i l1), (2, ml_i l2), (3, ml_i l3), (4, ml_i l4)] [] := by
  intro l0 l1 l2 l3 l4 m h
  unfold fX4_follow_165 at h
  exact ml_iinc (lv' := [(4, ml_i (l4 + (1 : Int32))), (0, ml_r l0), (1, ml_i l1), (2, ml_i l2), (3, ml_i l3)]) dX4_follow_165 4 rfl (congrArg (l4 + ·) kc_i1) (ml_hn hL rfl) rfl <| ml_goto dX4_follow_168 <| ml_V.sub [1, 2, 3, 4, 0] rfl (hk36 _ _ _ _ _ _ h)
def fX4_follow_114 (k36 : Nat → Int32 → Int32 → Int32 → Int32 → ml_M → Option ml_M) (l0 : Nat) (l1 : Int32) (l2 : Int32) (l3 : Int32) (l4 : Int32) (l5 : Int32) (l6 : Int32) (m : ml_M) : Option ml_M :=
    if (ml_K m l0).1 = 4 then
    ml_let (ml_R m l0 6) fun a1685 =>
    if ml_in m a1685 20 l2 then
    ml_let (ml_sI m a1685 l2.toNatClampNeg l6) fun m1687 =>
    ml_let (ml_R m1687 l0 7) fun a1689 =>
    ml_let (ml_R m1687 l0 7) fun a1690 =>
    if ml_in m1687 a1690 20 l5 then
    if ml_in m1687 a1689 20 l2 then
    ml_let (ml_sI m1687 a1689 l2.toNatClampNeg (ml_I m1687 a1690 l5.toNatClampNeg)) fun m1693 =>
    fX4_follow_165 k36 l0 l1 l2 l3 l4 m1693
    else none
    else none
    else none
    else none
theorem vX4_follow_114 {E : ml_E} (hL : ml_eL E = 7) {rm : ml_M} (hr : ∀ (pc pc' : Nat) (lv : List (Nat × ml_X)), ml_d cX4_follow pc .return_ 1 pc' → True → ml_V E "LostRoom$Lays" cX4_follow 3 false rm pc lv []) {k36 : Nat → Int32 → Int32 → Int32 → Int32 → ml_M → Option ml_M} (hk36 : ∀ (l0 : Nat) (l1 : Int32) (l2 : Int32) (l3 : Int32) (l4 : Int32) (m : ml_M), k36 l0 l1 l2 l3 l4 m = some rm → ml_V E "LostRoom$Lays" cX4_follow 3 false m 36 [(0, ml_r l0), (1, ml_i l1), (2, ml_i l2), (3, ml_i l3), (4, ml_i l4)] []) : ∀ (l0 : Nat) (l1 : Int32) (l2 : Int32) (l3 : Int32) (l4 : Int32) (l5 : Int32) (l6 : Int32) (m : ml_M), fX4_follow_114 k36 l0 l1 l2 l3 l4 l5 l6 m = some rm → ml_V E "LostRoom$Lays" cX4_follow 3 false m 114 [(0, ml_r l0), (1, ml_i l1), (2, ml_i l2), (3, ml_i l3), (4, ml_i l4), (5, ml_i l5), (6, ml_i l6)] [] := by
  intro l0 l1 l2 l3 l4 l5 l6 m h
  unfold fX4_follow_114 at h
  exact ml_aload_n dX4_follow_114 0 rfl <| ml_ck_of h fun hc1684 h => ml_getR dX4_follow_115 wb_281 hc1684 <| ml_lx (mk := ml_r) h fun a1685 h => ml_iload_n dX4_follow_118 2 rfl <| ml_iload dX4_follow_119 6 rfl <| ml_ck_of h fun hi1686 h => ml_iast dX4_follow_121 hi1686 <| ml_lt (m := m) rfl h fun m1687 em1688 h => ml_aload_n dX4_follow_122 0 rfl <| ml_getR dX4_follow_123 wb_282 (ml_kk em1688 hc1684) <| ml_lx (mk := ml_r) h fun a1689 h => ml_iload_n dX4_follow_126 2 rfl <| ml_aload_n dX4_follow_127 0 rfl <| ml_getR dX4_follow_128 wb_282 (ml_kk em1688 hc1684) <| ml_lx (mk := ml_r) h fun a1690 h => ml_iload dX4_follow_131 5 rfl <| ml_ck_of h fun hi1691 h => ml_iald dX4_follow_133 hi1691 <| ml_ck_of h fun hi1692 h => ml_iast dX4_follow_134 hi1692 <| ml_lt (m := m1687) rfl h fun m1693 em1694 h => ml_goto dX4_follow_135 <| ml_V.sub [0, 1, 2, 3, 4] rfl (vX4_follow_165 hL hr hk36 _ _ _ _ _ _ h)
def fX4_follow_91 (k36 : Nat → Int32 → Int32 → Int32 → Int32 → ml_M → Option ml_M) (l0 : Nat) (l1 : Int32) (l2 : Int32) (l3 : Int32) (l4 : Int32) (l5 : Int32) (t0 : Int32) (t1 : Int32) (m : ml_M) : Option ml_M :=
    ml_let (t1 + t0) fun x1695 =>
    if (ml_K m l0).1 = 4 then
    ml_let (ml_R m l0 7) fun a1697 =>
    if ml_in m a1697 20 l2 then
    if (ml_I m a1697 l2.toNatClampNeg) = 0 then
    fX4_follow_114 k36 l0 l1 l2 l3 l4 l5 x1695 m
    else
    ml_let (ml_R m l0 6) fun a1699 =>
    if ml_in m a1699 20 l2 then
    if (ml_I m a1699 l2.toNatClampNeg) ≤ x1695 then
    ml_let (ml_R m l0 6) fun a1701 =>
    if ml_in m a1701 20 l2 then
    if x1695 = (ml_I m a1701 l2.toNatClampNeg) then
    ml_let (ml_R m l0 7) fun a1703 =>
    if ml_in m a1703 20 l2 then
    ml_let (ml_R m l0 7) fun a1705 =>
    if ml_in m a1705 20 l5 then
    if ml_in m a1703 20 l2 then
    ml_let (ml_sI m a1703 l2.toNatClampNeg ((ml_I m a1703 l2.toNatClampNeg) + (ml_I m a1705 l5.toNatClampNeg))) fun m1708 =>
    fX4_follow_165 k36 l0 l1 l2 l3 l4 m1708
    else none
    else none
    else none
    else
    fX4_follow_165 k36 l0 l1 l2 l3 l4 m
    else none
    else
    fX4_follow_114 k36 l0 l1 l2 l3 l4 l5 x1695 m
    else none
    else none
    else none
theorem vX4_follow_91 {E : ml_E} (hL : ml_eL E = 7) {rm : ml_M} (hr : ∀ (pc pc' : Nat) (lv : List (Nat × ml_X)), ml_d cX4_follow pc .return_ 1 pc' → True → ml_V E "LostRoom$Lays" cX4_follow 3 false rm pc lv []) {k36 : Nat → Int32 → Int32 → Int32 → Int32 → ml_M → Option ml_M} (hk36 : ∀ (l0 : Nat) (l1 : Int32) (l2 : Int32) (l3 : Int32) (l4 : Int32) (m : ml_M), k36 l0 l1 l2 l3 l4 m = some rm → ml_V E "LostRoom$Lays" cX4_follow 3 false m 36 [(0, ml_r l0), (1, ml_i l1), (2, ml_i l2), (3, ml_i l3), (4, ml_i l4)] []) : ∀ (l0 : Nat) (l1 : Int32) (l2 : Int32) (l3 : Int32) (l4 : Int32) (l5 : Int32) (t0 : Int32) (t1 : Int32) (m : ml_M), fX4_follow_91 k36 l0 l1 l2 l3 l4 l5 t0 t1 m = some rm → ml_V E "LostRoom$Lays" cX4_follow 3 false m 91 [(0, ml_r l0), (1, ml_i l1), (2, ml_i l2), (3, ml_i l3), (4, ml_i l4), (5, ml_i l5)] [ml_i t0, ml_i t1] := by
  intro l0 l1 l2 l3 l4 l5 t0 t1 m h
  unfold fX4_follow_91 at h
  exact ml_iadd dX4_follow_91 <| ml_lx (mk := ml_i) h fun x1695 h => ml_istore (lv' := [(6, ml_i x1695), (0, ml_r l0), (1, ml_i l1), (2, ml_i l2), (3, ml_i l3), (4, ml_i l4), (5, ml_i l5)]) dX4_follow_92 (ml_hn hL rfl) rfl <| ml_aload_n dX4_follow_94 1 rfl <| ml_ck_of h fun hc1696 h => ml_getR dX4_follow_95 wb_282 hc1696 <| ml_lx (mk := ml_r) h fun a1697 h => ml_iload_n dX4_follow_98 3 rfl <| ml_ck_of h fun hi1698 h => ml_iald dX4_follow_99 hi1698 <| ml_if_eq dX4_follow_100 h (fun _ h => ml_V.sub [1, 2, 3, 4, 5, 6, 0] rfl (vX4_follow_114 hL hr hk36 _ _ _ _ _ _ _ _ h)) (fun _ h => ml_iload dX4_follow_103 0 rfl <| ml_aload_n dX4_follow_105 1 rfl <| ml_getR dX4_follow_106 wb_281 hc1696 <| ml_lx (mk := ml_r) h fun a1699 h => ml_iload_n dX4_follow_109 3 rfl <| ml_ck_of h fun hi1700 h => ml_iald dX4_follow_110 hi1700 <| ml_icmp_ge dX4_follow_111 h (fun _ h => ml_iload dX4_follow_138 0 rfl <| ml_aload_n dX4_follow_140 1 rfl <| ml_getR dX4_follow_141 wb_281 hc1696 <| ml_lx (mk := ml_r) h fun a1701 h => ml_iload_n dX4_follow_144 3 rfl <| ml_ck_of h fun hi1702 h => ml_iald dX4_follow_145 hi1702 <| ml_icmp_ne dX4_follow_146 h (fun _ h => ml_V.sub [1, 2, 3, 4, 5] rfl (vX4_follow_165 hL hr hk36 _ _ _ _ _ _ h)) (fun _ h => ml_aload_n dX4_follow_149 1 rfl <| ml_getR dX4_follow_150 wb_282 hc1696 <| ml_lx (mk := ml_r) h fun a1703 h => ml_iload_n dX4_follow_153 3 rfl <| ml_dup2 dX4_follow_154 rfl rfl <| ml_ck_of h fun hi1704 h => ml_iald dX4_follow_155 hi1704 <| ml_aload_n dX4_follow_156 1 rfl <| ml_getR dX4_follow_157 wb_282 hc1696 <| ml_lx (mk := ml_r) h fun a1705 h => ml_iload dX4_follow_160 6 rfl <| ml_ck_of h fun hi1706 h => ml_iald dX4_follow_162 hi1706 <| ml_iadd dX4_follow_163 <| ml_ck_of h fun hi1707 h => ml_iast dX4_follow_164 hi1707 <| ml_lt (m := m) rfl h fun m1708 em1709 h => ml_V.sub [1, 2, 3, 4, 5] rfl (vX4_follow_165 hL hr hk36 _ _ _ _ _ _ h))) (fun _ h => ml_V.sub [1, 2, 3, 4, 5, 6, 0] rfl (vX4_follow_114 hL hr hk36 _ _ _ _ _ _ _ _ h)))
def fX4_follow_36 : Nat → Nat → Int32 → Int32 → Int32 → Int32 → ml_M → Option ml_M
  | 0, _, _, _, _, _, _ => none
  | fu + 1, l0, l1, l2, l3, l4, m =>
    if (ml_K m l0).1 = 4 then
    if (ml_I m l0 4) ≤ l4 then
    some m
    else
    ml_b1 (fX10_has l1 l4 m) fun r1712 =>
    if r1712 = 0 then
    ml_b1 (fX4_slot (l1 ||| ((1 : Int32) <<< (l4 &&& 31))) l4 m) fun r1714 =>
    ml_let (ml_R m l0 6) fun a1715 =>
    if ml_in m a1715 20 r1714 then
    ml_b1 (fX10_has l3 l4 m) fun r1718 =>
    if r1718 = 0 then
    fX4_follow_91 (fX4_follow_36 fu) l0 l1 l2 l3 l4 r1714 (1 : Int32) (ml_I m a1715 r1714.toNatClampNeg) m
    else
    fX4_follow_91 (fX4_follow_36 fu) l0 l1 l2 l3 l4 r1714 (0 : Int32) (ml_I m a1715 r1714.toNatClampNeg) m
    else none
    else
    fX4_follow_165 (fX4_follow_36 fu) l0 l1 l2 l3 l4 m
    else none
theorem vX4_follow_36 {E : ml_E} (hL : ml_eL E = 7) {rm : ml_M} (hr : ∀ (pc pc' : Nat) (lv : List (Nat × ml_X)), ml_d cX4_follow pc .return_ 1 pc' → True → ml_V E "LostRoom$Lays" cX4_follow 3 false rm pc lv []) : ∀ (fu : Nat) (l0 : Nat) (l1 : Int32) (l2 : Int32) (l3 : Int32) (l4 : Int32) (m : ml_M), fX4_follow_36 fu l0 l1 l2 l3 l4 m = some rm → ml_V E "LostRoom$Lays" cX4_follow 3 false m 36 [(0, ml_r l0), (1, ml_i l1), (2, ml_i l2), (3, ml_i l3), (4, ml_i l4)] [] := by
  intro fu
  induction fu with
  | zero => intro l0 l1 l2 l3 l4 m h; exact ml_none h
  | succ fu ih =>
    intro l0 l1 l2 l3 l4 m h
    have hk36 := ih
    unfold fX4_follow_36 at h
    exact ml_iload dX4_follow_36 4 rfl <| ml_aload_n dX4_follow_38 0 rfl <| ml_ck_of h fun hc1710 h => ml_getI dX4_follow_39 wb_283 hc1710 <| ml_icmp_ge dX4_follow_42 h (fun _ h => ml_rv hr dX4_follow_171 trivial h) (fun _ h => ml_iload_n dX4_follow_45 1 rfl <| ml_iload dX4_follow_46 4 rfl <| ml_b1_of h fun r1712 hv1711 h => ml_callSN (host := "LostRoom") dX4_follow_48 (by decide) wb_190 (sX10_has hv1711) rfl (Nat.le_of_ble_eq_true rfl) (Nat.le_of_ble_eq_true rfl) rfl <| ml_if_eq dX4_follow_51 h (fun _ h => ml_iload_n dX4_follow_57 1 rfl <| ml_iconst dX4_follow_58 kc_i1 <| ml_iload dX4_follow_59 4 rfl <| ml_ishl dX4_follow_61 <| ml_ior dX4_follow_62 <| ml_iload dX4_follow_63 4 rfl <| ml_b1_of h fun r1714 hv1713 h => ml_callS dX4_follow_65 wm_457 wb_284 (sX4_slot hv1713) rfl (Nat.le_of_ble_eq_true rfl) (Nat.le_of_ble_eq_true rfl) rfl <| ml_istore (lv' := [(5, ml_i r1714), (0, ml_r l0), (1, ml_i l1), (2, ml_i l2), (3, ml_i l3), (4, ml_i l4)]) dX4_follow_68 (ml_hn hL rfl) rfl <| ml_aload_n dX4_follow_70 1 rfl <| ml_getR dX4_follow_71 wb_281 hc1710 <| ml_lx (mk := ml_r) h fun a1715 h => ml_iload dX4_follow_74 0 rfl <| ml_ck_of h fun hi1716 h => ml_iald dX4_follow_76 hi1716 <| ml_iload_n dX4_follow_77 4 rfl <| ml_iload dX4_follow_78 5 rfl <| ml_b1_of h fun r1718 hv1717 h => ml_callSN (host := "LostRoom") dX4_follow_80 (by decide) wb_190 (sX10_has hv1717) rfl (Nat.le_of_ble_eq_true rfl) (Nat.le_of_ble_eq_true rfl) rfl <| ml_if_eq dX4_follow_83 h (fun _ h => ml_iconst dX4_follow_90 kc_i1 <| ml_V.sub [1, 2, 3, 4, 5, 0] rfl (vX4_follow_91 hL hr hk36 _ _ _ _ _ _ _ _ _ h)) (fun _ h => ml_iconst dX4_follow_86 kc_i0 <| ml_goto dX4_follow_87 <| ml_V.sub [1, 2, 3, 4, 5, 0] rfl (vX4_follow_91 hL hr hk36 _ _ _ _ _ _ _ _ _ h))) (fun _ h => ml_goto dX4_follow_54 <| ml_V.sub [0, 1, 2, 3, 4] rfl (vX4_follow_165 hL hr hk36 _ _ _ _ _ _ h)))
def fX4_follow_33 (l0 : Nat) (l1 : Int32) (l2 : Int32) (l3 : Int32) (m : ml_M) : Option ml_M :=
    fX4_follow_36 ml_fu l0 l1 l2 l3 (0 : Int32) m
theorem vX4_follow_33 {E : ml_E} (hL : ml_eL E = 7) {rm : ml_M} (hr : ∀ (pc pc' : Nat) (lv : List (Nat × ml_X)), ml_d cX4_follow pc .return_ 1 pc' → True → ml_V E "LostRoom$Lays" cX4_follow 3 false rm pc lv []) : ∀ (l0 : Nat) (l1 : Int32) (l2 : Int32) (l3 : Int32) (m : ml_M), fX4_follow_33 l0 l1 l2 l3 m = some rm → ml_V E "LostRoom$Lays" cX4_follow 3 false m 33 [(0, ml_r l0), (1, ml_i l1), (2, ml_i l2), (3, ml_i l3)] [] := by
  intro l0 l1 l2 l3 m h
  unfold fX4_follow_33 at h
  exact ml_iconst dX4_follow_33 kc_i0 <| ml_istore (lv' := [(4, ml_i (0 : Int32)), (0, ml_r l0), (1, ml_i l1), (2, ml_i l2), (3, ml_i l3)]) dX4_follow_34 (ml_hn hL rfl) rfl <| ml_V.sub [1, 2, 3, 4, 0] rfl (vX4_follow_36 hL hr  ml_fu _ _ _ _ _ _ h)
def fX4_follow (l0 : Nat) (l1 : Int32) (l2 : Int32) (l3 : Int32) (m : ml_M) : Option ml_M :=
    if (ml_K m l0).1 = 4 then
    ml_let (ml_R m l0 6) fun a1720 =>
    if ml_in m a1720 20 l2 then
    ml_let (ml_sI m a1720 l2.toNatClampNeg (0 : Int32)) fun m1722 =>
    ml_let (ml_R m1722 l0 7) fun a1724 =>
    if ml_in m1722 a1724 20 l2 then
    ml_let (ml_sI m1722 a1724 l2.toNatClampNeg (0 : Int32)) fun m1726 =>
    if l1 = (((1 : Int32) <<< ((ml_I m1726 l0 4) &&& 31)) - (1 : Int32)) then
    ml_let (ml_R m1726 l0 7) fun a1728 =>
    if ml_in m1726 a1728 20 l2 then
    ml_let (ml_sI m1726 a1728 l2.toNatClampNeg (1 : Int32)) fun m1730 =>
    fX4_follow_33 l0 l1 l2 l3 m1730
    else none
    else
    fX4_follow_33 l0 l1 l2 l3 m1726
    else none
    else none
    else none
theorem wX4_follow_0 {E : ml_E} (hL : ml_eL E = 7) {rm : ml_M} (hr : ∀ (pc pc' : Nat) (lv : List (Nat × ml_X)), ml_d cX4_follow pc .return_ 1 pc' → True → ml_V E "LostRoom$Lays" cX4_follow 3 false rm pc lv []) : ∀ (l0 : Nat) (l1 : Int32) (l2 : Int32) (l3 : Int32) (m : ml_M), fX4_follow l0 l1 l2 l3 m = some rm → ml_V E "LostRoom$Lays" cX4_follow 3 false m 0 [(0, ml_r l0), (1, ml_i l1), (2, ml_i l2), (3, ml_i l3)] [] := by
  intro l0 l1 l2 l3 m h
  unfold fX4_follow at h
  exact ml_aload_n dX4_follow_0 0 rfl <| ml_ck_of h fun hc1719 h => ml_getR dX4_follow_1 wb_281 hc1719 <| ml_lx (mk := ml_r) h fun a1720 h => ml_iload_n dX4_follow_4 2 rfl <| ml_iconst dX4_follow_5 kc_i0 <| ml_ck_of h fun hi1721 h => ml_iast dX4_follow_6 hi1721 <| ml_lt (m := m) rfl h fun m1722 em1723 h => ml_aload_n dX4_follow_7 0 rfl <| ml_getR dX4_follow_8 wb_282 (ml_kk em1723 hc1719) <| ml_lx (mk := ml_r) h fun a1724 h => ml_iload_n dX4_follow_11 2 rfl <| ml_iconst dX4_follow_12 kc_i0 <| ml_ck_of h fun hi1725 h => ml_iast dX4_follow_13 hi1725 <| ml_lt (m := m1722) rfl h fun m1726 em1727 h => ml_iload_n dX4_follow_14 1 rfl <| ml_iconst dX4_follow_15 kc_i1 <| ml_aload_n dX4_follow_16 0 rfl <| ml_getI dX4_follow_17 wb_283 (ml_kk em1727 (ml_kk em1723 hc1719)) <| ml_ishl dX4_follow_20 <| ml_iconst dX4_follow_21 kc_i1 <| ml_isub dX4_follow_22 <| ml_icmp_ne dX4_follow_23 h (fun _ h => ml_V.sub [0, 1, 2, 3] rfl (vX4_follow_33 hL hr  _ _ _ _ _ h)) (fun _ h => ml_aload_n dX4_follow_26 0 rfl <| ml_getR dX4_follow_27 wb_282 (ml_kk em1727 (ml_kk em1723 hc1719)) <| ml_lx (mk := ml_r) h fun a1728 h => ml_iload_n dX4_follow_30 2 rfl <| ml_iconst dX4_follow_31 kc_i1 <| ml_ck_of h fun hi1729 h => ml_iast dX4_follow_32 hi1729 <| ml_lt (m := m1726) rfl h fun m1730 em1731 h => ml_V.sub [0, 1, 2, 3] rfl (vX4_follow_33 hL hr  _ _ _ _ _ h))
theorem sX4_follow {l0 : Nat} {l1 : Int32} {l2 : Int32} {l3 : Int32} {m : ml_M} {rm : ml_M} (h : fX4_follow l0 l1 l2 l3 m = some rm) : ml_Sn yX4_follow cX4_follow 7 none 3 [ml_r l0, ml_i l1, ml_i l2, ml_i l3] m none rm :=
  ml_Sn_of (P := True) (ini := false) (by decide +kernel) (Nat.le_of_ble_eq_true rfl) (fun h => by cases h) (fun _ => ml_RkV) fun E hL hr => wX4_follow_0 hL hr _ _ _ _ _ h
theorem dX4_nextOf_0 : ml_d cX4_nextOf 0 (.iconst 0) 1 1 := ⟨by decide +kernel, rfl⟩
theorem dX4_nextOf_1 : ml_d cX4_nextOf 1 (.istore 4) 2 3 := ⟨by decide +kernel, rfl⟩
theorem dX4_nextOf_3 : ml_d cX4_nextOf 3 (.iload 4) 2 5 := ⟨by decide +kernel, rfl⟩
theorem dX4_nextOf_5 : ml_d cX4_nextOf 5 (.aload_n 0) 1 6 := ⟨by decide +kernel, rfl⟩
theorem dX4_nextOf_6 : ml_d cX4_nextOf 6 (.getfield 28) 3 9 := ⟨by decide +kernel, rfl⟩
theorem dX4_nextOf_9 : ml_j cX4_nextOf 9 (.if_icmp .ge) 77 12 := ⟨68, by decide +kernel, by decide, rfl⟩
theorem dX4_nextOf_12 : ml_d cX4_nextOf 12 (.iload_n 1) 1 13 := ⟨by decide +kernel, rfl⟩
theorem dX4_nextOf_13 : ml_d cX4_nextOf 13 (.iload 4) 2 15 := ⟨by decide +kernel, rfl⟩
theorem dX4_nextOf_15 : ml_d cX4_nextOf 15 (.invokestatic 38) 3 18 := ⟨by decide +kernel, rfl⟩
theorem dX4_nextOf_18 : ml_j cX4_nextOf 18 (.ifCond .eq) 24 21 := ⟨6, by decide +kernel, by decide, rfl⟩
theorem dX4_nextOf_21 : ml_j cX4_nextOf 21 .goto 71 24 := ⟨50, by decide +kernel, by decide, rfl⟩
theorem dX4_nextOf_24 : ml_d cX4_nextOf 24 (.aload_n 0) 1 25 := ⟨by decide +kernel, rfl⟩
theorem dX4_nextOf_25 : ml_d cX4_nextOf 25 (.getfield 22) 3 28 := ⟨by decide +kernel, rfl⟩
theorem dX4_nextOf_28 : ml_d cX4_nextOf 28 (.iload_n 1) 1 29 := ⟨by decide +kernel, rfl⟩
theorem dX4_nextOf_29 : ml_d cX4_nextOf 29 (.iconst 1) 1 30 := ⟨by decide +kernel, rfl⟩
theorem dX4_nextOf_30 : ml_d cX4_nextOf 30 (.iload 4) 2 32 := ⟨by decide +kernel, rfl⟩
theorem dX4_nextOf_32 : ml_d cX4_nextOf 32 (.ishl) 1 33 := ⟨by decide +kernel, rfl⟩
theorem dX4_nextOf_33 : ml_d cX4_nextOf 33 (.ior) 1 34 := ⟨by decide +kernel, rfl⟩
theorem dX4_nextOf_34 : ml_d cX4_nextOf 34 (.iload 4) 2 36 := ⟨by decide +kernel, rfl⟩
theorem dX4_nextOf_36 : ml_d cX4_nextOf 36 (.invokestatic 42) 3 39 := ⟨by decide +kernel, rfl⟩
theorem dX4_nextOf_39 : ml_d cX4_nextOf 39 (.iaload) 1 40 := ⟨by decide +kernel, rfl⟩
theorem dX4_nextOf_40 : ml_d cX4_nextOf 40 (.iload_n 3) 1 41 := ⟨by decide +kernel, rfl⟩
theorem dX4_nextOf_41 : ml_d cX4_nextOf 41 (.iload 4) 2 43 := ⟨by decide +kernel, rfl⟩
theorem dX4_nextOf_43 : ml_d cX4_nextOf 43 (.invokestatic 38) 3 46 := ⟨by decide +kernel, rfl⟩
theorem dX4_nextOf_46 : ml_j cX4_nextOf 46 (.ifCond .eq) 53 49 := ⟨7, by decide +kernel, by decide, rfl⟩
theorem dX4_nextOf_49 : ml_d cX4_nextOf 49 (.iconst 0) 1 50 := ⟨by decide +kernel, rfl⟩
theorem dX4_nextOf_50 : ml_j cX4_nextOf 50 .goto 54 53 := ⟨4, by decide +kernel, by decide, rfl⟩
theorem dX4_nextOf_53 : ml_d cX4_nextOf 53 (.iconst 1) 1 54 := ⟨by decide +kernel, rfl⟩
theorem dX4_nextOf_54 : ml_d cX4_nextOf 54 (.iadd) 1 55 := ⟨by decide +kernel, rfl⟩
theorem dX4_nextOf_55 : ml_d cX4_nextOf 55 (.istore 5) 2 57 := ⟨by decide +kernel, rfl⟩
theorem dX4_nextOf_57 : ml_d cX4_nextOf 57 (.iload 5) 2 59 := ⟨by decide +kernel, rfl⟩
theorem dX4_nextOf_59 : ml_d cX4_nextOf 59 (.aload_n 0) 1 60 := ⟨by decide +kernel, rfl⟩
theorem dX4_nextOf_60 : ml_d cX4_nextOf 60 (.getfield 22) 3 63 := ⟨by decide +kernel, rfl⟩
theorem dX4_nextOf_63 : ml_d cX4_nextOf 63 (.iload_n 2) 1 64 := ⟨by decide +kernel, rfl⟩
theorem dX4_nextOf_64 : ml_d cX4_nextOf 64 (.iaload) 1 65 := ⟨by decide +kernel, rfl⟩
theorem dX4_nextOf_65 : ml_j cX4_nextOf 65 (.if_icmp .ne) 71 68 := ⟨6, by decide +kernel, by decide, rfl⟩
theorem dX4_nextOf_68 : ml_d cX4_nextOf 68 (.iload 4) 2 70 := ⟨by decide +kernel, rfl⟩
theorem dX4_nextOf_70 : ml_d cX4_nextOf 70 (.ireturn) 1 71 := ⟨by decide +kernel, rfl⟩
theorem dX4_nextOf_71 : ml_d cX4_nextOf 71 (.iinc 4 1) 3 74 := ⟨by decide +kernel, rfl⟩
theorem dX4_nextOf_74 : ml_j cX4_nextOf 74 .goto 3 77 := ⟨(-71), by decide +kernel, by decide, rfl⟩
theorem dX4_nextOf_77 : ml_d cX4_nextOf 77 (.iconst 0) 1 78 := ⟨by decide +kernel, rfl⟩
theorem dX4_nextOf_78 : ml_d cX4_nextOf 78 (.ireturn) 1 79 := ⟨by decide +kernel, rfl⟩
def fX4_nextOf_71 (k3 : Nat → Int32 → Int32 → Int32 → Int32 → ml_M → Option Int32) (l0 : Nat) (l1 : Int32) (l2 : Int32) (l3 : Int32) (l4 : Int32) (m : ml_M) : Option Int32 :=
    k3 l0 l1 l2 l3 (l4 + (1 : Int32)) m
theorem vX4_nextOf_71 {E : ml_E} (hL : ml_eL E = 6) {rv : Int32} {m : ml_M} (hr : ∀ (pc pc' : Nat) (lv : List (Nat × ml_X)), ml_d cX4_nextOf pc .ireturn 1 pc' → True → ml_V E "LostRoom$Lays" cX4_nextOf 3 false m pc lv [ml_i rv]) {k3 : Nat → Int32 → Int32 → Int32 → Int32 → ml_M → Option Int32} (hk3 : ∀ (l0 : Nat) (l1 : Int32) (l2 : Int32) (l3 : Int32) (l4 : Int32), k3 l0 l1 l2 l3 l4 m = some rv → ml_V E "LostRoom$Lays" cX4_nextOf 3 false m 3 [(0, ml_r l0), (1, ml_i l1), (2, ml_i l2), (3, ml_i l3), (4, ml_i l4)] []) : ∀ (l0 : Nat) (l1 : Int32) (l2 : Int32) (l3 : Int32) (l4 : Int32), fX4_nextOf_71 k3 l0 l1 l2 l3 l4 m = some rv → ml_V E "LostRoom$Lays" cX4_nextOf 3 false m 71 [(0, ml_r l0), (1, ml_i l1), (2, ml_i l2), (3, ml_i l3), (4, ml_i l4)] [] := by
  intro l0 l1 l2 l3 l4 h
  unfold fX4_nextOf_71 at h
  exact ml_iinc (lv' := [(4, ml_i (l4 + (1 : Int32))), (0, ml_r l0), (1, ml_i l1), (2, ml_i l2), (3, ml_i l3)]) dX4_nextOf_71 4 rfl (congrArg (l4 + ·) kc_i1) (ml_hn hL rfl) rfl <| ml_goto dX4_nextOf_74 <| ml_V.sub [1, 2, 3, 4, 0] rfl (hk3 _ _ _ _ _ h)
def fX4_nextOf_54 (k3 : Nat → Int32 → Int32 → Int32 → Int32 → ml_M → Option Int32) (l0 : Nat) (l1 : Int32) (l2 : Int32) (l3 : Int32) (l4 : Int32) (t0 : Int32) (t1 : Int32) (m : ml_M) : Option Int32 :=
    ml_let (t1 + t0) fun x1732 =>
    if (ml_K m l0).1 = 4 then
    ml_let (ml_R m l0 6) fun a1734 =>
    if ml_in m a1734 20 l2 then
    if x1732 = (ml_I m a1734 l2.toNatClampNeg) then
    some l4
    else
    fX4_nextOf_71 k3 l0 l1 l2 l3 l4 m
    else none
    else none
theorem vX4_nextOf_54 {E : ml_E} (hL : ml_eL E = 6) {rv : Int32} {m : ml_M} (hr : ∀ (pc pc' : Nat) (lv : List (Nat × ml_X)), ml_d cX4_nextOf pc .ireturn 1 pc' → True → ml_V E "LostRoom$Lays" cX4_nextOf 3 false m pc lv [ml_i rv]) {k3 : Nat → Int32 → Int32 → Int32 → Int32 → ml_M → Option Int32} (hk3 : ∀ (l0 : Nat) (l1 : Int32) (l2 : Int32) (l3 : Int32) (l4 : Int32), k3 l0 l1 l2 l3 l4 m = some rv → ml_V E "LostRoom$Lays" cX4_nextOf 3 false m 3 [(0, ml_r l0), (1, ml_i l1), (2, ml_i l2), (3, ml_i l3), (4, ml_i l4)] []) : ∀ (l0 : Nat) (l1 : Int32) (l2 : Int32) (l3 : Int32) (l4 : Int32) (t0 : Int32) (t1 : Int32), fX4_nextOf_54 k3 l0 l1 l2 l3 l4 t0 t1 m = some rv → ml_V E "LostRoom$Lays" cX4_nextOf 3 false m 54 [(0, ml_r l0), (1, ml_i l1), (2, ml_i l2), (3, ml_i l3), (4, ml_i l4)] [ml_i t0, ml_i t1] := by
  intro l0 l1 l2 l3 l4 t0 t1 h
  unfold fX4_nextOf_54 at h
  exact ml_iadd dX4_nextOf_54 <| ml_lx (mk := ml_i) h fun x1732 h => ml_istore (lv' := [(5, ml_i x1732), (0, ml_r l0), (1, ml_i l1), (2, ml_i l2), (3, ml_i l3), (4, ml_i l4)]) dX4_nextOf_55 (ml_hn hL rfl) rfl <| ml_iload dX4_nextOf_57 0 rfl <| ml_aload_n dX4_nextOf_59 1 rfl <| ml_ck_of h fun hc1733 h => ml_getR dX4_nextOf_60 wb_281 hc1733 <| ml_lx (mk := ml_r) h fun a1734 h => ml_iload_n dX4_nextOf_63 3 rfl <| ml_ck_of h fun hi1735 h => ml_iald dX4_nextOf_64 hi1735 <| ml_icmp_ne dX4_nextOf_65 h (fun _ h => ml_V.sub [1, 2, 3, 4, 5] rfl (vX4_nextOf_71 hL hr hk3 _ _ _ _ _ h)) (fun _ h => ml_iload dX4_nextOf_68 5 rfl <| ml_rp (mk := ml_i) hr dX4_nextOf_70 (fun _ => trivial) h)
def fX4_nextOf_3 : Nat → Nat → Int32 → Int32 → Int32 → Int32 → ml_M → Option Int32
  | 0, _, _, _, _, _, _ => none
  | fu + 1, l0, l1, l2, l3, l4, m =>
    if (ml_K m l0).1 = 4 then
    if (ml_I m l0 4) ≤ l4 then
    some (0 : Int32)
    else
    ml_b1 (fX10_has l1 l4 m) fun r1738 =>
    if r1738 = 0 then
    ml_let (ml_R m l0 6) fun a1739 =>
    ml_b1 (fX4_slot (l1 ||| ((1 : Int32) <<< (l4 &&& 31))) l4 m) fun r1741 =>
    if ml_in m a1739 20 r1741 then
    ml_b1 (fX10_has l3 l4 m) fun r1744 =>
    if r1744 = 0 then
    fX4_nextOf_54 (fX4_nextOf_3 fu) l0 l1 l2 l3 l4 (1 : Int32) (ml_I m a1739 r1741.toNatClampNeg) m
    else
    fX4_nextOf_54 (fX4_nextOf_3 fu) l0 l1 l2 l3 l4 (0 : Int32) (ml_I m a1739 r1741.toNatClampNeg) m
    else none
    else
    fX4_nextOf_71 (fX4_nextOf_3 fu) l0 l1 l2 l3 l4 m
    else none
theorem vX4_nextOf_3 {E : ml_E} (hL : ml_eL E = 6) {rv : Int32} {m : ml_M} (hr : ∀ (pc pc' : Nat) (lv : List (Nat × ml_X)), ml_d cX4_nextOf pc .ireturn 1 pc' → True → ml_V E "LostRoom$Lays" cX4_nextOf 3 false m pc lv [ml_i rv]) : ∀ (fu : Nat) (l0 : Nat) (l1 : Int32) (l2 : Int32) (l3 : Int32) (l4 : Int32), fX4_nextOf_3 fu l0 l1 l2 l3 l4 m = some rv → ml_V E "LostRoom$Lays" cX4_nextOf 3 false m 3 [(0, ml_r l0), (1, ml_i l1), (2, ml_i l2), (3, ml_i l3), (4, ml_i l4)] [] := by
  intro fu
  induction fu with
  | zero => intro l0 l1 l2 l3 l4 h; exact ml_none h
  | succ fu ih =>
    intro l0 l1 l2 l3 l4 h
    have hk3 := ih
    unfold fX4_nextOf_3 at h
    exact ml_iload dX4_nextOf_3 4 rfl <| ml_aload_n dX4_nextOf_5 0 rfl <| ml_ck_of h fun hc1736 h => ml_getI dX4_nextOf_6 wb_283 hc1736 <| ml_icmp_ge dX4_nextOf_9 h (fun _ h => ml_iconst dX4_nextOf_77 kc_i0 <| ml_rp (mk := ml_i) hr dX4_nextOf_78 (fun _ => trivial) h) (fun _ h => ml_iload_n dX4_nextOf_12 1 rfl <| ml_iload dX4_nextOf_13 4 rfl <| ml_b1_of h fun r1738 hv1737 h => ml_callSN (host := "LostRoom") dX4_nextOf_15 (by decide) wb_190 (sX10_has hv1737) rfl (Nat.le_of_ble_eq_true rfl) (Nat.le_of_ble_eq_true rfl) rfl <| ml_if_eq dX4_nextOf_18 h (fun _ h => ml_aload_n dX4_nextOf_24 0 rfl <| ml_getR dX4_nextOf_25 wb_281 hc1736 <| ml_lx (mk := ml_r) h fun a1739 h => ml_iload_n dX4_nextOf_28 1 rfl <| ml_iconst dX4_nextOf_29 kc_i1 <| ml_iload dX4_nextOf_30 4 rfl <| ml_ishl dX4_nextOf_32 <| ml_ior dX4_nextOf_33 <| ml_iload dX4_nextOf_34 4 rfl <| ml_b1_of h fun r1741 hv1740 h => ml_callS dX4_nextOf_36 wm_457 wb_284 (sX4_slot hv1740) rfl (Nat.le_of_ble_eq_true rfl) (Nat.le_of_ble_eq_true rfl) rfl <| ml_ck_of h fun hi1742 h => ml_iald dX4_nextOf_39 hi1742 <| ml_iload_n dX4_nextOf_40 3 rfl <| ml_iload dX4_nextOf_41 4 rfl <| ml_b1_of h fun r1744 hv1743 h => ml_callSN (host := "LostRoom") dX4_nextOf_43 (by decide) wb_190 (sX10_has hv1743) rfl (Nat.le_of_ble_eq_true rfl) (Nat.le_of_ble_eq_true rfl) rfl <| ml_if_eq dX4_nextOf_46 h (fun _ h => ml_iconst dX4_nextOf_53 kc_i1 <| ml_V.sub [0, 1, 2, 3, 4] rfl (vX4_nextOf_54 hL hr hk3 _ _ _ _ _ _ _ h)) (fun _ h => ml_iconst dX4_nextOf_49 kc_i0 <| ml_goto dX4_nextOf_50 <| ml_V.sub [0, 1, 2, 3, 4] rfl (vX4_nextOf_54 hL hr hk3 _ _ _ _ _ _ _ h))) (fun _ h => ml_goto dX4_nextOf_21 <| ml_V.sub [0, 1, 2, 3, 4] rfl (vX4_nextOf_71 hL hr hk3 _ _ _ _ _ h)))
def fX4_nextOf (l0 : Nat) (l1 : Int32) (l2 : Int32) (l3 : Int32) (m : ml_M) : Option Int32 :=
    fX4_nextOf_3 ml_fu l0 l1 l2 l3 (0 : Int32) m
theorem wX4_nextOf_0 {E : ml_E} (hL : ml_eL E = 6) {rv : Int32} {m : ml_M} (hr : ∀ (pc pc' : Nat) (lv : List (Nat × ml_X)), ml_d cX4_nextOf pc .ireturn 1 pc' → True → ml_V E "LostRoom$Lays" cX4_nextOf 3 false m pc lv [ml_i rv]) : ∀ (l0 : Nat) (l1 : Int32) (l2 : Int32) (l3 : Int32), fX4_nextOf l0 l1 l2 l3 m = some rv → ml_V E "LostRoom$Lays" cX4_nextOf 3 false m 0 [(0, ml_r l0), (1, ml_i l1), (2, ml_i l2), (3, ml_i l3)] [] := by
  intro l0 l1 l2 l3 h
  unfold fX4_nextOf at h
  exact ml_iconst dX4_nextOf_0 kc_i0 <| ml_istore (lv' := [(4, ml_i (0 : Int32)), (0, ml_r l0), (1, ml_i l1), (2, ml_i l2), (3, ml_i l3)]) dX4_nextOf_1 (ml_hn hL rfl) rfl <| ml_V.sub [1, 2, 3, 4, 0] rfl (vX4_nextOf_3 hL hr  ml_fu _ _ _ _ _ h)
theorem sX4_nextOf {l0 : Nat} {l1 : Int32} {l2 : Int32} {l3 : Int32} {m : ml_M} {rv : Int32} (h : fX4_nextOf l0 l1 l2 l3 m = some rv) : ml_Sn yX4_nextOf cX4_nextOf 6 (some .int) 3 [ml_r l0, ml_i l1, ml_i l2, ml_i l3] m (some (ml_i rv)) m :=
  ml_Sn_of (P := True) (ini := false) (by decide +kernel) (Nat.le_of_ble_eq_true rfl) (fun h => by cases h) (fun _ => ml_RkI rv) fun E hL hr => wX4_nextOf_0 hL hr _ _ _ _ h
theorem dX4_findFirst_0 : ml_d cX4_findFirst 0 (.iconst 0) 1 1 := ⟨by decide +kernel, rfl⟩
theorem dX4_findFirst_1 : ml_d cX4_findFirst 1 (.istore_n 1) 1 2 := ⟨by decide +kernel, rfl⟩
theorem dX4_findFirst_2 : ml_d cX4_findFirst 2 (.iconst 0) 1 3 := ⟨by decide +kernel, rfl⟩
theorem dX4_findFirst_3 : ml_d cX4_findFirst 3 (.iconst 0) 1 4 := ⟨by decide +kernel, rfl⟩
theorem dX4_findFirst_4 : ml_d cX4_findFirst 4 (.invokestatic 42) 3 7 := ⟨by decide +kernel, rfl⟩
theorem dX4_findFirst_7 : ml_d cX4_findFirst 7 (.istore_n 2) 1 8 := ⟨by decide +kernel, rfl⟩
theorem dX4_findFirst_8 : ml_d cX4_findFirst 8 (.iconst 0) 1 9 := ⟨by decide +kernel, rfl⟩
theorem dX4_findFirst_9 : ml_d cX4_findFirst 9 (.istore_n 3) 1 10 := ⟨by decide +kernel, rfl⟩
theorem dX4_findFirst_10 : ml_d cX4_findFirst 10 (.iconst 0) 1 11 := ⟨by decide +kernel, rfl⟩
theorem dX4_findFirst_11 : ml_d cX4_findFirst 11 (.istore 4) 2 13 := ⟨by decide +kernel, rfl⟩
theorem dX4_findFirst_13 : ml_d cX4_findFirst 13 (.iload 4) 2 15 := ⟨by decide +kernel, rfl⟩
theorem dX4_findFirst_15 : ml_d cX4_findFirst 15 (.aload_n 0) 1 16 := ⟨by decide +kernel, rfl⟩
theorem dX4_findFirst_16 : ml_d cX4_findFirst 16 (.getfield 28) 3 19 := ⟨by decide +kernel, rfl⟩
theorem dX4_findFirst_19 : ml_j cX4_findFirst 19 (.if_icmp .ge) 68 22 := ⟨49, by decide +kernel, by decide, rfl⟩
theorem dX4_findFirst_22 : ml_d cX4_findFirst 22 (.aload_n 0) 1 23 := ⟨by decide +kernel, rfl⟩
theorem dX4_findFirst_23 : ml_d cX4_findFirst 23 (.iload_n 1) 1 24 := ⟨by decide +kernel, rfl⟩
theorem dX4_findFirst_24 : ml_d cX4_findFirst 24 (.iload_n 2) 1 25 := ⟨by decide +kernel, rfl⟩
theorem dX4_findFirst_25 : ml_d cX4_findFirst 25 (.iload_n 3) 1 26 := ⟨by decide +kernel, rfl⟩
theorem dX4_findFirst_26 : ml_d cX4_findFirst 26 (.invokevirtual 59) 3 29 := ⟨by decide +kernel, rfl⟩
theorem dX4_findFirst_29 : ml_d cX4_findFirst 29 (.istore 5) 2 31 := ⟨by decide +kernel, rfl⟩
theorem dX4_findFirst_31 : ml_d cX4_findFirst 31 (.aload_n 0) 1 32 := ⟨by decide +kernel, rfl⟩
theorem dX4_findFirst_32 : ml_d cX4_findFirst 32 (.getfield 15) 3 35 := ⟨by decide +kernel, rfl⟩
theorem dX4_findFirst_35 : ml_d cX4_findFirst 35 (.iload 4) 2 37 := ⟨by decide +kernel, rfl⟩
theorem dX4_findFirst_37 : ml_d cX4_findFirst 37 (.iload 5) 2 39 := ⟨by decide +kernel, rfl⟩
theorem dX4_findFirst_39 : ml_d cX4_findFirst 39 (.iastore) 1 40 := ⟨by decide +kernel, rfl⟩
theorem dX4_findFirst_40 : ml_d cX4_findFirst 40 (.iload_n 1) 1 41 := ⟨by decide +kernel, rfl⟩
theorem dX4_findFirst_41 : ml_d cX4_findFirst 41 (.iconst 1) 1 42 := ⟨by decide +kernel, rfl⟩
theorem dX4_findFirst_42 : ml_d cX4_findFirst 42 (.iload 5) 2 44 := ⟨by decide +kernel, rfl⟩
theorem dX4_findFirst_44 : ml_d cX4_findFirst 44 (.ishl) 1 45 := ⟨by decide +kernel, rfl⟩
theorem dX4_findFirst_45 : ml_d cX4_findFirst 45 (.ior) 1 46 := ⟨by decide +kernel, rfl⟩
theorem dX4_findFirst_46 : ml_d cX4_findFirst 46 (.istore_n 1) 1 47 := ⟨by decide +kernel, rfl⟩
theorem dX4_findFirst_47 : ml_d cX4_findFirst 47 (.iload_n 1) 1 48 := ⟨by decide +kernel, rfl⟩
theorem dX4_findFirst_48 : ml_d cX4_findFirst 48 (.iload 5) 2 50 := ⟨by decide +kernel, rfl⟩
theorem dX4_findFirst_50 : ml_d cX4_findFirst 50 (.invokestatic 42) 3 53 := ⟨by decide +kernel, rfl⟩
theorem dX4_findFirst_53 : ml_d cX4_findFirst 53 (.istore_n 2) 1 54 := ⟨by decide +kernel, rfl⟩
theorem dX4_findFirst_54 : ml_d cX4_findFirst 54 (.aload_n 0) 1 55 := ⟨by decide +kernel, rfl⟩
theorem dX4_findFirst_55 : ml_d cX4_findFirst 55 (.getfield 19) 3 58 := ⟨by decide +kernel, rfl⟩
theorem dX4_findFirst_58 : ml_d cX4_findFirst 58 (.iload 5) 2 60 := ⟨by decide +kernel, rfl⟩
theorem dX4_findFirst_60 : ml_d cX4_findFirst 60 (.iaload) 1 61 := ⟨by decide +kernel, rfl⟩
theorem dX4_findFirst_61 : ml_d cX4_findFirst 61 (.istore_n 3) 1 62 := ⟨by decide +kernel, rfl⟩
theorem dX4_findFirst_62 : ml_d cX4_findFirst 62 (.iinc 4 1) 3 65 := ⟨by decide +kernel, rfl⟩
theorem dX4_findFirst_65 : ml_j cX4_findFirst 65 .goto 13 68 := ⟨(-52), by decide +kernel, by decide, rfl⟩
theorem dX4_findFirst_68 : ml_d cX4_findFirst 68 (.return_) 1 69 := ⟨by decide +kernel, rfl⟩
def fX4_findFirst_13 : Nat → Nat → Int32 → Int32 → Int32 → Int32 → ml_M → Option ml_M
  | 0, _, _, _, _, _, _ => none
  | fu + 1, l0, l1, l2, l3, l4, m =>
    if (ml_K m l0).1 = 4 then
    if (ml_I m l0 4) ≤ l4 then
    some m
    else
    ml_b1 (fX4_nextOf l0 l1 l2 l3 m) fun r1747 =>
    ml_let (ml_R m l0 3) fun a1748 =>
    if ml_in m a1748 20 l4 then
    ml_let (ml_sI m a1748 l4.toNatClampNeg r1747) fun m1750 =>
    ml_let (l1 ||| ((1 : Int32) <<< (r1747 &&& 31))) fun x1752 =>
    ml_b1 (fX4_slot x1752 r1747 m1750) fun r1754 =>
    ml_let (ml_R m1750 l0 5) fun a1755 =>
    if ml_in m1750 a1755 20 r1747 then
    ml_let (ml_I m1750 a1755 r1747.toNatClampNeg) fun x1757 =>
    (fX4_findFirst_13 fu) l0 x1752 r1754 x1757 (l4 + (1 : Int32)) m1750
    else none
    else none
    else none
theorem vX4_findFirst_13 {E : ml_E} (hL : ml_eL E = 6) {rm : ml_M} (hr : ∀ (pc pc' : Nat) (lv : List (Nat × ml_X)), ml_d cX4_findFirst pc .return_ 1 pc' → True → ml_V E "LostRoom$Lays" cX4_findFirst 4 false rm pc lv []) : ∀ (fu : Nat) (l0 : Nat) (l1 : Int32) (l2 : Int32) (l3 : Int32) (l4 : Int32) (m : ml_M), fX4_findFirst_13 fu l0 l1 l2 l3 l4 m = some rm → ml_V E "LostRoom$Lays" cX4_findFirst 4 false m 13 [(0, ml_r l0), (1, ml_i l1), (2, ml_i l2), (3, ml_i l3), (4, ml_i l4)] [] := by
  intro fu
  induction fu with
  | zero => intro l0 l1 l2 l3 l4 m h; exact ml_none h
  | succ fu ih =>
    intro l0 l1 l2 l3 l4 m h
    have hk13 := ih
    unfold fX4_findFirst_13 at h
    exact ml_iload dX4_findFirst_13 4 rfl <| ml_aload_n dX4_findFirst_15 0 rfl <| ml_ck_of h fun hc1745 h => ml_getI dX4_findFirst_16 wb_283 hc1745 <| ml_icmp_ge dX4_findFirst_19 h (fun _ h => ml_rv hr dX4_findFirst_68 trivial h) (fun _ h => ml_aload_n dX4_findFirst_22 0 rfl <| ml_iload_n dX4_findFirst_23 1 rfl <| ml_iload_n dX4_findFirst_24 2 rfl <| ml_iload_n dX4_findFirst_25 3 rfl <| ml_b1_of h fun r1747 hv1746 h => ml_callV dX4_findFirst_26 wm_461 wb_285 hc1745 (sX4_nextOf hv1746) rfl (Nat.le_of_ble_eq_true rfl) (Nat.le_of_ble_eq_true rfl) rfl <| ml_istore (lv' := [(5, ml_i r1747), (0, ml_r l0), (1, ml_i l1), (2, ml_i l2), (3, ml_i l3), (4, ml_i l4)]) dX4_findFirst_29 (ml_hn hL rfl) rfl <| ml_aload_n dX4_findFirst_31 1 rfl <| ml_getR dX4_findFirst_32 wb_286 hc1745 <| ml_lx (mk := ml_r) h fun a1748 h => ml_iload dX4_findFirst_35 5 rfl <| ml_iload dX4_findFirst_37 0 rfl <| ml_ck_of h fun hi1749 h => ml_iast dX4_findFirst_39 hi1749 <| ml_lt (m := m) rfl h fun m1750 em1751 h => ml_iload_n dX4_findFirst_40 2 rfl <| ml_iconst dX4_findFirst_41 kc_i1 <| ml_iload dX4_findFirst_42 0 rfl <| ml_ishl dX4_findFirst_44 <| ml_ior dX4_findFirst_45 <| ml_lx (mk := ml_i) h fun x1752 h => ml_istore_n (lv' := [(1, ml_i x1752), (5, ml_i r1747), (0, ml_r l0), (2, ml_i l2), (3, ml_i l3), (4, ml_i l4)]) dX4_findFirst_46 (ml_hn hL rfl) rfl <| ml_iload_n dX4_findFirst_47 0 rfl <| ml_iload dX4_findFirst_48 1 rfl <| ml_b1_of h fun r1754 hv1753 h => ml_callS dX4_findFirst_50 wm_457 wb_284 (sX4_slot hv1753) rfl (Nat.le_of_ble_eq_true rfl) (Nat.le_of_ble_eq_true rfl) rfl <| ml_istore_n (lv' := [(2, ml_i r1754), (1, ml_i x1752), (5, ml_i r1747), (0, ml_r l0), (3, ml_i l3), (4, ml_i l4)]) dX4_findFirst_53 (ml_hn hL rfl) rfl <| ml_aload_n dX4_findFirst_54 3 rfl <| ml_getR dX4_findFirst_55 wb_287 (ml_kk em1751 hc1745) <| ml_lx (mk := ml_r) h fun a1755 h => ml_iload dX4_findFirst_58 2 rfl <| ml_ck_of h fun hi1756 h => ml_iald dX4_findFirst_60 hi1756 <| ml_lx (mk := ml_i) h fun x1757 h => ml_istore_n (lv' := [(3, ml_i x1757), (2, ml_i r1754), (1, ml_i x1752), (5, ml_i r1747), (0, ml_r l0), (4, ml_i l4)]) dX4_findFirst_61 (ml_hn hL rfl) rfl <| ml_iinc (lv' := [(4, ml_i (l4 + (1 : Int32))), (3, ml_i x1757), (2, ml_i r1754), (1, ml_i x1752), (5, ml_i r1747), (0, ml_r l0)]) dX4_findFirst_62 5 rfl (congrArg (l4 + ·) kc_i1) (ml_hn hL rfl) rfl <| ml_goto dX4_findFirst_65 <| ml_V.sub [5, 3, 2, 1, 0] rfl (hk13 _ _ _ _ _ _ h))
def fX4_findFirst (l0 : Nat) (m : ml_M) : Option ml_M :=
    ml_b1 (fX4_slot (0 : Int32) (0 : Int32) m) fun r1759 =>
    fX4_findFirst_13 ml_fu l0 (0 : Int32) r1759 (0 : Int32) (0 : Int32) m
theorem wX4_findFirst_0 {E : ml_E} (hL : ml_eL E = 6) {rm : ml_M} (hr : ∀ (pc pc' : Nat) (lv : List (Nat × ml_X)), ml_d cX4_findFirst pc .return_ 1 pc' → True → ml_V E "LostRoom$Lays" cX4_findFirst 4 false rm pc lv []) : ∀ (l0 : Nat) (m : ml_M), fX4_findFirst l0 m = some rm → ml_V E "LostRoom$Lays" cX4_findFirst 4 false m 0 [(0, ml_r l0)] [] := by
  intro l0 m h
  unfold fX4_findFirst at h
  exact ml_iconst dX4_findFirst_0 kc_i0 <| ml_istore_n (lv' := [(1, ml_i (0 : Int32)), (0, ml_r l0)]) dX4_findFirst_1 (ml_hn hL rfl) rfl <| ml_iconst dX4_findFirst_2 kc_i0 <| ml_iconst dX4_findFirst_3 kc_i0 <| ml_b1_of h fun r1759 hv1758 h => ml_callS dX4_findFirst_4 wm_457 wb_284 (sX4_slot hv1758) rfl (Nat.le_of_ble_eq_true rfl) (Nat.le_of_ble_eq_true rfl) rfl <| ml_istore_n (lv' := [(2, ml_i r1759), (1, ml_i (0 : Int32)), (0, ml_r l0)]) dX4_findFirst_7 (ml_hn hL rfl) rfl <| ml_iconst dX4_findFirst_8 kc_i0 <| ml_istore_n (lv' := [(3, ml_i (0 : Int32)), (2, ml_i r1759), (1, ml_i (0 : Int32)), (0, ml_r l0)]) dX4_findFirst_9 (ml_hn hL rfl) rfl <| ml_iconst dX4_findFirst_10 kc_i0 <| ml_istore (lv' := [(4, ml_i (0 : Int32)), (3, ml_i (0 : Int32)), (2, ml_i r1759), (1, ml_i (0 : Int32)), (0, ml_r l0)]) dX4_findFirst_11 (ml_hn hL rfl) rfl <| ml_V.sub [4, 3, 2, 1, 0] rfl (vX4_findFirst_13 hL hr  ml_fu _ _ _ _ _ _ h)
theorem sX4_findFirst {l0 : Nat} {m : ml_M} {rm : ml_M} (h : fX4_findFirst l0 m = some rm) : ml_Sn yX4_findFirst cX4_findFirst 6 none 4 [ml_r l0] m none rm :=
  ml_Sn_of (P := True) (ini := false) (by decide +kernel) (Nat.le_of_ble_eq_true rfl) (fun h => by cases h) (fun _ => ml_RkV) fun E hL hr => wX4_findFirst_0 hL hr _ _ h
theorem dX4_gather_0 : ml_d cX4_gather 0 (.aload_n 0) 1 1 := ⟨by decide +kernel, rfl⟩
theorem dX4_gather_1 : ml_d cX4_gather 1 (.iload_n 2) 1 2 := ⟨by decide +kernel, rfl⟩
theorem dX4_gather_2 : ml_d cX4_gather 2 (.putfield 28) 3 5 := ⟨by decide +kernel, rfl⟩
theorem dX4_gather_5 : ml_d cX4_gather 5 (.iconst 0) 1 6 := ⟨by decide +kernel, rfl⟩
theorem dX4_gather_6 : ml_d cX4_gather 6 (.istore_n 3) 1 7 := ⟨by decide +kernel, rfl⟩
theorem dX4_gather_7 : ml_d cX4_gather 7 (.iload_n 3) 1 8 := ⟨by decide +kernel, rfl⟩
theorem dX4_gather_8 : ml_d cX4_gather 8 (.aload_n 0) 1 9 := ⟨by decide +kernel, rfl⟩
theorem dX4_gather_9 : ml_d cX4_gather 9 (.getfield 28) 3 12 := ⟨by decide +kernel, rfl⟩
theorem dX4_gather_12 : ml_j cX4_gather 12 (.if_icmp .ge) 78 15 := ⟨66, by decide +kernel, by decide, rfl⟩
theorem dX4_gather_15 : ml_d cX4_gather 15 (.aload_n 0) 1 16 := ⟨by decide +kernel, rfl⟩
theorem dX4_gather_16 : ml_d cX4_gather 16 (.getfield 19) 3 19 := ⟨by decide +kernel, rfl⟩
theorem dX4_gather_19 : ml_d cX4_gather 19 (.iload_n 3) 1 20 := ⟨by decide +kernel, rfl⟩
theorem dX4_gather_20 : ml_d cX4_gather 20 (.iconst 0) 1 21 := ⟨by decide +kernel, rfl⟩
theorem dX4_gather_21 : ml_d cX4_gather 21 (.iastore) 1 22 := ⟨by decide +kernel, rfl⟩
theorem dX4_gather_22 : ml_d cX4_gather 22 (.iconst 0) 1 23 := ⟨by decide +kernel, rfl⟩
theorem dX4_gather_23 : ml_d cX4_gather 23 (.istore 4) 2 25 := ⟨by decide +kernel, rfl⟩
theorem dX4_gather_25 : ml_d cX4_gather 25 (.iload 4) 2 27 := ⟨by decide +kernel, rfl⟩
theorem dX4_gather_27 : ml_d cX4_gather 27 (.aload_n 0) 1 28 := ⟨by decide +kernel, rfl⟩
theorem dX4_gather_28 : ml_d cX4_gather 28 (.getfield 28) 3 31 := ⟨by decide +kernel, rfl⟩
theorem dX4_gather_31 : ml_j cX4_gather 31 (.if_icmp .ge) 72 34 := ⟨41, by decide +kernel, by decide, rfl⟩
theorem dX4_gather_34 : ml_d cX4_gather 34 (.iload_n 3) 1 35 := ⟨by decide +kernel, rfl⟩
theorem dX4_gather_35 : ml_d cX4_gather 35 (.iload 4) 2 37 := ⟨by decide +kernel, rfl⟩
theorem dX4_gather_37 : ml_j cX4_gather 37 (.if_icmp .eq) 66 40 := ⟨29, by decide +kernel, by decide, rfl⟩
theorem dX4_gather_40 : ml_d cX4_gather 40 (.aload_n 1) 1 41 := ⟨by decide +kernel, rfl⟩
theorem dX4_gather_41 : ml_d cX4_gather 41 (.iload_n 3) 1 42 := ⟨by decide +kernel, rfl⟩
theorem dX4_gather_42 : ml_d cX4_gather 42 (.aaload) 1 43 := ⟨by decide +kernel, rfl⟩
theorem dX4_gather_43 : ml_d cX4_gather 43 (.aload_n 1) 1 44 := ⟨by decide +kernel, rfl⟩
theorem dX4_gather_44 : ml_d cX4_gather 44 (.iload 4) 2 46 := ⟨by decide +kernel, rfl⟩
theorem dX4_gather_46 : ml_d cX4_gather 46 (.aaload) 1 47 := ⟨by decide +kernel, rfl⟩
theorem dX4_gather_47 : ml_d cX4_gather 47 (.invokevirtual 32) 3 50 := ⟨by decide +kernel, rfl⟩
theorem dX4_gather_50 : ml_j cX4_gather 50 (.ifCond .eq) 66 53 := ⟨16, by decide +kernel, by decide, rfl⟩
theorem dX4_gather_53 : ml_d cX4_gather 53 (.aload_n 0) 1 54 := ⟨by decide +kernel, rfl⟩
theorem dX4_gather_54 : ml_d cX4_gather 54 (.getfield 19) 3 57 := ⟨by decide +kernel, rfl⟩
theorem dX4_gather_57 : ml_d cX4_gather 57 (.iload_n 3) 1 58 := ⟨by decide +kernel, rfl⟩
theorem dX4_gather_58 : ml_d cX4_gather 58 (.dup2) 1 59 := ⟨by decide +kernel, rfl⟩
theorem dX4_gather_59 : ml_d cX4_gather 59 (.iaload) 1 60 := ⟨by decide +kernel, rfl⟩
theorem dX4_gather_60 : ml_d cX4_gather 60 (.iconst 1) 1 61 := ⟨by decide +kernel, rfl⟩
theorem dX4_gather_61 : ml_d cX4_gather 61 (.iload 4) 2 63 := ⟨by decide +kernel, rfl⟩
theorem dX4_gather_63 : ml_d cX4_gather 63 (.ishl) 1 64 := ⟨by decide +kernel, rfl⟩
theorem dX4_gather_64 : ml_d cX4_gather 64 (.ior) 1 65 := ⟨by decide +kernel, rfl⟩
theorem dX4_gather_65 : ml_d cX4_gather 65 (.iastore) 1 66 := ⟨by decide +kernel, rfl⟩
theorem dX4_gather_66 : ml_d cX4_gather 66 (.iinc 4 1) 3 69 := ⟨by decide +kernel, rfl⟩
theorem dX4_gather_69 : ml_j cX4_gather 69 .goto 25 72 := ⟨(-44), by decide +kernel, by decide, rfl⟩
theorem dX4_gather_72 : ml_d cX4_gather 72 (.iinc 3 1) 3 75 := ⟨by decide +kernel, rfl⟩
theorem dX4_gather_75 : ml_j cX4_gather 75 .goto 7 78 := ⟨(-68), by decide +kernel, by decide, rfl⟩
theorem dX4_gather_78 : ml_d cX4_gather 78 (.iconst 1) 1 79 := ⟨by decide +kernel, rfl⟩
theorem dX4_gather_79 : ml_d cX4_gather 79 (.aload_n 0) 1 80 := ⟨by decide +kernel, rfl⟩
theorem dX4_gather_80 : ml_d cX4_gather 80 (.getfield 28) 3 83 := ⟨by decide +kernel, rfl⟩
theorem dX4_gather_83 : ml_d cX4_gather 83 (.ishl) 1 84 := ⟨by decide +kernel, rfl⟩
theorem dX4_gather_84 : ml_d cX4_gather 84 (.iconst 1) 1 85 := ⟨by decide +kernel, rfl⟩
theorem dX4_gather_85 : ml_d cX4_gather 85 (.isub) 1 86 := ⟨by decide +kernel, rfl⟩
theorem dX4_gather_86 : ml_d cX4_gather 86 (.istore_n 3) 1 87 := ⟨by decide +kernel, rfl⟩
theorem dX4_gather_87 : ml_d cX4_gather 87 (.iload_n 3) 1 88 := ⟨by decide +kernel, rfl⟩
theorem dX4_gather_88 : ml_j cX4_gather 88 (.ifCond .le) 142 91 := ⟨54, by decide +kernel, by decide, rfl⟩
theorem dX4_gather_91 : ml_d cX4_gather 91 (.iconst 0) 1 92 := ⟨by decide +kernel, rfl⟩
theorem dX4_gather_92 : ml_d cX4_gather 92 (.istore 4) 2 94 := ⟨by decide +kernel, rfl⟩
theorem dX4_gather_94 : ml_d cX4_gather 94 (.iload 4) 2 96 := ⟨by decide +kernel, rfl⟩
theorem dX4_gather_96 : ml_d cX4_gather 96 (.aload_n 0) 1 97 := ⟨by decide +kernel, rfl⟩
theorem dX4_gather_97 : ml_d cX4_gather 97 (.getfield 28) 3 100 := ⟨by decide +kernel, rfl⟩
theorem dX4_gather_100 : ml_j cX4_gather 100 (.if_icmp .ge) 136 103 := ⟨36, by decide +kernel, by decide, rfl⟩
theorem dX4_gather_103 : ml_d cX4_gather 103 (.iload_n 3) 1 104 := ⟨by decide +kernel, rfl⟩
theorem dX4_gather_104 : ml_d cX4_gather 104 (.iload 4) 2 106 := ⟨by decide +kernel, rfl⟩
theorem dX4_gather_106 : ml_d cX4_gather 106 (.invokestatic 38) 3 109 := ⟨by decide +kernel, rfl⟩
theorem dX4_gather_109 : ml_j cX4_gather 109 (.ifCond .eq) 130 112 := ⟨21, by decide +kernel, by decide, rfl⟩
theorem dX4_gather_112 : ml_d cX4_gather 112 (.aload_n 0) 1 113 := ⟨by decide +kernel, rfl⟩
theorem dX4_gather_113 : ml_d cX4_gather 113 (.iload_n 3) 1 114 := ⟨by decide +kernel, rfl⟩
theorem dX4_gather_114 : ml_d cX4_gather 114 (.iload_n 3) 1 115 := ⟨by decide +kernel, rfl⟩
theorem dX4_gather_115 : ml_d cX4_gather 115 (.iload 4) 2 117 := ⟨by decide +kernel, rfl⟩
theorem dX4_gather_117 : ml_d cX4_gather 117 (.invokestatic 42) 3 120 := ⟨by decide +kernel, rfl⟩
theorem dX4_gather_120 : ml_d cX4_gather 120 (.aload_n 0) 1 121 := ⟨by decide +kernel, rfl⟩
theorem dX4_gather_121 : ml_d cX4_gather 121 (.getfield 19) 3 124 := ⟨by decide +kernel, rfl⟩
theorem dX4_gather_124 : ml_d cX4_gather 124 (.iload 4) 2 126 := ⟨by decide +kernel, rfl⟩
theorem dX4_gather_126 : ml_d cX4_gather 126 (.iaload) 1 127 := ⟨by decide +kernel, rfl⟩
theorem dX4_gather_127 : ml_d cX4_gather 127 (.invokevirtual 46) 3 130 := ⟨by decide +kernel, rfl⟩
theorem dX4_gather_130 : ml_d cX4_gather 130 (.iinc 4 1) 3 133 := ⟨by decide +kernel, rfl⟩
theorem dX4_gather_133 : ml_j cX4_gather 133 .goto 94 136 := ⟨(-39), by decide +kernel, by decide, rfl⟩
theorem dX4_gather_136 : ml_d cX4_gather 136 (.iinc 3 (-1)) 3 139 := ⟨by decide +kernel, rfl⟩
theorem dX4_gather_139 : ml_j cX4_gather 139 .goto 87 142 := ⟨(-52), by decide +kernel, by decide, rfl⟩
theorem dX4_gather_142 : ml_d cX4_gather 142 (.aload_n 0) 1 143 := ⟨by decide +kernel, rfl⟩
theorem dX4_gather_143 : ml_d cX4_gather 143 (.iconst 0) 1 144 := ⟨by decide +kernel, rfl⟩
theorem dX4_gather_144 : ml_d cX4_gather 144 (.iconst 0) 1 145 := ⟨by decide +kernel, rfl⟩
theorem dX4_gather_145 : ml_d cX4_gather 145 (.iconst 0) 1 146 := ⟨by decide +kernel, rfl⟩
theorem dX4_gather_146 : ml_d cX4_gather 146 (.invokestatic 42) 3 149 := ⟨by decide +kernel, rfl⟩
theorem dX4_gather_149 : ml_d cX4_gather 149 (.iconst 0) 1 150 := ⟨by decide +kernel, rfl⟩
theorem dX4_gather_150 : ml_d cX4_gather 150 (.invokevirtual 46) 3 153 := ⟨by decide +kernel, rfl⟩
theorem dX4_gather_153 : ml_d cX4_gather 153 (.aload_n 0) 1 154 := ⟨by decide +kernel, rfl⟩
theorem dX4_gather_154 : ml_d cX4_gather 154 (.aload_n 0) 1 155 := ⟨by decide +kernel, rfl⟩
theorem dX4_gather_155 : ml_d cX4_gather 155 (.getfield 22) 3 158 := ⟨by decide +kernel, rfl⟩
theorem dX4_gather_158 : ml_d cX4_gather 158 (.iconst 0) 1 159 := ⟨by decide +kernel, rfl⟩
theorem dX4_gather_159 : ml_d cX4_gather 159 (.iconst 0) 1 160 := ⟨by decide +kernel, rfl⟩
theorem dX4_gather_160 : ml_d cX4_gather 160 (.invokestatic 42) 3 163 := ⟨by decide +kernel, rfl⟩
theorem dX4_gather_163 : ml_d cX4_gather 163 (.iaload) 1 164 := ⟨by decide +kernel, rfl⟩
theorem dX4_gather_164 : ml_d cX4_gather 164 (.putfield 50) 3 167 := ⟨by decide +kernel, rfl⟩
theorem dX4_gather_167 : ml_d cX4_gather 167 (.aload_n 0) 1 168 := ⟨by decide +kernel, rfl⟩
theorem dX4_gather_168 : ml_d cX4_gather 168 (.aload_n 0) 1 169 := ⟨by decide +kernel, rfl⟩
theorem dX4_gather_169 : ml_d cX4_gather 169 (.getfield 25) 3 172 := ⟨by decide +kernel, rfl⟩
theorem dX4_gather_172 : ml_d cX4_gather 172 (.iconst 0) 1 173 := ⟨by decide +kernel, rfl⟩
theorem dX4_gather_173 : ml_d cX4_gather 173 (.iconst 0) 1 174 := ⟨by decide +kernel, rfl⟩
theorem dX4_gather_174 : ml_d cX4_gather 174 (.invokestatic 42) 3 177 := ⟨by decide +kernel, rfl⟩
theorem dX4_gather_177 : ml_d cX4_gather 177 (.iaload) 1 178 := ⟨by decide +kernel, rfl⟩
theorem dX4_gather_178 : ml_d cX4_gather 178 (.putfield 53) 3 181 := ⟨by decide +kernel, rfl⟩
theorem dX4_gather_181 : ml_d cX4_gather 181 (.aload_n 0) 1 182 := ⟨by decide +kernel, rfl⟩
theorem dX4_gather_182 : ml_d cX4_gather 182 (.invokevirtual 56) 3 185 := ⟨by decide +kernel, rfl⟩
theorem dX4_gather_185 : ml_d cX4_gather 185 (.aload_n 0) 1 186 := ⟨by decide +kernel, rfl⟩
theorem dX4_gather_186 : ml_d cX4_gather 186 (.iconst 0) 1 187 := ⟨by decide +kernel, rfl⟩
theorem dX4_gather_187 : ml_d cX4_gather 187 (.putfield 9) 3 190 := ⟨by decide +kernel, rfl⟩
theorem dX4_gather_190 : ml_d cX4_gather 190 (.return_) 1 191 := ⟨by decide +kernel, rfl⟩
def fX4_gather_66 (k7 : Nat → Nat → Int32 → ml_M → Option ml_M) (k25 : Nat → Nat → Int32 → Int32 → ml_M → Option ml_M) (l0 : Nat) (l1 : Nat) (l3 : Int32) (l4 : Int32) (m : ml_M) : Option ml_M :=
    k25 l0 l1 l3 (l4 + (1 : Int32)) m
theorem vX4_gather_66 {E : ml_E} (hL : ml_eL E = 5) {rm : ml_M} (hr : ∀ (pc pc' : Nat) (lv : List (Nat × ml_X)), ml_d cX4_gather pc .return_ 1 pc' → True → ml_V E "LostRoom$Lays" cX4_gather 5 false rm pc lv []) {k7 : Nat → Nat → Int32 → ml_M → Option ml_M} (hk7 : ∀ (l0 : Nat) (l1 : Nat) (l3 : Int32) (m : ml_M), k7 l0 l1 l3 m = some rm → ml_V E "LostRoom$Lays" cX4_gather 5 false m 7 [(0, ml_r l0), (1, ml_r l1), (3, ml_i l3)] []) {k25 : Nat → Nat → Int32 → Int32 → ml_M → Option ml_M} (hk25 : ∀ (l0 : Nat) (l1 : Nat) (l3 : Int32) (l4 : Int32) (m : ml_M), k25 l0 l1 l3 l4 m = some rm → ml_V E "LostRoom$Lays" cX4_gather 5 false m 25 [(0, ml_r l0), (1, ml_r l1), (3, ml_i l3), (4, ml_i l4)] []) : ∀ (l0 : Nat) (l1 : Nat) (l3 : Int32) (l4 : Int32) (m : ml_M), fX4_gather_66 k7 k25 l0 l1 l3 l4 m = some rm → ml_V E "LostRoom$Lays" cX4_gather 5 false m 66 [(0, ml_r l0), (1, ml_r l1), (3, ml_i l3), (4, ml_i l4)] [] := by
  intro l0 l1 l3 l4 m h
  unfold fX4_gather_66 at h
  exact ml_iinc (lv' := [(4, ml_i (l4 + (1 : Int32))), (0, ml_r l0), (1, ml_r l1), (3, ml_i l3)]) dX4_gather_66 3 rfl (congrArg (l4 + ·) kc_i1) (ml_hn hL rfl) rfl <| ml_goto dX4_gather_69 <| ml_V.sub [1, 2, 3, 0] rfl (hk25 _ _ _ _ _ h)
def fX4_gather_72 (k7 : Nat → Nat → Int32 → ml_M → Option ml_M) (l0 : Nat) (l1 : Nat) (l3 : Int32) (m : ml_M) : Option ml_M :=
    k7 l0 l1 (l3 + (1 : Int32)) m
theorem vX4_gather_72 {E : ml_E} (hL : ml_eL E = 5) {rm : ml_M} (hr : ∀ (pc pc' : Nat) (lv : List (Nat × ml_X)), ml_d cX4_gather pc .return_ 1 pc' → True → ml_V E "LostRoom$Lays" cX4_gather 5 false rm pc lv []) {k7 : Nat → Nat → Int32 → ml_M → Option ml_M} (hk7 : ∀ (l0 : Nat) (l1 : Nat) (l3 : Int32) (m : ml_M), k7 l0 l1 l3 m = some rm → ml_V E "LostRoom$Lays" cX4_gather 5 false m 7 [(0, ml_r l0), (1, ml_r l1), (3, ml_i l3)] []) : ∀ (l0 : Nat) (l1 : Nat) (l3 : Int32) (m : ml_M), fX4_gather_72 k7 l0 l1 l3 m = some rm → ml_V E "LostRoom$Lays" cX4_gather 5 false m 72 [(0, ml_r l0), (1, ml_r l1), (3, ml_i l3)] [] := by
  intro l0 l1 l3 m h
  unfold fX4_gather_72 at h
  exact ml_iinc (lv' := [(3, ml_i (l3 + (1 : Int32))), (0, ml_r l0), (1, ml_r l1)]) dX4_gather_72 2 rfl (congrArg (l3 + ·) kc_i1) (ml_hn hL rfl) rfl <| ml_goto dX4_gather_75 <| ml_V.sub [1, 2, 0] rfl (hk7 _ _ _ _ h)
def fX4_gather_25 (k7 : Nat → Nat → Int32 → ml_M → Option ml_M) : Nat → Nat → Nat → Int32 → Int32 → ml_M → Option ml_M
  | 0, _, _, _, _, _ => none
  | fu + 1, l0, l1, l3, l4, m =>
    if (ml_K m l0).1 = 4 then
    if (ml_I m l0 4) ≤ l4 then
    fX4_gather_72 k7 l0 l1 l3 m
    else
    if l3 = l4 then
    fX4_gather_66 k7 (fX4_gather_25 k7 fu) l0 l1 l3 l4 m
    else
    if ml_in m l1 25 l3 then
    ml_let (ml_R m l1 l3.toNatClampNeg) fun a1762 =>
    if ml_in m l1 25 l4 then
    ml_let (ml_R m l1 l4.toNatClampNeg) fun a1764 =>
    if (ml_K m a1762).1 = 0 then
    ml_b1 (fX0_meets a1762 a1764 m) fun r1767 =>
    if r1767 = 0 then
    fX4_gather_66 k7 (fX4_gather_25 k7 fu) l0 l1 l3 l4 m
    else
    ml_let (ml_R m l0 5) fun a1768 =>
    if ml_in m a1768 20 l3 then
    if ml_in m a1768 20 l3 then
    ml_let (ml_sI m a1768 l3.toNatClampNeg ((ml_I m a1768 l3.toNatClampNeg) ||| ((1 : Int32) <<< (l4 &&& 31)))) fun m1771 =>
    fX4_gather_66 k7 (fX4_gather_25 k7 fu) l0 l1 l3 l4 m1771
    else none
    else none
    else none
    else none
    else none
    else none
theorem vX4_gather_25 {E : ml_E} (hL : ml_eL E = 5) {rm : ml_M} (hr : ∀ (pc pc' : Nat) (lv : List (Nat × ml_X)), ml_d cX4_gather pc .return_ 1 pc' → True → ml_V E "LostRoom$Lays" cX4_gather 5 false rm pc lv []) {k7 : Nat → Nat → Int32 → ml_M → Option ml_M} (hk7 : ∀ (l0 : Nat) (l1 : Nat) (l3 : Int32) (m : ml_M), k7 l0 l1 l3 m = some rm → ml_V E "LostRoom$Lays" cX4_gather 5 false m 7 [(0, ml_r l0), (1, ml_r l1), (3, ml_i l3)] []) : ∀ (fu : Nat) (l0 : Nat) (l1 : Nat) (l3 : Int32) (l4 : Int32) (m : ml_M), fX4_gather_25 k7 fu l0 l1 l3 l4 m = some rm → ml_V E "LostRoom$Lays" cX4_gather 5 false m 25 [(0, ml_r l0), (1, ml_r l1), (3, ml_i l3), (4, ml_i l4)] [] := by
  intro fu
  induction fu with
  | zero => intro l0 l1 l3 l4 m h; exact ml_none h
  | succ fu ih =>
    intro l0 l1 l3 l4 m h
    have hk25 := ih
    unfold fX4_gather_25 at h
    exact ml_iload dX4_gather_25 3 rfl <| ml_aload_n dX4_gather_27 0 rfl <| ml_ck_of h fun hc1760 h => ml_getI dX4_gather_28 wb_283 hc1760 <| ml_icmp_ge dX4_gather_31 h (fun _ h => ml_V.sub [0, 1, 2] rfl (vX4_gather_72 hL hr hk7 _ _ _ _ h)) (fun _ h => ml_iload_n dX4_gather_34 2 rfl <| ml_iload dX4_gather_35 3 rfl <| ml_icmp_eq dX4_gather_37 h (fun _ h => ml_V.sub [0, 1, 2, 3] rfl (vX4_gather_66 hL hr hk7 hk25 _ _ _ _ _ h)) (fun _ h => ml_aload_n dX4_gather_40 1 rfl <| ml_iload_n dX4_gather_41 2 rfl <| ml_ck_of h fun hi1761 h => ml_aald (kd := 25) dX4_gather_42 (by decide) hi1761 <| ml_lx (mk := ml_r) h fun a1762 h => ml_aload_n dX4_gather_43 1 rfl <| ml_iload dX4_gather_44 3 rfl <| ml_ck_of h fun hi1763 h => ml_aald (kd := 25) dX4_gather_46 (by decide) hi1763 <| ml_lx (mk := ml_r) h fun a1764 h => ml_ck_of h fun hc1766 h => ml_b1_of h fun r1767 hv1765 h => ml_callV dX4_gather_47 wm_465 wb_288 hc1766 (sX0_meets hv1765) rfl (Nat.le_of_ble_eq_true rfl) (Nat.le_of_ble_eq_true rfl) rfl <| ml_if_eq dX4_gather_50 h (fun _ h => ml_V.sub [0, 1, 2, 3] rfl (vX4_gather_66 hL hr hk7 hk25 _ _ _ _ _ h)) (fun _ h => ml_aload_n dX4_gather_53 0 rfl <| ml_getR dX4_gather_54 wb_287 hc1760 <| ml_lx (mk := ml_r) h fun a1768 h => ml_iload_n dX4_gather_57 2 rfl <| ml_dup2 dX4_gather_58 rfl rfl <| ml_ck_of h fun hi1769 h => ml_iald dX4_gather_59 hi1769 <| ml_iconst dX4_gather_60 kc_i1 <| ml_iload dX4_gather_61 3 rfl <| ml_ishl dX4_gather_63 <| ml_ior dX4_gather_64 <| ml_ck_of h fun hi1770 h => ml_iast dX4_gather_65 hi1770 <| ml_lt (m := m) rfl h fun m1771 em1772 h => ml_V.sub [0, 1, 2, 3] rfl (vX4_gather_66 hL hr hk7 hk25 _ _ _ _ _ h))))
def fX4_gather_130 (k87 : Nat → Int32 → ml_M → Option ml_M) (k94 : Nat → Int32 → Int32 → ml_M → Option ml_M) (l0 : Nat) (l3 : Int32) (l4 : Int32) (m : ml_M) : Option ml_M :=
    k94 l0 l3 (l4 + (1 : Int32)) m
theorem vX4_gather_130 {E : ml_E} (hL : ml_eL E = 5) {rm : ml_M} (hr : ∀ (pc pc' : Nat) (lv : List (Nat × ml_X)), ml_d cX4_gather pc .return_ 1 pc' → True → ml_V E "LostRoom$Lays" cX4_gather 5 false rm pc lv []) {k87 : Nat → Int32 → ml_M → Option ml_M} (hk87 : ∀ (l0 : Nat) (l3 : Int32) (m : ml_M), k87 l0 l3 m = some rm → ml_V E "LostRoom$Lays" cX4_gather 5 false m 87 [(0, ml_r l0), (3, ml_i l3)] []) {k94 : Nat → Int32 → Int32 → ml_M → Option ml_M} (hk94 : ∀ (l0 : Nat) (l3 : Int32) (l4 : Int32) (m : ml_M), k94 l0 l3 l4 m = some rm → ml_V E "LostRoom$Lays" cX4_gather 5 false m 94 [(0, ml_r l0), (3, ml_i l3), (4, ml_i l4)] []) : ∀ (l0 : Nat) (l3 : Int32) (l4 : Int32) (m : ml_M), fX4_gather_130 k87 k94 l0 l3 l4 m = some rm → ml_V E "LostRoom$Lays" cX4_gather 5 false m 130 [(0, ml_r l0), (3, ml_i l3), (4, ml_i l4)] [] := by
  intro l0 l3 l4 m h
  unfold fX4_gather_130 at h
  exact ml_iinc (lv' := [(4, ml_i (l4 + (1 : Int32))), (0, ml_r l0), (3, ml_i l3)]) dX4_gather_130 2 rfl (congrArg (l4 + ·) kc_i1) (ml_hn hL rfl) rfl <| ml_goto dX4_gather_133 <| ml_V.sub [1, 2, 0] rfl (hk94 _ _ _ _ h)
def fX4_gather_136 (k87 : Nat → Int32 → ml_M → Option ml_M) (l0 : Nat) (l3 : Int32) (m : ml_M) : Option ml_M :=
    k87 l0 (l3 + (-1 : Int32)) m
theorem vX4_gather_136 {E : ml_E} (hL : ml_eL E = 5) {rm : ml_M} (hr : ∀ (pc pc' : Nat) (lv : List (Nat × ml_X)), ml_d cX4_gather pc .return_ 1 pc' → True → ml_V E "LostRoom$Lays" cX4_gather 5 false rm pc lv []) {k87 : Nat → Int32 → ml_M → Option ml_M} (hk87 : ∀ (l0 : Nat) (l3 : Int32) (m : ml_M), k87 l0 l3 m = some rm → ml_V E "LostRoom$Lays" cX4_gather 5 false m 87 [(0, ml_r l0), (3, ml_i l3)] []) : ∀ (l0 : Nat) (l3 : Int32) (m : ml_M), fX4_gather_136 k87 l0 l3 m = some rm → ml_V E "LostRoom$Lays" cX4_gather 5 false m 136 [(0, ml_r l0), (3, ml_i l3)] [] := by
  intro l0 l3 m h
  unfold fX4_gather_136 at h
  exact ml_iinc (lv' := [(3, ml_i (l3 + (-1 : Int32))), (0, ml_r l0)]) dX4_gather_136 1 rfl (congrArg (l3 + ·) kc_im1) (ml_hn hL rfl) rfl <| ml_goto dX4_gather_139 <| ml_V.sub [1, 0] rfl (hk87 _ _ _ h)
def fX4_gather_94 (k87 : Nat → Int32 → ml_M → Option ml_M) : Nat → Nat → Int32 → Int32 → ml_M → Option ml_M
  | 0, _, _, _, _ => none
  | fu + 1, l0, l3, l4, m =>
    if (ml_K m l0).1 = 4 then
    if (ml_I m l0 4) ≤ l4 then
    fX4_gather_136 k87 l0 l3 m
    else
    ml_b1 (fX10_has l3 l4 m) fun r1775 =>
    if r1775 = 0 then
    fX4_gather_130 k87 (fX4_gather_94 k87 fu) l0 l3 l4 m
    else
    ml_b1 (fX4_slot l3 l4 m) fun r1777 =>
    ml_let (ml_R m l0 5) fun a1778 =>
    if ml_in m a1778 20 l4 then
    ml_b1 (fX4_follow l0 l3 r1777 (ml_I m a1778 l4.toNatClampNeg) m) fun m1781 =>
    fX4_gather_130 k87 (fX4_gather_94 k87 fu) l0 l3 l4 m1781
    else none
    else none
theorem vX4_gather_94 {E : ml_E} (hL : ml_eL E = 5) {rm : ml_M} (hr : ∀ (pc pc' : Nat) (lv : List (Nat × ml_X)), ml_d cX4_gather pc .return_ 1 pc' → True → ml_V E "LostRoom$Lays" cX4_gather 5 false rm pc lv []) {k87 : Nat → Int32 → ml_M → Option ml_M} (hk87 : ∀ (l0 : Nat) (l3 : Int32) (m : ml_M), k87 l0 l3 m = some rm → ml_V E "LostRoom$Lays" cX4_gather 5 false m 87 [(0, ml_r l0), (3, ml_i l3)] []) : ∀ (fu : Nat) (l0 : Nat) (l3 : Int32) (l4 : Int32) (m : ml_M), fX4_gather_94 k87 fu l0 l3 l4 m = some rm → ml_V E "LostRoom$Lays" cX4_gather 5 false m 94 [(0, ml_r l0), (3, ml_i l3), (4, ml_i l4)] [] := by
  intro fu
  induction fu with
  | zero => intro l0 l3 l4 m h; exact ml_none h
  | succ fu ih =>
    intro l0 l3 l4 m h
    have hk94 := ih
    unfold fX4_gather_94 at h
    exact ml_iload dX4_gather_94 2 rfl <| ml_aload_n dX4_gather_96 0 rfl <| ml_ck_of h fun hc1773 h => ml_getI dX4_gather_97 wb_283 hc1773 <| ml_icmp_ge dX4_gather_100 h (fun _ h => ml_V.sub [0, 1] rfl (vX4_gather_136 hL hr hk87 _ _ _ h)) (fun _ h => ml_iload_n dX4_gather_103 1 rfl <| ml_iload dX4_gather_104 2 rfl <| ml_b1_of h fun r1775 hv1774 h => ml_callSN (host := "LostRoom") dX4_gather_106 (by decide) wb_190 (sX10_has hv1774) rfl (Nat.le_of_ble_eq_true rfl) (Nat.le_of_ble_eq_true rfl) rfl <| ml_if_eq dX4_gather_109 h (fun _ h => ml_V.sub [0, 1, 2] rfl (vX4_gather_130 hL hr hk87 hk94 _ _ _ _ h)) (fun _ h => ml_aload_n dX4_gather_112 0 rfl <| ml_iload_n dX4_gather_113 1 rfl <| ml_iload_n dX4_gather_114 1 rfl <| ml_iload dX4_gather_115 2 rfl <| ml_b1_of h fun r1777 hv1776 h => ml_callS dX4_gather_117 wm_457 wb_284 (sX4_slot hv1776) rfl (Nat.le_of_ble_eq_true rfl) (Nat.le_of_ble_eq_true rfl) rfl <| ml_aload_n dX4_gather_120 0 rfl <| ml_getR dX4_gather_121 wb_287 hc1773 <| ml_lx (mk := ml_r) h fun a1778 h => ml_iload dX4_gather_124 2 rfl <| ml_ck_of h fun hi1779 h => ml_iald dX4_gather_126 hi1779 <| ml_b1_of h fun m1781 hv1780 h => ml_callV dX4_gather_127 wm_469 wb_289 hc1773 (sX4_follow hv1780) rfl (Nat.le_of_ble_eq_true rfl) (Nat.le_of_ble_eq_true rfl) rfl <| ml_V.sub [0, 1, 2] rfl (vX4_gather_130 hL hr hk87 hk94 _ _ _ _ h)))
def fX4_gather_142 (l0 : Nat) (m : ml_M) : Option ml_M :=
    ml_b1 (fX4_slot (0 : Int32) (0 : Int32) m) fun r1783 =>
    if (ml_K m l0).1 = 4 then
    ml_b1 (fX4_follow l0 (0 : Int32) r1783 (0 : Int32) m) fun m1786 =>
    if (ml_K m1786 l0).1 = 4 then
    ml_let (ml_R m1786 l0 6) fun a1788 =>
    ml_b1 (fX4_slot (0 : Int32) (0 : Int32) m1786) fun r1790 =>
    if ml_in m1786 a1788 20 r1790 then
    ml_let (ml_sI m1786 l0 1 (ml_I m1786 a1788 r1790.toNatClampNeg)) fun m1792 =>
    ml_let (ml_R m1792 l0 7) fun a1794 =>
    ml_b1 (fX4_slot (0 : Int32) (0 : Int32) m1792) fun r1796 =>
    if ml_in m1792 a1794 20 r1796 then
    ml_let (ml_sI m1792 l0 2 (ml_I m1792 a1794 r1796.toNatClampNeg)) fun m1798 =>
    ml_b1 (fX4_findFirst l0 m1798) fun m1801 =>
    if (ml_K m1801 l0).1 = 4 then
    ml_let (ml_sI m1801 l0 0 (0 : Int32)) fun m1803 =>
    some m1803
    else none
    else none
    else none
    else none
    else none
theorem vX4_gather_142 {E : ml_E} (hL : ml_eL E = 5) {rm : ml_M} (hr : ∀ (pc pc' : Nat) (lv : List (Nat × ml_X)), ml_d cX4_gather pc .return_ 1 pc' → True → ml_V E "LostRoom$Lays" cX4_gather 5 false rm pc lv []) : ∀ (l0 : Nat) (m : ml_M), fX4_gather_142 l0 m = some rm → ml_V E "LostRoom$Lays" cX4_gather 5 false m 142 [(0, ml_r l0)] [] := by
  intro l0 m h
  unfold fX4_gather_142 at h
  exact ml_aload_n dX4_gather_142 0 rfl <| ml_iconst dX4_gather_143 kc_i0 <| ml_iconst dX4_gather_144 kc_i0 <| ml_iconst dX4_gather_145 kc_i0 <| ml_b1_of h fun r1783 hv1782 h => ml_callS dX4_gather_146 wm_457 wb_284 (sX4_slot hv1782) rfl (Nat.le_of_ble_eq_true rfl) (Nat.le_of_ble_eq_true rfl) rfl <| ml_iconst dX4_gather_149 kc_i0 <| ml_ck_of h fun hc1785 h => ml_b1_of h fun m1786 hv1784 h => ml_callV dX4_gather_150 wm_469 wb_289 hc1785 (sX4_follow hv1784) rfl (Nat.le_of_ble_eq_true rfl) (Nat.le_of_ble_eq_true rfl) rfl <| ml_aload_n dX4_gather_153 0 rfl <| ml_aload_n dX4_gather_154 0 rfl <| ml_ck_of h fun hc1787 h => ml_getR dX4_gather_155 wb_281 hc1787 <| ml_lx (mk := ml_r) h fun a1788 h => ml_iconst dX4_gather_158 kc_i0 <| ml_iconst dX4_gather_159 kc_i0 <| ml_b1_of h fun r1790 hv1789 h => ml_callS dX4_gather_160 wm_457 wb_284 (sX4_slot hv1789) rfl (Nat.le_of_ble_eq_true rfl) (Nat.le_of_ble_eq_true rfl) rfl <| ml_ck_of h fun hi1791 h => ml_iald dX4_gather_163 hi1791 <| ml_putI dX4_gather_164 wb_290 hc1787 <| ml_lt (m := m1786) rfl h fun m1792 em1793 h => ml_aload_n dX4_gather_167 0 rfl <| ml_aload_n dX4_gather_168 0 rfl <| ml_getR dX4_gather_169 wb_282 (ml_kk em1793 hc1787) <| ml_lx (mk := ml_r) h fun a1794 h => ml_iconst dX4_gather_172 kc_i0 <| ml_iconst dX4_gather_173 kc_i0 <| ml_b1_of h fun r1796 hv1795 h => ml_callS dX4_gather_174 wm_457 wb_284 (sX4_slot hv1795) rfl (Nat.le_of_ble_eq_true rfl) (Nat.le_of_ble_eq_true rfl) rfl <| ml_ck_of h fun hi1797 h => ml_iald dX4_gather_177 hi1797 <| ml_putI dX4_gather_178 wb_291 (ml_kk em1793 hc1787) <| ml_lt (m := m1792) rfl h fun m1798 em1799 h => ml_aload_n dX4_gather_181 0 rfl <| ml_b1_of h fun m1801 hv1800 h => ml_callV dX4_gather_182 wm_475 wb_292 (ml_kk em1799 (ml_kk em1793 hc1787)) (sX4_findFirst hv1800) rfl (Nat.le_of_ble_eq_true rfl) (Nat.le_of_ble_eq_true rfl) rfl <| ml_aload_n dX4_gather_185 0 rfl <| ml_iconst dX4_gather_186 kc_i0 <| ml_ck_of h fun hc1802 h => ml_putZ dX4_gather_187 wb_293 hc1802 (Or.inl rfl) <| ml_lt (m := m1801) rfl h fun m1803 em1804 h => ml_rv hr dX4_gather_190 trivial h
def fX4_gather_87 : Nat → Nat → Int32 → ml_M → Option ml_M
  | 0, _, _, _ => none
  | fu + 1, l0, l3, m =>
    if l3 ≤ 0 then
    fX4_gather_142 l0 m
    else
    fX4_gather_94 (fX4_gather_87 fu) ml_fu l0 l3 (0 : Int32) m
theorem vX4_gather_87 {E : ml_E} (hL : ml_eL E = 5) {rm : ml_M} (hr : ∀ (pc pc' : Nat) (lv : List (Nat × ml_X)), ml_d cX4_gather pc .return_ 1 pc' → True → ml_V E "LostRoom$Lays" cX4_gather 5 false rm pc lv []) : ∀ (fu : Nat) (l0 : Nat) (l3 : Int32) (m : ml_M), fX4_gather_87 fu l0 l3 m = some rm → ml_V E "LostRoom$Lays" cX4_gather 5 false m 87 [(0, ml_r l0), (3, ml_i l3)] [] := by
  intro fu
  induction fu with
  | zero => intro l0 l3 m h; exact ml_none h
  | succ fu ih =>
    intro l0 l3 m h
    have hk87 := ih
    unfold fX4_gather_87 at h
    exact ml_iload_n dX4_gather_87 1 rfl <| ml_if_le dX4_gather_88 h (fun _ h => ml_V.sub [0] rfl (vX4_gather_142 hL hr  _ _ h)) (fun _ h => ml_iconst dX4_gather_91 kc_i0 <| ml_istore (lv' := [(4, ml_i (0 : Int32)), (0, ml_r l0), (3, ml_i l3)]) dX4_gather_92 (ml_hn hL rfl) rfl <| ml_V.sub [1, 2, 0] rfl (vX4_gather_94 hL hr hk87 ml_fu _ _ _ _ h))
def fX4_gather_78 (l0 : Nat) (m : ml_M) : Option ml_M :=
    if (ml_K m l0).1 = 4 then
    ml_let (((1 : Int32) <<< ((ml_I m l0 4) &&& 31)) - (1 : Int32)) fun x1806 =>
    fX4_gather_87 ml_fu l0 x1806 m
    else none
theorem vX4_gather_78 {E : ml_E} (hL : ml_eL E = 5) {rm : ml_M} (hr : ∀ (pc pc' : Nat) (lv : List (Nat × ml_X)), ml_d cX4_gather pc .return_ 1 pc' → True → ml_V E "LostRoom$Lays" cX4_gather 5 false rm pc lv []) : ∀ (l0 : Nat) (m : ml_M), fX4_gather_78 l0 m = some rm → ml_V E "LostRoom$Lays" cX4_gather 5 false m 78 [(0, ml_r l0)] [] := by
  intro l0 m h
  unfold fX4_gather_78 at h
  exact ml_iconst dX4_gather_78 kc_i1 <| ml_aload_n dX4_gather_79 0 rfl <| ml_ck_of h fun hc1805 h => ml_getI dX4_gather_80 wb_283 hc1805 <| ml_ishl dX4_gather_83 <| ml_iconst dX4_gather_84 kc_i1 <| ml_isub dX4_gather_85 <| ml_lx (mk := ml_i) h fun x1806 h => ml_istore_n (lv' := [(3, ml_i x1806), (0, ml_r l0)]) dX4_gather_86 (ml_hn hL rfl) rfl <| ml_V.sub [1, 0] rfl (vX4_gather_87 hL hr  ml_fu _ _ _ h)
def fX4_gather_7 : Nat → Nat → Nat → Int32 → ml_M → Option ml_M
  | 0, _, _, _, _ => none
  | fu + 1, l0, l1, l3, m =>
    if (ml_K m l0).1 = 4 then
    if (ml_I m l0 4) ≤ l3 then
    fX4_gather_78 l0 m
    else
    ml_let (ml_R m l0 5) fun a1808 =>
    if ml_in m a1808 20 l3 then
    ml_let (ml_sI m a1808 l3.toNatClampNeg (0 : Int32)) fun m1810 =>
    fX4_gather_25 (fX4_gather_7 fu) ml_fu l0 l1 l3 (0 : Int32) m1810
    else none
    else none
theorem vX4_gather_7 {E : ml_E} (hL : ml_eL E = 5) {rm : ml_M} (hr : ∀ (pc pc' : Nat) (lv : List (Nat × ml_X)), ml_d cX4_gather pc .return_ 1 pc' → True → ml_V E "LostRoom$Lays" cX4_gather 5 false rm pc lv []) : ∀ (fu : Nat) (l0 : Nat) (l1 : Nat) (l3 : Int32) (m : ml_M), fX4_gather_7 fu l0 l1 l3 m = some rm → ml_V E "LostRoom$Lays" cX4_gather 5 false m 7 [(0, ml_r l0), (1, ml_r l1), (3, ml_i l3)] [] := by
  intro fu
  induction fu with
  | zero => intro l0 l1 l3 m h; exact ml_none h
  | succ fu ih =>
    intro l0 l1 l3 m h
    have hk7 := ih
    unfold fX4_gather_7 at h
    exact ml_iload_n dX4_gather_7 2 rfl <| ml_aload_n dX4_gather_8 0 rfl <| ml_ck_of h fun hc1807 h => ml_getI dX4_gather_9 wb_283 hc1807 <| ml_icmp_ge dX4_gather_12 h (fun _ h => ml_V.sub [0] rfl (vX4_gather_78 hL hr  _ _ h)) (fun _ h => ml_aload_n dX4_gather_15 0 rfl <| ml_getR dX4_gather_16 wb_287 hc1807 <| ml_lx (mk := ml_r) h fun a1808 h => ml_iload_n dX4_gather_19 2 rfl <| ml_iconst dX4_gather_20 kc_i0 <| ml_ck_of h fun hi1809 h => ml_iast dX4_gather_21 hi1809 <| ml_lt (m := m) rfl h fun m1810 em1811 h => ml_iconst dX4_gather_22 kc_i0 <| ml_istore (lv' := [(4, ml_i (0 : Int32)), (0, ml_r l0), (1, ml_r l1), (3, ml_i l3)]) dX4_gather_23 (ml_hn hL rfl) rfl <| ml_V.sub [1, 2, 3, 0] rfl (vX4_gather_25 hL hr hk7 ml_fu _ _ _ _ _ h))
def fX4_gather (l0 : Nat) (l1 : Nat) (l2 : Int32) (m : ml_M) : Option ml_M :=
    if (ml_K m l0).1 = 4 then
    ml_let (ml_sI m l0 4 l2) fun m1813 =>
    fX4_gather_7 ml_fu l0 l1 (0 : Int32) m1813
    else none
theorem wX4_gather_0 {E : ml_E} (hL : ml_eL E = 5) {rm : ml_M} (hr : ∀ (pc pc' : Nat) (lv : List (Nat × ml_X)), ml_d cX4_gather pc .return_ 1 pc' → True → ml_V E "LostRoom$Lays" cX4_gather 5 false rm pc lv []) : ∀ (l0 : Nat) (l1 : Nat) (l2 : Int32) (m : ml_M), fX4_gather l0 l1 l2 m = some rm → ml_V E "LostRoom$Lays" cX4_gather 5 false m 0 [(0, ml_r l0), (1, ml_r l1), (2, ml_i l2)] [] := by
  intro l0 l1 l2 m h
  unfold fX4_gather at h
  exact ml_aload_n dX4_gather_0 0 rfl <| ml_iload_n dX4_gather_1 2 rfl <| ml_ck_of h fun hc1812 h => ml_putI dX4_gather_2 wb_294 hc1812 <| ml_lt (m := m) rfl h fun m1813 em1814 h => ml_iconst dX4_gather_5 kc_i0 <| ml_istore_n (lv' := [(3, ml_i (0 : Int32)), (0, ml_r l0), (1, ml_r l1), (2, ml_i l2)]) dX4_gather_6 (ml_hn hL rfl) rfl <| ml_V.sub [1, 2, 0] rfl (vX4_gather_7 hL hr  ml_fu _ _ _ _ h)
theorem sX4_gather {l0 : Nat} {l1 : Nat} {l2 : Int32} {m : ml_M} {rm : ml_M} (h : fX4_gather l0 l1 l2 m = some rm) : ml_Sn yX4_gather cX4_gather 5 none 5 [ml_r l0, ml_r l1, ml_i l2] m none rm :=
  ml_Sn_of (P := True) (ini := false) (by decide +kernel) (Nat.le_of_ble_eq_true rfl) (fun h => by cases h) (fun _ => ml_RkV) fun E hL hr => wX4_gather_0 hL hr _ _ _ _ h
theorem dX10_refreshLays_0 : ml_d cX10_refreshLays 0 (.aload_n 0) 1 1 := ⟨by decide +kernel, rfl⟩
theorem dX10_refreshLays_1 : ml_d cX10_refreshLays 1 (.getfield 68) 3 4 := ⟨by decide +kernel, rfl⟩
theorem dX10_refreshLays_4 : ml_d cX10_refreshLays 4 (.getfield 134) 3 7 := ⟨by decide +kernel, rfl⟩
theorem dX10_refreshLays_7 : ml_j cX10_refreshLays 7 (.ifCond .eq) 25 10 := ⟨18, by decide +kernel, by decide, rfl⟩
theorem dX10_refreshLays_10 : ml_d cX10_refreshLays 10 (.aload_n 0) 1 11 := ⟨by decide +kernel, rfl⟩
theorem dX10_refreshLays_11 : ml_d cX10_refreshLays 11 (.getfield 68) 3 14 := ⟨by decide +kernel, rfl⟩
theorem dX10_refreshLays_14 : ml_d cX10_refreshLays 14 (.aload_n 0) 1 15 := ⟨by decide +kernel, rfl⟩
theorem dX10_refreshLays_15 : ml_d cX10_refreshLays 15 (.getfield 48) 3 18 := ⟨by decide +kernel, rfl⟩
theorem dX10_refreshLays_18 : ml_d cX10_refreshLays 18 (.aload_n 0) 1 19 := ⟨by decide +kernel, rfl⟩
theorem dX10_refreshLays_19 : ml_d cX10_refreshLays 19 (.getfield 124) 3 22 := ⟨by decide +kernel, rfl⟩
theorem dX10_refreshLays_22 : ml_d cX10_refreshLays 22 (.invokevirtual 417) 3 25 := ⟨by decide +kernel, rfl⟩
theorem dX10_refreshLays_25 : ml_d cX10_refreshLays 25 (.return_) 1 26 := ⟨by decide +kernel, rfl⟩
def fX10_refreshLays (l0 : Nat) (m : ml_M) : Option ml_M :=
    if (ml_K m l0).1 = 10 then
    ml_let (ml_R m l0 13) fun a1816 =>
    if (ml_K m a1816).1 = 4 then
    if (ml_I m a1816 0) = 0 then
    some m
    else
    ml_let (ml_R m l0 13) fun a1818 =>
    ml_let (ml_R m l0 8) fun a1819 =>
    if (ml_K m a1818).1 = 4 then
    ml_b1 (fX4_gather a1818 a1819 (ml_I m l0 9) m) fun m1822 =>
    some m1822
    else none
    else none
    else none
theorem wX10_refreshLays_0 {E : ml_E} (hL : ml_eL E = 1) {rm : ml_M} (hr : ∀ (pc pc' : Nat) (lv : List (Nat × ml_X)), ml_d cX10_refreshLays pc .return_ 1 pc' → True → ml_V E "LostRoom" cX10_refreshLays 6 false rm pc lv []) : ∀ (l0 : Nat) (m : ml_M), fX10_refreshLays l0 m = some rm → ml_V E "LostRoom" cX10_refreshLays 6 false m 0 [(0, ml_r l0)] [] := by
  intro l0 m h
  unfold fX10_refreshLays at h
  exact ml_aload_n dX10_refreshLays_0 0 rfl <| ml_ck_of h fun hc1815 h => ml_getR dX10_refreshLays_1 wb_69 hc1815 <| ml_lx (mk := ml_r) h fun a1816 h => ml_ck_of h fun hc1817 h => ml_getI dX10_refreshLays_4 wb_295 hc1817 <| ml_if_eq dX10_refreshLays_7 h (fun _ h => ml_rv hr dX10_refreshLays_25 trivial h) (fun _ h => ml_aload_n dX10_refreshLays_10 0 rfl <| ml_getR dX10_refreshLays_11 wb_69 hc1815 <| ml_lx (mk := ml_r) h fun a1818 h => ml_aload_n dX10_refreshLays_14 0 rfl <| ml_getR dX10_refreshLays_15 wb_274 hc1815 <| ml_lx (mk := ml_r) h fun a1819 h => ml_aload_n dX10_refreshLays_18 0 rfl <| ml_getI dX10_refreshLays_19 wb_273 hc1815 <| ml_ck_of h fun hc1821 h => ml_b1_of h fun m1822 hv1820 h => ml_callV dX10_refreshLays_22 wm_479 wb_296 hc1821 (sX4_gather hv1820) rfl (Nat.le_of_ble_eq_true rfl) (Nat.le_of_ble_eq_true rfl) rfl <| ml_rv hr dX10_refreshLays_25 trivial h)
theorem sX10_refreshLays {l0 : Nat} {m : ml_M} {rm : ml_M} (h : fX10_refreshLays l0 m = some rm) : ml_Sn yX10_refreshLays cX10_refreshLays 1 none 6 [ml_r l0] m none rm :=
  ml_Sn_of (P := True) (ini := false) (by decide +kernel) (Nat.le_of_ble_eq_true rfl) (fun h => by cases h) (fun _ => ml_RkV) fun E hL hr => wX10_refreshLays_0 hL hr _ _ h
theorem dX10_sheets_0 : ml_d cX10_sheets 0 (.iload_n 1) 1 1 := ⟨by decide +kernel, rfl⟩
theorem dX10_sheets_1 : ml_d cX10_sheets 1 (.invokestatic 82) 3 4 := ⟨by decide +kernel, rfl⟩
theorem dX10_sheets_4 : ml_j cX10_sheets 4 (.ifCond .ne) 9 7 := ⟨5, by decide +kernel, by decide, rfl⟩
theorem dX10_sheets_7 : ml_d cX10_sheets 7 (.iconst (-1)) 1 8 := ⟨by decide +kernel, rfl⟩
theorem dX10_sheets_8 : ml_d cX10_sheets 8 (.ireturn) 1 9 := ⟨by decide +kernel, rfl⟩
theorem dX10_sheets_9 : ml_d cX10_sheets 9 (.aload_n 0) 1 10 := ⟨by decide +kernel, rfl⟩
theorem dX10_sheets_10 : ml_d cX10_sheets 10 (.invokevirtual 288) 3 13 := ⟨by decide +kernel, rfl⟩
theorem dX10_sheets_13 : ml_d cX10_sheets 13 (.aload_n 0) 1 14 := ⟨by decide +kernel, rfl⟩
theorem dX10_sheets_14 : ml_d cX10_sheets 14 (.getfield 11) 3 17 := ⟨by decide +kernel, rfl⟩
theorem dX10_sheets_17 : ml_d cX10_sheets 17 (.iload_n 1) 1 18 := ⟨by decide +kernel, rfl⟩
theorem dX10_sheets_18 : ml_d cX10_sheets 18 (.aload_n 0) 1 19 := ⟨by decide +kernel, rfl⟩
theorem dX10_sheets_19 : ml_d cX10_sheets 19 (.getfield 68) 3 22 := ⟨by decide +kernel, rfl⟩
theorem dX10_sheets_22 : ml_d cX10_sheets 22 (.getfield 291) 3 25 := ⟨by decide +kernel, rfl⟩
theorem dX10_sheets_25 : ml_d cX10_sheets 25 (.aload_n 0) 1 26 := ⟨by decide +kernel, rfl⟩
theorem dX10_sheets_26 : ml_d cX10_sheets 26 (.getfield 124) 3 29 := ⟨by decide +kernel, rfl⟩
theorem dX10_sheets_29 : ml_d cX10_sheets 29 (.invokestatic 252) 3 32 := ⟨by decide +kernel, rfl⟩
theorem dX10_sheets_32 : ml_d cX10_sheets 32 (.aastore) 1 33 := ⟨by decide +kernel, rfl⟩
theorem dX10_sheets_33 : ml_d cX10_sheets 33 (.aload_n 0) 1 34 := ⟨by decide +kernel, rfl⟩
theorem dX10_sheets_34 : ml_d cX10_sheets 34 (.getfield 68) 3 37 := ⟨by decide +kernel, rfl⟩
theorem dX10_sheets_37 : ml_d cX10_sheets 37 (.getfield 292) 3 40 := ⟨by decide +kernel, rfl⟩
theorem dX10_sheets_40 : ml_d cX10_sheets 40 (.ireturn) 1 41 := ⟨by decide +kernel, rfl⟩
def fX10_sheets (l0 : Nat) (l1 : Int32) (m : ml_M) : Option (Int32 × ml_M) :=
    ml_b1 (fX10_isRow l1 m) fun r1824 =>
    if r1824 = 0 then
    some ((-1 : Int32), m)
    else
    if (ml_K m l0).1 = 10 then
    ml_b1 (fX10_refreshLays l0 m) fun m1827 =>
    if (ml_K m1827 l0).1 = 10 then
    ml_let (ml_R m1827 l0 0) fun a1829 =>
    ml_let (ml_R m1827 l0 13) fun a1830 =>
    if (ml_K m1827 a1830).1 = 4 then
    ml_let (ml_R m1827 a1830 3) fun a1832 =>
    ml_b2 (fJ7_copyOf_59c91 a1832 (ml_I m1827 l0 9) m1827) fun a1834 m1835 =>
    if (ml_K m1835 a1834).1 = 20 then
    if ml_in m1835 a1829 23 l1 then
    ml_let (ml_sR m1835 a1829 l1.toNatClampNeg a1834) fun m1838 =>
    if (ml_K m1838 l0).1 = 10 then
    ml_let (ml_R m1838 l0 13) fun a1841 =>
    if (ml_K m1838 a1841).1 = 4 then
    some ((ml_I m1838 a1841 1), m1838)
    else none
    else none
    else none
    else none
    else none
    else none
    else none
theorem wX10_sheets_0 {E : ml_E} (hL : ml_eL E = 2) {rv : Int32} {rm : ml_M} (hr : ∀ (pc pc' : Nat) (lv : List (Nat × ml_X)), ml_d cX10_sheets pc .ireturn 1 pc' → True → ml_V E "LostRoom" cX10_sheets 7 false rm pc lv [ml_i rv]) : ∀ (l0 : Nat) (l1 : Int32) (m : ml_M), fX10_sheets l0 l1 m = some (rv, rm) → ml_V E "LostRoom" cX10_sheets 7 false m 0 [(0, ml_r l0), (1, ml_i l1)] [] := by
  intro l0 l1 m h
  unfold fX10_sheets at h
  exact ml_iload_n dX10_sheets_0 1 rfl <| ml_b1_of h fun r1824 hv1823 h => ml_callS dX10_sheets_1 wm_356 wb_222 (sX10_isRow hv1823) rfl (Nat.le_of_ble_eq_true rfl) (Nat.le_of_ble_eq_true rfl) rfl <| ml_if_ne dX10_sheets_4 h (fun _ h => ml_aload_n dX10_sheets_9 0 rfl <| ml_ck_of h fun hc1826 h => ml_b1_of h fun m1827 hv1825 h => ml_callV dX10_sheets_10 wm_483 wb_297 hc1826 (sX10_refreshLays hv1825) rfl (Nat.le_of_ble_eq_true rfl) (Nat.le_of_ble_eq_true rfl) rfl <| ml_aload_n dX10_sheets_13 0 rfl <| ml_ck_of h fun hc1828 h => ml_getR dX10_sheets_14 wb_225 hc1828 <| ml_lx (mk := ml_r) h fun a1829 h => ml_iload_n dX10_sheets_17 1 rfl <| ml_aload_n dX10_sheets_18 0 rfl <| ml_getR dX10_sheets_19 wb_69 hc1828 <| ml_lx (mk := ml_r) h fun a1830 h => ml_ck_of h fun hc1831 h => ml_getR dX10_sheets_22 wb_298 hc1831 <| ml_lx (mk := ml_r) h fun a1832 h => ml_aload_n dX10_sheets_25 0 rfl <| ml_getI dX10_sheets_26 wb_273 hc1828 <| ml_b2_of h fun a1834 m1835 hv1833 h => ml_callS dX10_sheets_29 wm_365 wb_227 (sJ7_copyOf_59c91 hv1833) rfl (Nat.le_of_ble_eq_true rfl) (Nat.le_of_ble_eq_true rfl) rfl <| ml_ck_of h fun hc1837 h => ml_ck_of h fun hi1836 h => ml_aastA (kd := 23) (ka := 20) dX10_sheets_32 (by decide) hi1836 hc1837 <| ml_lt (m := m1835) rfl h fun m1838 em1839 h => ml_aload_n dX10_sheets_33 0 rfl <| ml_ck_of h fun hc1840 h => ml_getR dX10_sheets_34 wb_69 hc1840 <| ml_lx (mk := ml_r) h fun a1841 h => ml_ck_of h fun hc1842 h => ml_getI dX10_sheets_37 wb_299 hc1842 <| ml_rI (mk := ml_i) hr dX10_sheets_40 (fun _ => trivial) h) (fun _ h => ml_iconst dX10_sheets_7 kc_im1 <| ml_rI (mk := ml_i) hr dX10_sheets_8 (fun _ => trivial) h)
theorem sX10_sheets {l0 : Nat} {l1 : Int32} {m : ml_M} {rv : Int32} {rm : ml_M} (h : fX10_sheets l0 l1 m = some (rv, rm)) : ml_Sn yX10_sheets cX10_sheets 2 (some .int) 7 [ml_r l0, ml_i l1] m (some (ml_i rv)) rm :=
  ml_Sn_of (P := True) (ini := false) (by decide +kernel) (Nat.le_of_ble_eq_true rfl) (fun h => by cases h) (fun _ => ml_RkI rv) fun E hL hr => wX10_sheets_0 hL hr _ _ _ h
theorem dX10_laid_0 : ml_d cX10_laid 0 (.aload_n 0) 1 1 := ⟨by decide +kernel, rfl⟩
theorem dX10_laid_1 : ml_d cX10_laid 1 (.invokevirtual 288) 3 4 := ⟨by decide +kernel, rfl⟩
theorem dX10_laid_4 : ml_d cX10_laid 4 (.aload_n 0) 1 5 := ⟨by decide +kernel, rfl⟩
theorem dX10_laid_5 : ml_d cX10_laid 5 (.getfield 68) 3 8 := ⟨by decide +kernel, rfl⟩
theorem dX10_laid_8 : ml_d cX10_laid 8 (.getfield 295) 3 11 := ⟨by decide +kernel, rfl⟩
theorem dX10_laid_11 : ml_d cX10_laid 11 (.ireturn) 1 12 := ⟨by decide +kernel, rfl⟩
def fX10_laid (l0 : Nat) (m : ml_M) : Option (Int32 × ml_M) :=
    if (ml_K m l0).1 = 10 then
    ml_b1 (fX10_refreshLays l0 m) fun m1845 =>
    if (ml_K m1845 l0).1 = 10 then
    ml_let (ml_R m1845 l0 13) fun a1847 =>
    if (ml_K m1845 a1847).1 = 4 then
    some ((ml_I m1845 a1847 2), m1845)
    else none
    else none
    else none
theorem wX10_laid_0 {E : ml_E} (hL : ml_eL E = 1) {rv : Int32} {rm : ml_M} (hr : ∀ (pc pc' : Nat) (lv : List (Nat × ml_X)), ml_d cX10_laid pc .ireturn 1 pc' → True → ml_V E "LostRoom" cX10_laid 7 false rm pc lv [ml_i rv]) : ∀ (l0 : Nat) (m : ml_M), fX10_laid l0 m = some (rv, rm) → ml_V E "LostRoom" cX10_laid 7 false m 0 [(0, ml_r l0)] [] := by
  intro l0 m h
  unfold fX10_laid at h
  exact ml_aload_n dX10_laid_0 0 rfl <| ml_ck_of h fun hc1844 h => ml_b1_of h fun m1845 hv1843 h => ml_callV dX10_laid_1 wm_483 wb_297 hc1844 (sX10_refreshLays hv1843) rfl (Nat.le_of_ble_eq_true rfl) (Nat.le_of_ble_eq_true rfl) rfl <| ml_aload_n dX10_laid_4 0 rfl <| ml_ck_of h fun hc1846 h => ml_getR dX10_laid_5 wb_69 hc1846 <| ml_lx (mk := ml_r) h fun a1847 h => ml_ck_of h fun hc1848 h => ml_getI dX10_laid_8 wb_300 hc1848 <| ml_rI (mk := ml_i) hr dX10_laid_11 (fun _ => trivial) h
theorem sX10_laid {l0 : Nat} {m : ml_M} {rv : Int32} {rm : ml_M} (h : fX10_laid l0 m = some (rv, rm)) : ml_Sn yX10_laid cX10_laid 1 (some .int) 7 [ml_r l0] m (some (ml_i rv)) rm :=
  ml_Sn_of (P := True) (ini := false) (by decide +kernel) (Nat.le_of_ble_eq_true rfl) (fun h => by cases h) (fun _ => ml_RkI rv) fun E hL hr => wX10_laid_0 hL hr _ _ h
theorem dX10_joins_0 : ml_d cX10_joins 0 (.iload_n 1) 1 1 := ⟨by decide +kernel, rfl⟩
theorem dX10_joins_1 : ml_d cX10_joins 1 (.iconst 0) 1 2 := ⟨by decide +kernel, rfl⟩
theorem dX10_joins_2 : ml_d cX10_joins 2 (.aload_n 0) 1 3 := ⟨by decide +kernel, rfl⟩
theorem dX10_joins_3 : ml_d cX10_joins 3 (.getfield 124) 3 6 := ⟨by decide +kernel, rfl⟩
theorem dX10_joins_6 : ml_d cX10_joins 6 (.iconst 1) 1 7 := ⟨by decide +kernel, rfl⟩
theorem dX10_joins_7 : ml_d cX10_joins 7 (.isub) 1 8 := ⟨by decide +kernel, rfl⟩
theorem dX10_joins_8 : ml_d cX10_joins 8 (.invokestatic 138) 3 11 := ⟨by decide +kernel, rfl⟩
theorem dX10_joins_11 : ml_j cX10_joins 11 (.ifCond .eq) 33 14 := ⟨22, by decide +kernel, by decide, rfl⟩
theorem dX10_joins_14 : ml_d cX10_joins 14 (.iload_n 2) 1 15 := ⟨by decide +kernel, rfl⟩
theorem dX10_joins_15 : ml_d cX10_joins 15 (.iconst 0) 1 16 := ⟨by decide +kernel, rfl⟩
theorem dX10_joins_16 : ml_d cX10_joins 16 (.aload_n 0) 1 17 := ⟨by decide +kernel, rfl⟩
theorem dX10_joins_17 : ml_d cX10_joins 17 (.getfield 124) 3 20 := ⟨by decide +kernel, rfl⟩
theorem dX10_joins_20 : ml_d cX10_joins 20 (.iconst 1) 1 21 := ⟨by decide +kernel, rfl⟩
theorem dX10_joins_21 : ml_d cX10_joins 21 (.isub) 1 22 := ⟨by decide +kernel, rfl⟩
theorem dX10_joins_22 : ml_d cX10_joins 22 (.invokestatic 138) 3 25 := ⟨by decide +kernel, rfl⟩
theorem dX10_joins_25 : ml_j cX10_joins 25 (.ifCond .eq) 33 28 := ⟨8, by decide +kernel, by decide, rfl⟩
theorem dX10_joins_28 : ml_d cX10_joins 28 (.iload_n 1) 1 29 := ⟨by decide +kernel, rfl⟩
theorem dX10_joins_29 : ml_d cX10_joins 29 (.iload_n 2) 1 30 := ⟨by decide +kernel, rfl⟩
theorem dX10_joins_30 : ml_j cX10_joins 30 (.if_icmp .ne) 35 33 := ⟨5, by decide +kernel, by decide, rfl⟩
theorem dX10_joins_33 : ml_d cX10_joins 33 (.iconst (-1)) 1 34 := ⟨by decide +kernel, rfl⟩
theorem dX10_joins_34 : ml_d cX10_joins 34 (.ireturn) 1 35 := ⟨by decide +kernel, rfl⟩
theorem dX10_joins_35 : ml_d cX10_joins 35 (.aload_n 0) 1 36 := ⟨by decide +kernel, rfl⟩
theorem dX10_joins_36 : ml_d cX10_joins 36 (.getfield 48) 3 39 := ⟨by decide +kernel, rfl⟩
theorem dX10_joins_39 : ml_d cX10_joins 39 (.iload_n 1) 1 40 := ⟨by decide +kernel, rfl⟩
theorem dX10_joins_40 : ml_d cX10_joins 40 (.aaload) 1 41 := ⟨by decide +kernel, rfl⟩
theorem dX10_joins_41 : ml_d cX10_joins 41 (.aload_n 0) 1 42 := ⟨by decide +kernel, rfl⟩
theorem dX10_joins_42 : ml_d cX10_joins 42 (.getfield 48) 3 45 := ⟨by decide +kernel, rfl⟩
theorem dX10_joins_45 : ml_d cX10_joins 45 (.iload_n 2) 1 46 := ⟨by decide +kernel, rfl⟩
theorem dX10_joins_46 : ml_d cX10_joins 46 (.aaload) 1 47 := ⟨by decide +kernel, rfl⟩
theorem dX10_joins_47 : ml_d cX10_joins 47 (.invokevirtual 284) 3 50 := ⟨by decide +kernel, rfl⟩
theorem dX10_joins_50 : ml_j cX10_joins 50 (.ifCond .eq) 57 53 := ⟨7, by decide +kernel, by decide, rfl⟩
theorem dX10_joins_53 : ml_d cX10_joins 53 (.iconst 1) 1 54 := ⟨by decide +kernel, rfl⟩
theorem dX10_joins_54 : ml_j cX10_joins 54 .goto 58 57 := ⟨4, by decide +kernel, by decide, rfl⟩
theorem dX10_joins_57 : ml_d cX10_joins 57 (.iconst 0) 1 58 := ⟨by decide +kernel, rfl⟩
theorem dX10_joins_58 : ml_d cX10_joins 58 (.ireturn) 1 59 := ⟨by decide +kernel, rfl⟩
def fX10_joins (l0 : Nat) (l1 : Int32) (l2 : Int32) (m : ml_M) : Option Int32 :=
    if (ml_K m l0).1 = 10 then
    ml_b1 (fX10_within l1 (0 : Int32) ((ml_I m l0 9) - (1 : Int32)) m) fun r1851 =>
    if r1851 = 0 then
    some (-1 : Int32)
    else
    ml_b1 (fX10_within l2 (0 : Int32) ((ml_I m l0 9) - (1 : Int32)) m) fun r1853 =>
    if r1853 = 0 then
    some (-1 : Int32)
    else
    if l1 = l2 then
    some (-1 : Int32)
    else
    ml_let (ml_R m l0 8) fun a1854 =>
    if ml_in m a1854 25 l1 then
    ml_let (ml_R m a1854 l1.toNatClampNeg) fun a1856 =>
    ml_let (ml_R m l0 8) fun a1857 =>
    if ml_in m a1857 25 l2 then
    ml_let (ml_R m a1857 l2.toNatClampNeg) fun a1859 =>
    if (ml_K m a1856).1 = 0 then
    ml_b1 (fX0_meets a1856 a1859 m) fun r1862 =>
    if r1862 = 0 then
    some (0 : Int32)
    else
    some (1 : Int32)
    else none
    else none
    else none
    else none
theorem wX10_joins_0 {E : ml_E} (hL : ml_eL E = 3) {rv : Int32} {m : ml_M} (hr : ∀ (pc pc' : Nat) (lv : List (Nat × ml_X)), ml_d cX10_joins pc .ireturn 1 pc' → True → ml_V E "LostRoom" cX10_joins 3 false m pc lv [ml_i rv]) : ∀ (l0 : Nat) (l1 : Int32) (l2 : Int32), fX10_joins l0 l1 l2 m = some rv → ml_V E "LostRoom" cX10_joins 3 false m 0 [(0, ml_r l0), (1, ml_i l1), (2, ml_i l2)] [] := by
  intro l0 l1 l2 h
  unfold fX10_joins at h
  exact ml_iload_n dX10_joins_0 1 rfl <| ml_iconst dX10_joins_1 kc_i0 <| ml_aload_n dX10_joins_2 0 rfl <| ml_ck_of h fun hc1849 h => ml_getI dX10_joins_3 wb_273 hc1849 <| ml_iconst dX10_joins_6 kc_i1 <| ml_isub dX10_joins_7 <| ml_b1_of h fun r1851 hv1850 h => ml_callS dX10_joins_8 wm_21 wb_4 (sX10_within hv1850) rfl (Nat.le_of_ble_eq_true rfl) (Nat.le_of_ble_eq_true rfl) rfl <| ml_if_eq dX10_joins_11 h (fun _ h => ml_iconst dX10_joins_33 kc_im1 <| ml_rp (mk := ml_i) hr dX10_joins_34 (fun _ => trivial) h) (fun _ h => ml_iload_n dX10_joins_14 2 rfl <| ml_iconst dX10_joins_15 kc_i0 <| ml_aload_n dX10_joins_16 0 rfl <| ml_getI dX10_joins_17 wb_273 hc1849 <| ml_iconst dX10_joins_20 kc_i1 <| ml_isub dX10_joins_21 <| ml_b1_of h fun r1853 hv1852 h => ml_callS dX10_joins_22 wm_21 wb_4 (sX10_within hv1852) rfl (Nat.le_of_ble_eq_true rfl) (Nat.le_of_ble_eq_true rfl) rfl <| ml_if_eq dX10_joins_25 h (fun _ h => ml_iconst dX10_joins_33 kc_im1 <| ml_rp (mk := ml_i) hr dX10_joins_34 (fun _ => trivial) h) (fun _ h => ml_iload_n dX10_joins_28 1 rfl <| ml_iload_n dX10_joins_29 2 rfl <| ml_icmp_ne dX10_joins_30 h (fun _ h => ml_aload_n dX10_joins_35 0 rfl <| ml_getR dX10_joins_36 wb_274 hc1849 <| ml_lx (mk := ml_r) h fun a1854 h => ml_iload_n dX10_joins_39 1 rfl <| ml_ck_of h fun hi1855 h => ml_aald (kd := 25) dX10_joins_40 (by decide) hi1855 <| ml_lx (mk := ml_r) h fun a1856 h => ml_aload_n dX10_joins_41 0 rfl <| ml_getR dX10_joins_42 wb_274 hc1849 <| ml_lx (mk := ml_r) h fun a1857 h => ml_iload_n dX10_joins_45 2 rfl <| ml_ck_of h fun hi1858 h => ml_aald (kd := 25) dX10_joins_46 (by decide) hi1858 <| ml_lx (mk := ml_r) h fun a1859 h => ml_ck_of h fun hc1861 h => ml_b1_of h fun r1862 hv1860 h => ml_callV dX10_joins_47 wm_487 wb_288 hc1861 (sX0_meets hv1860) rfl (Nat.le_of_ble_eq_true rfl) (Nat.le_of_ble_eq_true rfl) rfl <| ml_if_eq dX10_joins_50 h (fun _ h => ml_iconst dX10_joins_57 kc_i0 <| ml_rp (mk := ml_i) hr dX10_joins_58 (fun _ => trivial) h) (fun _ h => ml_iconst dX10_joins_53 kc_i1 <| ml_goto dX10_joins_54 <| ml_rp (mk := ml_i) hr dX10_joins_58 (fun _ => trivial) h)) (fun _ h => ml_iconst dX10_joins_33 kc_im1 <| ml_rp (mk := ml_i) hr dX10_joins_34 (fun _ => trivial) h)))
theorem sX10_joins {l0 : Nat} {l1 : Int32} {l2 : Int32} {m : ml_M} {rv : Int32} (h : fX10_joins l0 l1 l2 m = some rv) : ml_Sn yX10_joins cX10_joins 3 (some .int) 3 [ml_r l0, ml_i l1, ml_i l2] m (some (ml_i rv)) m :=
  ml_Sn_of (P := True) (ini := false) (by decide +kernel) (Nat.le_of_ble_eq_true rfl) (fun h => by cases h) (fun _ => ml_RkI rv) fun E hL hr => wX10_joins_0 hL hr _ _ _ h
theorem dL_pieces_0 : ml_d cL_pieces 0 (.aload_n 2) 1 1 := ⟨by decide +kernel, rfl⟩
theorem dL_pieces_1 : ml_d cL_pieces 1 (.iconst 4) 1 2 := ⟨by decide +kernel, rfl⟩
theorem dL_pieces_2 : ml_d cL_pieces 2 (.invokestatic 19) 3 5 := ⟨by decide +kernel, rfl⟩
theorem dL_pieces_5 : ml_d cL_pieces 5 (.bipush 8) 2 7 := ⟨by decide +kernel, rfl⟩
theorem dL_pieces_7 : ml_d cL_pieces 7 (.irem) 1 8 := ⟨by decide +kernel, rfl⟩
theorem dL_pieces_8 : ml_d cL_pieces 8 (.istore_n 3) 1 9 := ⟨by decide +kernel, rfl⟩
theorem dL_pieces_9 : ml_d cL_pieces 9 (.iconst 0) 1 10 := ⟨by decide +kernel, rfl⟩
theorem dL_pieces_10 : ml_d cL_pieces 10 (.istore 4) 2 12 := ⟨by decide +kernel, rfl⟩
theorem dL_pieces_12 : ml_d cL_pieces 12 (.iload 4) 2 14 := ⟨by decide +kernel, rfl⟩
theorem dL_pieces_14 : ml_d cL_pieces 14 (.iload_n 3) 1 15 := ⟨by decide +kernel, rfl⟩
theorem dL_pieces_15 : ml_j cL_pieces 15 (.if_icmp .ge) 140 18 := ⟨125, by decide +kernel, by decide, rfl⟩
theorem dL_pieces_18 : ml_d cL_pieces 18 (.aload_n 2) 1 19 := ⟨by decide +kernel, rfl⟩
theorem dL_pieces_19 : ml_d cL_pieces 19 (.sipush 150) 3 22 := ⟨by decide +kernel, rfl⟩
theorem dL_pieces_22 : ml_d cL_pieces 22 (.iload 4) 2 24 := ⟨by decide +kernel, rfl⟩
theorem dL_pieces_24 : ml_d cL_pieces 24 (.iadd) 1 25 := ⟨by decide +kernel, rfl⟩
theorem dL_pieces_25 : ml_d cL_pieces 25 (.invokestatic 19) 3 28 := ⟨by decide +kernel, rfl⟩
theorem dL_pieces_28 : ml_d cL_pieces 28 (.istore 5) 2 30 := ⟨by decide +kernel, rfl⟩
theorem dL_pieces_30 : ml_d cL_pieces 30 (.iload 5) 2 32 := ⟨by decide +kernel, rfl⟩
theorem dL_pieces_32 : ml_d cL_pieces 32 (.iconst 3) 1 33 := ⟨by decide +kernel, rfl⟩
theorem dL_pieces_33 : ml_d cL_pieces 33 (.irem) 1 34 := ⟨by decide +kernel, rfl⟩
theorem dL_pieces_34 : ml_j cL_pieces 34 (.ifCond .ne) 41 37 := ⟨7, by decide +kernel, by decide, rfl⟩
theorem dL_pieces_37 : ml_d cL_pieces 37 (.iconst 0) 1 38 := ⟨by decide +kernel, rfl⟩
theorem dL_pieces_38 : ml_j cL_pieces 38 .goto 54 41 := ⟨16, by decide +kernel, by decide, rfl⟩
theorem dL_pieces_41 : ml_d cL_pieces 41 (.sipush 400) 3 44 := ⟨by decide +kernel, rfl⟩
theorem dL_pieces_44 : ml_d cL_pieces 44 (.bipush 100) 2 46 := ⟨by decide +kernel, rfl⟩
theorem dL_pieces_46 : ml_d cL_pieces 46 (.iload 5) 2 48 := ⟨by decide +kernel, rfl⟩
theorem dL_pieces_48 : ml_d cL_pieces 48 (.iconst 3) 1 49 := ⟨by decide +kernel, rfl⟩
theorem dL_pieces_49 : ml_d cL_pieces 49 (.idiv) 1 50 := ⟨by decide +kernel, rfl⟩
theorem dL_pieces_50 : ml_d cL_pieces 50 (.iconst 3) 1 51 := ⟨by decide +kernel, rfl⟩
theorem dL_pieces_51 : ml_d cL_pieces 51 (.irem) 1 52 := ⟨by decide +kernel, rfl⟩
theorem dL_pieces_52 : ml_d cL_pieces 52 (.imul) 1 53 := ⟨by decide +kernel, rfl⟩
theorem dL_pieces_53 : ml_d cL_pieces 53 (.iadd) 1 54 := ⟨by decide +kernel, rfl⟩
theorem dL_pieces_54 : ml_d cL_pieces 54 (.istore 6) 2 56 := ⟨by decide +kernel, rfl⟩
theorem dL_pieces_56 : ml_d cL_pieces 56 (.iload 5) 2 58 := ⟨by decide +kernel, rfl⟩
theorem dL_pieces_58 : ml_d cL_pieces 58 (.bipush 9) 2 60 := ⟨by decide +kernel, rfl⟩
theorem dL_pieces_60 : ml_d cL_pieces 60 (.idiv) 1 61 := ⟨by decide +kernel, rfl⟩
theorem dL_pieces_61 : ml_d cL_pieces 61 (.iconst 3) 1 62 := ⟨by decide +kernel, rfl⟩
theorem dL_pieces_62 : ml_d cL_pieces 62 (.irem) 1 63 := ⟨by decide +kernel, rfl⟩
theorem dL_pieces_63 : ml_j cL_pieces 63 (.ifCond .ne) 70 66 := ⟨7, by decide +kernel, by decide, rfl⟩
theorem dL_pieces_66 : ml_d cL_pieces 66 (.iconst 0) 1 67 := ⟨by decide +kernel, rfl⟩
theorem dL_pieces_67 : ml_j cL_pieces 67 .goto 84 70 := ⟨17, by decide +kernel, by decide, rfl⟩
theorem dL_pieces_70 : ml_d cL_pieces 70 (.sipush 400) 3 73 := ⟨by decide +kernel, rfl⟩
theorem dL_pieces_73 : ml_d cL_pieces 73 (.bipush 100) 2 75 := ⟨by decide +kernel, rfl⟩
theorem dL_pieces_75 : ml_d cL_pieces 75 (.iload 5) 2 77 := ⟨by decide +kernel, rfl⟩
theorem dL_pieces_77 : ml_d cL_pieces 77 (.bipush 27) 2 79 := ⟨by decide +kernel, rfl⟩
theorem dL_pieces_79 : ml_d cL_pieces 79 (.idiv) 1 80 := ⟨by decide +kernel, rfl⟩
theorem dL_pieces_80 : ml_d cL_pieces 80 (.iconst 3) 1 81 := ⟨by decide +kernel, rfl⟩
theorem dL_pieces_81 : ml_d cL_pieces 81 (.irem) 1 82 := ⟨by decide +kernel, rfl⟩
theorem dL_pieces_82 : ml_d cL_pieces 82 (.imul) 1 83 := ⟨by decide +kernel, rfl⟩
theorem dL_pieces_83 : ml_d cL_pieces 83 (.iadd) 1 84 := ⟨by decide +kernel, rfl⟩
theorem dL_pieces_84 : ml_d cL_pieces 84 (.istore 7) 2 86 := ⟨by decide +kernel, rfl⟩
theorem dL_pieces_86 : ml_d cL_pieces 86 (.aload_n 0) 1 87 := ⟨by decide +kernel, rfl⟩
theorem dL_pieces_87 : ml_d cL_pieces 87 (.iconst 1) 1 88 := ⟨by decide +kernel, rfl⟩
theorem dL_pieces_88 : ml_d cL_pieces 88 (.iload 5) 2 90 := ⟨by decide +kernel, rfl⟩
theorem dL_pieces_90 : ml_d cL_pieces 90 (.bipush 81) 2 92 := ⟨by decide +kernel, rfl⟩
theorem dL_pieces_92 : ml_d cL_pieces 92 (.idiv) 1 93 := ⟨by decide +kernel, rfl⟩
theorem dL_pieces_93 : ml_d cL_pieces 93 (.iconst 2) 1 94 := ⟨by decide +kernel, rfl⟩
theorem dL_pieces_94 : ml_d cL_pieces 94 (.irem) 1 95 := ⟨by decide +kernel, rfl⟩
theorem dL_pieces_95 : ml_d cL_pieces 95 (.iadd) 1 96 := ⟨by decide +kernel, rfl⟩
theorem dL_pieces_96 : ml_d cL_pieces 96 (.iconst 0) 1 97 := ⟨by decide +kernel, rfl⟩
theorem dL_pieces_97 : ml_d cL_pieces 97 (.iload 6) 2 99 := ⟨by decide +kernel, rfl⟩
theorem dL_pieces_99 : ml_d cL_pieces 99 (.iload 7) 2 101 := ⟨by decide +kernel, rfl⟩
theorem dL_pieces_101 : ml_d cL_pieces 101 (.invokevirtual 131) 3 104 := ⟨by decide +kernel, rfl⟩
theorem dL_pieces_104 : ml_d cL_pieces 104 (.iload 4) 2 106 := ⟨by decide +kernel, rfl⟩
theorem dL_pieces_106 : ml_j cL_pieces 106 (.if_icmp .ne) 132 109 := ⟨26, by decide +kernel, by decide, rfl⟩
theorem dL_pieces_109 : ml_d cL_pieces 109 (.aload_n 1) 1 110 := ⟨by decide +kernel, rfl⟩
theorem dL_pieces_110 : ml_d cL_pieces 110 (.iconst 1) 1 111 := ⟨by decide +kernel, rfl⟩
theorem dL_pieces_111 : ml_d cL_pieces 111 (.iload 5) 2 113 := ⟨by decide +kernel, rfl⟩
theorem dL_pieces_113 : ml_d cL_pieces 113 (.bipush 81) 2 115 := ⟨by decide +kernel, rfl⟩
theorem dL_pieces_115 : ml_d cL_pieces 115 (.idiv) 1 116 := ⟨by decide +kernel, rfl⟩
theorem dL_pieces_116 : ml_d cL_pieces 116 (.iconst 2) 1 117 := ⟨by decide +kernel, rfl⟩
theorem dL_pieces_117 : ml_d cL_pieces 117 (.irem) 1 118 := ⟨by decide +kernel, rfl⟩
theorem dL_pieces_118 : ml_d cL_pieces 118 (.iadd) 1 119 := ⟨by decide +kernel, rfl⟩
theorem dL_pieces_119 : ml_d cL_pieces 119 (.iconst 0) 1 120 := ⟨by decide +kernel, rfl⟩
theorem dL_pieces_120 : ml_d cL_pieces 120 (.iload 7) 2 122 := ⟨by decide +kernel, rfl⟩
theorem dL_pieces_122 : ml_d cL_pieces 122 (.iload 6) 2 124 := ⟨by decide +kernel, rfl⟩
theorem dL_pieces_124 : ml_d cL_pieces 124 (.invokevirtual 131) 3 127 := ⟨by decide +kernel, rfl⟩
theorem dL_pieces_127 : ml_d cL_pieces 127 (.iload 4) 2 129 := ⟨by decide +kernel, rfl⟩
theorem dL_pieces_129 : ml_j cL_pieces 129 (.if_icmp .eq) 134 132 := ⟨5, by decide +kernel, by decide, rfl⟩
theorem dL_pieces_132 : ml_d cL_pieces 132 (.iconst 0) 1 133 := ⟨by decide +kernel, rfl⟩
theorem dL_pieces_133 : ml_d cL_pieces 133 (.ireturn) 1 134 := ⟨by decide +kernel, rfl⟩
theorem dL_pieces_134 : ml_d cL_pieces 134 (.iinc 4 1) 3 137 := ⟨by decide +kernel, rfl⟩
theorem dL_pieces_137 : ml_j cL_pieces 137 .goto 12 140 := ⟨(-125), by decide +kernel, by decide, rfl⟩
theorem dL_pieces_140 : ml_d cL_pieces 140 (.aload_n 0) 1 141 := ⟨by decide +kernel, rfl⟩
theorem dL_pieces_141 : ml_d cL_pieces 141 (.iconst 4) 1 142 := ⟨by decide +kernel, rfl⟩
theorem dL_pieces_142 : ml_d cL_pieces 142 (.invokevirtual 135) 3 145 := ⟨by decide +kernel, rfl⟩
theorem dL_pieces_145 : ml_d cL_pieces 145 (.istore 4) 2 147 := ⟨by decide +kernel, rfl⟩
theorem dL_pieces_147 : ml_d cL_pieces 147 (.aload_n 1) 1 148 := ⟨by decide +kernel, rfl⟩
theorem dL_pieces_148 : ml_d cL_pieces 148 (.iconst 4) 1 149 := ⟨by decide +kernel, rfl⟩
theorem dL_pieces_149 : ml_d cL_pieces 149 (.invokevirtual 135) 3 152 := ⟨by decide +kernel, rfl⟩
theorem dL_pieces_152 : ml_d cL_pieces 152 (.iload 4) 2 154 := ⟨by decide +kernel, rfl⟩
theorem dL_pieces_154 : ml_j cL_pieces 154 (.if_icmp .ne) 184 157 := ⟨30, by decide +kernel, by decide, rfl⟩
theorem dL_pieces_157 : ml_d cL_pieces 157 (.aload_n 0) 1 158 := ⟨by decide +kernel, rfl⟩
theorem dL_pieces_158 : ml_d cL_pieces 158 (.invokevirtual 138) 3 161 := ⟨by decide +kernel, rfl⟩
theorem dL_pieces_161 : ml_d cL_pieces 161 (.aload_n 1) 1 162 := ⟨by decide +kernel, rfl⟩
theorem dL_pieces_162 : ml_d cL_pieces 162 (.invokevirtual 138) 3 165 := ⟨by decide +kernel, rfl⟩
theorem dL_pieces_165 : ml_j cL_pieces 165 (.if_icmp .ne) 184 168 := ⟨19, by decide +kernel, by decide, rfl⟩
theorem dL_pieces_168 : ml_d cL_pieces 168 (.iload 4) 2 170 := ⟨by decide +kernel, rfl⟩
theorem dL_pieces_170 : ml_d cL_pieces 170 (.iload_n 3) 1 171 := ⟨by decide +kernel, rfl⟩
theorem dL_pieces_171 : ml_j cL_pieces 171 (.if_icmp .gt) 184 174 := ⟨13, by decide +kernel, by decide, rfl⟩
theorem dL_pieces_174 : ml_d cL_pieces 174 (.iload_n 3) 1 175 := ⟨by decide +kernel, rfl⟩
theorem dL_pieces_175 : ml_j cL_pieces 175 (.ifCond .le) 186 178 := ⟨11, by decide +kernel, by decide, rfl⟩
theorem dL_pieces_178 : ml_d cL_pieces 178 (.iload 4) 2 180 := ⟨by decide +kernel, rfl⟩
theorem dL_pieces_180 : ml_d cL_pieces 180 (.iconst 1) 1 181 := ⟨by decide +kernel, rfl⟩
theorem dL_pieces_181 : ml_j cL_pieces 181 (.if_icmp .ge) 186 184 := ⟨5, by decide +kernel, by decide, rfl⟩
theorem dL_pieces_184 : ml_d cL_pieces 184 (.iconst 0) 1 185 := ⟨by decide +kernel, rfl⟩
theorem dL_pieces_185 : ml_d cL_pieces 185 (.ireturn) 1 186 := ⟨by decide +kernel, rfl⟩
theorem dL_pieces_186 : ml_d cL_pieces 186 (.iload_n 3) 1 187 := ⟨by decide +kernel, rfl⟩
theorem dL_pieces_187 : ml_j cL_pieces 187 (.ifCond .ne) 194 190 := ⟨7, by decide +kernel, by decide, rfl⟩
theorem dL_pieces_190 : ml_d cL_pieces 190 (.iconst 0) 1 191 := ⟨by decide +kernel, rfl⟩
theorem dL_pieces_191 : ml_j cL_pieces 191 .goto 195 194 := ⟨4, by decide +kernel, by decide, rfl⟩
theorem dL_pieces_194 : ml_d cL_pieces 194 (.iconst 1) 1 195 := ⟨by decide +kernel, rfl⟩
theorem dL_pieces_195 : ml_d cL_pieces 195 (.istore 5) 2 197 := ⟨by decide +kernel, rfl⟩
theorem dL_pieces_197 : ml_d cL_pieces 197 (.iconst 0) 1 198 := ⟨by decide +kernel, rfl⟩
theorem dL_pieces_198 : ml_d cL_pieces 198 (.istore 6) 2 200 := ⟨by decide +kernel, rfl⟩
theorem dL_pieces_200 : ml_d cL_pieces 200 (.iconst (-1)) 1 201 := ⟨by decide +kernel, rfl⟩
theorem dL_pieces_201 : ml_d cL_pieces 201 (.istore 7) 2 203 := ⟨by decide +kernel, rfl⟩
theorem dL_pieces_203 : ml_d cL_pieces 203 (.iconst 0) 1 204 := ⟨by decide +kernel, rfl⟩
theorem dL_pieces_204 : ml_d cL_pieces 204 (.istore 8) 2 206 := ⟨by decide +kernel, rfl⟩
theorem dL_pieces_206 : ml_d cL_pieces 206 (.iload 8) 2 208 := ⟨by decide +kernel, rfl⟩
theorem dL_pieces_208 : ml_d cL_pieces 208 (.iload_n 3) 1 209 := ⟨by decide +kernel, rfl⟩
theorem dL_pieces_209 : ml_j cL_pieces 209 (.if_icmp .ge) 278 212 := ⟨69, by decide +kernel, by decide, rfl⟩
theorem dL_pieces_212 : ml_d cL_pieces 212 (.aload_n 0) 1 213 := ⟨by decide +kernel, rfl⟩
theorem dL_pieces_213 : ml_d cL_pieces 213 (.iconst 4) 1 214 := ⟨by decide +kernel, rfl⟩
theorem dL_pieces_214 : ml_d cL_pieces 214 (.iload 8) 2 216 := ⟨by decide +kernel, rfl⟩
theorem dL_pieces_216 : ml_d cL_pieces 216 (.invokevirtual 115) 3 219 := ⟨by decide +kernel, rfl⟩
theorem dL_pieces_219 : ml_d cL_pieces 219 (.iconst 1) 1 220 := ⟨by decide +kernel, rfl⟩
theorem dL_pieces_220 : ml_j cL_pieces 220 (.if_icmp .ne) 230 223 := ⟨10, by decide +kernel, by decide, rfl⟩
theorem dL_pieces_223 : ml_d cL_pieces 223 (.aload_n 0) 1 224 := ⟨by decide +kernel, rfl⟩
theorem dL_pieces_224 : ml_d cL_pieces 224 (.invokevirtual 100) 3 227 := ⟨by decide +kernel, rfl⟩
theorem dL_pieces_227 : ml_j cL_pieces 227 .goto 231 230 := ⟨4, by decide +kernel, by decide, rfl⟩
theorem dL_pieces_230 : ml_d cL_pieces 230 (.iconst (-1)) 1 231 := ⟨by decide +kernel, rfl⟩
theorem dL_pieces_231 : ml_d cL_pieces 231 (.istore 9) 2 233 := ⟨by decide +kernel, rfl⟩
theorem dL_pieces_233 : ml_d cL_pieces 233 (.iload 5) 2 235 := ⟨by decide +kernel, rfl⟩
theorem dL_pieces_235 : ml_d cL_pieces 235 (.iload 7) 2 237 := ⟨by decide +kernel, rfl⟩
theorem dL_pieces_237 : ml_j cL_pieces 237 (.ifCond .lt) 255 240 := ⟨18, by decide +kernel, by decide, rfl⟩
theorem dL_pieces_240 : ml_d cL_pieces 240 (.aload_n 0) 1 241 := ⟨by decide +kernel, rfl⟩
theorem dL_pieces_241 : ml_d cL_pieces 241 (.iload 7) 2 243 := ⟨by decide +kernel, rfl⟩
theorem dL_pieces_243 : ml_d cL_pieces 243 (.iload 9) 2 245 := ⟨by decide +kernel, rfl⟩
theorem dL_pieces_245 : ml_d cL_pieces 245 (.invokevirtual 141) 3 248 := ⟨by decide +kernel, rfl⟩
theorem dL_pieces_248 : ml_j cL_pieces 248 (.ifCond .ne) 255 251 := ⟨7, by decide +kernel, by decide, rfl⟩
theorem dL_pieces_251 : ml_d cL_pieces 251 (.iconst 1) 1 252 := ⟨by decide +kernel, rfl⟩
theorem dL_pieces_252 : ml_j cL_pieces 252 .goto 256 255 := ⟨4, by decide +kernel, by decide, rfl⟩
theorem dL_pieces_255 : ml_d cL_pieces 255 (.iconst 0) 1 256 := ⟨by decide +kernel, rfl⟩
theorem dL_pieces_256 : ml_d cL_pieces 256 (.iadd) 1 257 := ⟨by decide +kernel, rfl⟩
theorem dL_pieces_257 : ml_d cL_pieces 257 (.istore 5) 2 259 := ⟨by decide +kernel, rfl⟩
theorem dL_pieces_259 : ml_d cL_pieces 259 (.iload 6) 2 261 := ⟨by decide +kernel, rfl⟩
theorem dL_pieces_261 : ml_d cL_pieces 261 (.iconst 1) 1 262 := ⟨by decide +kernel, rfl⟩
theorem dL_pieces_262 : ml_d cL_pieces 262 (.iload 9) 2 264 := ⟨by decide +kernel, rfl⟩
theorem dL_pieces_264 : ml_d cL_pieces 264 (.ishl) 1 265 := ⟨by decide +kernel, rfl⟩
theorem dL_pieces_265 : ml_d cL_pieces 265 (.ior) 1 266 := ⟨by decide +kernel, rfl⟩
theorem dL_pieces_266 : ml_d cL_pieces 266 (.istore 6) 2 268 := ⟨by decide +kernel, rfl⟩
theorem dL_pieces_268 : ml_d cL_pieces 268 (.iload 9) 2 270 := ⟨by decide +kernel, rfl⟩
theorem dL_pieces_270 : ml_d cL_pieces 270 (.istore 7) 2 272 := ⟨by decide +kernel, rfl⟩
theorem dL_pieces_272 : ml_d cL_pieces 272 (.iinc 8 1) 3 275 := ⟨by decide +kernel, rfl⟩
theorem dL_pieces_275 : ml_j cL_pieces 275 .goto 206 278 := ⟨(-69), by decide +kernel, by decide, rfl⟩
theorem dL_pieces_278 : ml_d cL_pieces 278 (.iconst 0) 1 279 := ⟨by decide +kernel, rfl⟩
theorem dL_pieces_279 : ml_d cL_pieces 279 (.istore 8) 2 281 := ⟨by decide +kernel, rfl⟩
theorem dL_pieces_281 : ml_d cL_pieces 281 (.iload 8) 2 283 := ⟨by decide +kernel, rfl⟩
theorem dL_pieces_283 : ml_d cL_pieces 283 (.iload_n 3) 1 284 := ⟨by decide +kernel, rfl⟩
theorem dL_pieces_284 : ml_j cL_pieces 284 (.if_icmp .ge) 329 287 := ⟨45, by decide +kernel, by decide, rfl⟩
theorem dL_pieces_287 : ml_d cL_pieces 287 (.iconst 0) 1 288 := ⟨by decide +kernel, rfl⟩
theorem dL_pieces_288 : ml_d cL_pieces 288 (.istore 9) 2 290 := ⟨by decide +kernel, rfl⟩
theorem dL_pieces_290 : ml_d cL_pieces 290 (.iload 9) 2 292 := ⟨by decide +kernel, rfl⟩
theorem dL_pieces_292 : ml_d cL_pieces 292 (.iload_n 3) 1 293 := ⟨by decide +kernel, rfl⟩
theorem dL_pieces_293 : ml_j cL_pieces 293 (.if_icmp .ge) 323 296 := ⟨30, by decide +kernel, by decide, rfl⟩
theorem dL_pieces_296 : ml_d cL_pieces 296 (.aload_n 0) 1 297 := ⟨by decide +kernel, rfl⟩
theorem dL_pieces_297 : ml_d cL_pieces 297 (.iload 8) 2 299 := ⟨by decide +kernel, rfl⟩
theorem dL_pieces_299 : ml_d cL_pieces 299 (.iload 9) 2 301 := ⟨by decide +kernel, rfl⟩
theorem dL_pieces_301 : ml_d cL_pieces 301 (.invokevirtual 141) 3 304 := ⟨by decide +kernel, rfl⟩
theorem dL_pieces_304 : ml_d cL_pieces 304 (.aload_n 1) 1 305 := ⟨by decide +kernel, rfl⟩
theorem dL_pieces_305 : ml_d cL_pieces 305 (.iload 9) 2 307 := ⟨by decide +kernel, rfl⟩
theorem dL_pieces_307 : ml_d cL_pieces 307 (.iload 8) 2 309 := ⟨by decide +kernel, rfl⟩
theorem dL_pieces_309 : ml_d cL_pieces 309 (.invokevirtual 141) 3 312 := ⟨by decide +kernel, rfl⟩
theorem dL_pieces_312 : ml_j cL_pieces 312 (.if_icmp .eq) 317 315 := ⟨5, by decide +kernel, by decide, rfl⟩
theorem dL_pieces_315 : ml_d cL_pieces 315 (.iconst 0) 1 316 := ⟨by decide +kernel, rfl⟩
theorem dL_pieces_316 : ml_d cL_pieces 316 (.ireturn) 1 317 := ⟨by decide +kernel, rfl⟩
theorem dL_pieces_317 : ml_d cL_pieces 317 (.iinc 9 1) 3 320 := ⟨by decide +kernel, rfl⟩
theorem dL_pieces_320 : ml_j cL_pieces 320 .goto 290 323 := ⟨(-30), by decide +kernel, by decide, rfl⟩
theorem dL_pieces_323 : ml_d cL_pieces 323 (.iinc 8 1) 3 326 := ⟨by decide +kernel, rfl⟩
theorem dL_pieces_326 : ml_j cL_pieces 326 .goto 281 329 := ⟨(-45), by decide +kernel, by decide, rfl⟩
theorem dL_pieces_329 : ml_d cL_pieces 329 (.iload 5) 2 331 := ⟨by decide +kernel, rfl⟩
theorem dL_pieces_331 : ml_d cL_pieces 331 (.iload 4) 2 333 := ⟨by decide +kernel, rfl⟩
theorem dL_pieces_333 : ml_j cL_pieces 333 (.if_icmp .ne) 350 336 := ⟨17, by decide +kernel, by decide, rfl⟩
theorem dL_pieces_336 : ml_d cL_pieces 336 (.iload 6) 2 338 := ⟨by decide +kernel, rfl⟩
theorem dL_pieces_338 : ml_d cL_pieces 338 (.iconst 1) 1 339 := ⟨by decide +kernel, rfl⟩
theorem dL_pieces_339 : ml_d cL_pieces 339 (.iload_n 3) 1 340 := ⟨by decide +kernel, rfl⟩
theorem dL_pieces_340 : ml_d cL_pieces 340 (.ishl) 1 341 := ⟨by decide +kernel, rfl⟩
theorem dL_pieces_341 : ml_d cL_pieces 341 (.iconst 1) 1 342 := ⟨by decide +kernel, rfl⟩
theorem dL_pieces_342 : ml_d cL_pieces 342 (.isub) 1 343 := ⟨by decide +kernel, rfl⟩
theorem dL_pieces_343 : ml_j cL_pieces 343 (.if_icmp .ne) 350 346 := ⟨7, by decide +kernel, by decide, rfl⟩
theorem dL_pieces_346 : ml_d cL_pieces 346 (.iconst 1) 1 347 := ⟨by decide +kernel, rfl⟩
theorem dL_pieces_347 : ml_j cL_pieces 347 .goto 351 350 := ⟨4, by decide +kernel, by decide, rfl⟩
theorem dL_pieces_350 : ml_d cL_pieces 350 (.iconst 0) 1 351 := ⟨by decide +kernel, rfl⟩
theorem dL_pieces_351 : ml_d cL_pieces 351 (.ireturn) 1 352 := ⟨by decide +kernel, rfl⟩
def fL_pieces_84 (sl : Nat) (sx : Nat → Int32) (k12 : Nat → Nat → Int32 → Int32 → ml_M → Option (Int32 × ml_M)) (l0 : Nat) (l1 : Nat) (l3 : Int32) (l4 : Int32) (l5 : Int32) (l6 : Int32) (t0 : Int32) (m : ml_M) : Option (Int32 × ml_M) :=
    if (ml_K m l0).1 = 10 then
    ml_b2 (fX10_bit l0 ((1 : Int32) + ((l5 / (81 : Int32)) - (l5 / (81 : Int32)) / (2 : Int32) * (2 : Int32))) (0 : Int32) l6 t0 m) fun r1865 m1866 =>
    if r1865 = l4 then
    if (ml_K m1866 l1).1 = 10 then
    ml_b2 (fX10_bit l1 ((1 : Int32) + ((l5 / (81 : Int32)) - (l5 / (81 : Int32)) / (2 : Int32) * (2 : Int32))) (0 : Int32) t0 l6 m1866) fun r1869 m1870 =>
    if r1869 = l4 then
    k12 l0 l1 l3 (l4 + (1 : Int32)) m1870
    else
    some ((0 : Int32), m1870)
    else none
    else
    some ((0 : Int32), m1866)
    else none
theorem vL_pieces_84 {E : ml_E} (hL : ml_eL E = 10) {rv : Int32} {rm : ml_M} (hr : ∀ (pc pc' : Nat) (lv : List (Nat × ml_X)), ml_d cL_pieces pc .ireturn 1 pc' → (rv = 0 ∨ rv = 1) → ml_V E "LostRoomLaw" cL_pieces 8 false rm pc lv [ml_i rv]) {k12 : Nat → Nat → Int32 → Int32 → ml_M → Option (Int32 × ml_M)} (hk12 : ∀ (l0 : Nat) (l1 : Nat) (l3 : Int32) (l4 : Int32) (m : ml_M), k12 l0 l1 l3 l4 m = some (rv, rm) → ml_V E "LostRoomLaw" cL_pieces 8 false m 12 [(0, ml_r l0), (1, ml_r l1), (2, ml_q (ml_sb (ml_eG E))), (3, ml_i l3), (4, ml_i l4)] []) : ∀ (l0 : Nat) (l1 : Nat) (l3 : Int32) (l4 : Int32) (l5 : Int32) (l6 : Int32) (t0 : Int32) (m : ml_M), fL_pieces_84 (ml_sl (ml_eG E)) (ml_sx (ml_eG E)) k12 l0 l1 l3 l4 l5 l6 t0 m = some (rv, rm) → ml_V E "LostRoomLaw" cL_pieces 8 false m 84 [(0, ml_r l0), (1, ml_r l1), (2, ml_q (ml_sb (ml_eG E))), (3, ml_i l3), (4, ml_i l4), (5, ml_i l5), (6, ml_i l6)] [ml_i t0] := by
  intro l0 l1 l3 l4 l5 l6 t0 m h
  unfold fL_pieces_84 at h
  exact ml_istore (lv' := [(7, ml_i t0), (0, ml_r l0), (1, ml_r l1), (2, ml_q (ml_sb (ml_eG E))), (3, ml_i l3), (4, ml_i l4), (5, ml_i l5), (6, ml_i l6)]) dL_pieces_84 (ml_hn hL rfl) rfl <| ml_aload_n dL_pieces_86 1 rfl <| ml_iconst dL_pieces_87 kc_i1 <| ml_iload dL_pieces_88 6 rfl <| ml_bipush dL_pieces_90 kc_b81 <| ml_idiv dL_pieces_92 (by decide) <| ml_iconst dL_pieces_93 kc_i2 <| ml_irem dL_pieces_94 (by decide) <| ml_iadd dL_pieces_95 <| ml_iconst dL_pieces_96 kc_i0 <| ml_iload dL_pieces_97 7 rfl <| ml_iload dL_pieces_99 0 rfl <| ml_ck_of h fun hc1864 h => ml_b2_of h fun r1865 m1866 hv1863 h => ml_callV dL_pieces_101 wm_491 wb_301 hc1864 (sX10_bit hv1863) rfl (Nat.le_of_ble_eq_true rfl) (Nat.le_of_ble_eq_true rfl) rfl <| ml_iload dL_pieces_104 5 rfl <| ml_icmp_ne dL_pieces_106 h (fun _ h => ml_iconst dL_pieces_132 kc_i0 <| ml_rI (mk := ml_i) hr dL_pieces_133 (fun e => Or.inl e.symm) h) (fun _ h => ml_aload_n dL_pieces_109 2 rfl <| ml_iconst dL_pieces_110 kc_i1 <| ml_iload dL_pieces_111 6 rfl <| ml_bipush dL_pieces_113 kc_b81 <| ml_idiv dL_pieces_115 (by decide) <| ml_iconst dL_pieces_116 kc_i2 <| ml_irem dL_pieces_117 (by decide) <| ml_iadd dL_pieces_118 <| ml_iconst dL_pieces_119 kc_i0 <| ml_iload dL_pieces_120 0 rfl <| ml_iload dL_pieces_122 7 rfl <| ml_ck_of h fun hc1868 h => ml_b2_of h fun r1869 m1870 hv1867 h => ml_callV dL_pieces_124 wm_491 wb_301 hc1868 (sX10_bit hv1867) rfl (Nat.le_of_ble_eq_true rfl) (Nat.le_of_ble_eq_true rfl) rfl <| ml_iload dL_pieces_127 5 rfl <| ml_icmp_eq dL_pieces_129 h (fun _ h => ml_iinc (lv' := [(4, ml_i (l4 + (1 : Int32))), (7, ml_i t0), (0, ml_r l0), (1, ml_r l1), (2, ml_q (ml_sb (ml_eG E))), (3, ml_i l3), (5, ml_i l5), (6, ml_i l6)]) dL_pieces_134 5 rfl (congrArg (l4 + ·) kc_i1) (ml_hn hL rfl) rfl <| ml_goto dL_pieces_137 <| ml_V.sub [2, 3, 4, 5, 0] rfl (hk12 _ _ _ _ _ h)) (fun _ h => ml_iconst dL_pieces_132 kc_i0 <| ml_rI (mk := ml_i) hr dL_pieces_133 (fun e => Or.inl e.symm) h))
def fL_pieces_54 (sl : Nat) (sx : Nat → Int32) (k12 : Nat → Nat → Int32 → Int32 → ml_M → Option (Int32 × ml_M)) (l0 : Nat) (l1 : Nat) (l3 : Int32) (l4 : Int32) (l5 : Int32) (t0 : Int32) (m : ml_M) : Option (Int32 × ml_M) :=
    if ((l5 / (9 : Int32)) - (l5 / (9 : Int32)) / (3 : Int32) * (3 : Int32)) = 0 then
    fL_pieces_84 sl sx k12 l0 l1 l3 l4 l5 t0 (0 : Int32) m
    else
    fL_pieces_84 sl sx k12 l0 l1 l3 l4 l5 t0 ((400 : Int32) + ((100 : Int32) * ((l5 / (27 : Int32)) - (l5 / (27 : Int32)) / (3 : Int32) * (3 : Int32)))) m
theorem vL_pieces_54 {E : ml_E} (hL : ml_eL E = 10) {rv : Int32} {rm : ml_M} (hr : ∀ (pc pc' : Nat) (lv : List (Nat × ml_X)), ml_d cL_pieces pc .ireturn 1 pc' → (rv = 0 ∨ rv = 1) → ml_V E "LostRoomLaw" cL_pieces 8 false rm pc lv [ml_i rv]) {k12 : Nat → Nat → Int32 → Int32 → ml_M → Option (Int32 × ml_M)} (hk12 : ∀ (l0 : Nat) (l1 : Nat) (l3 : Int32) (l4 : Int32) (m : ml_M), k12 l0 l1 l3 l4 m = some (rv, rm) → ml_V E "LostRoomLaw" cL_pieces 8 false m 12 [(0, ml_r l0), (1, ml_r l1), (2, ml_q (ml_sb (ml_eG E))), (3, ml_i l3), (4, ml_i l4)] []) : ∀ (l0 : Nat) (l1 : Nat) (l3 : Int32) (l4 : Int32) (l5 : Int32) (t0 : Int32) (m : ml_M), fL_pieces_54 (ml_sl (ml_eG E)) (ml_sx (ml_eG E)) k12 l0 l1 l3 l4 l5 t0 m = some (rv, rm) → ml_V E "LostRoomLaw" cL_pieces 8 false m 54 [(0, ml_r l0), (1, ml_r l1), (2, ml_q (ml_sb (ml_eG E))), (3, ml_i l3), (4, ml_i l4), (5, ml_i l5)] [ml_i t0] := by
  intro l0 l1 l3 l4 l5 t0 m h
  unfold fL_pieces_54 at h
  exact ml_istore (lv' := [(6, ml_i t0), (0, ml_r l0), (1, ml_r l1), (2, ml_q (ml_sb (ml_eG E))), (3, ml_i l3), (4, ml_i l4), (5, ml_i l5)]) dL_pieces_54 (ml_hn hL rfl) rfl <| ml_iload dL_pieces_56 6 rfl <| ml_bipush dL_pieces_58 kc_b9 <| ml_idiv dL_pieces_60 (by decide) <| ml_iconst dL_pieces_61 kc_i3 <| ml_irem dL_pieces_62 (by decide) <| ml_if_ne dL_pieces_63 h (fun _ h => ml_sipush dL_pieces_70 kc_s400 <| ml_bipush dL_pieces_73 kc_b100 <| ml_iload dL_pieces_75 6 rfl <| ml_bipush dL_pieces_77 kc_b27 <| ml_idiv dL_pieces_79 (by decide) <| ml_iconst dL_pieces_80 kc_i3 <| ml_irem dL_pieces_81 (by decide) <| ml_imul dL_pieces_82 <| ml_iadd dL_pieces_83 <| ml_V.sub [1, 2, 3, 4, 5, 6, 0] rfl (vL_pieces_84 hL hr hk12 _ _ _ _ _ _ _ _ h)) (fun _ h => ml_iconst dL_pieces_66 kc_i0 <| ml_goto dL_pieces_67 <| ml_V.sub [1, 2, 3, 4, 5, 6, 0] rfl (vL_pieces_84 hL hr hk12 _ _ _ _ _ _ _ _ h))
def fL_pieces_256 (sl : Nat) (sx : Nat → Int32) (k206 : Nat → Nat → Int32 → Int32 → Int32 → Int32 → Int32 → Int32 → ml_M → Option (Int32 × ml_M)) (l0 : Nat) (l1 : Nat) (l3 : Int32) (l4 : Int32) (l6 : Int32) (l8 : Int32) (l9 : Int32) (t0 : Int32) (t1 : Int32) (m : ml_M) : Option (Int32 × ml_M) :=
    ml_let (t1 + t0) fun x1871 =>
    ml_let (l6 ||| ((1 : Int32) <<< (l9 &&& 31))) fun x1872 =>
    k206 l0 l1 l3 l4 x1871 x1872 l9 (l8 + (1 : Int32)) m
theorem vL_pieces_256 {E : ml_E} (hL : ml_eL E = 10) {rv : Int32} {rm : ml_M} (hr : ∀ (pc pc' : Nat) (lv : List (Nat × ml_X)), ml_d cL_pieces pc .ireturn 1 pc' → (rv = 0 ∨ rv = 1) → ml_V E "LostRoomLaw" cL_pieces 8 false rm pc lv [ml_i rv]) {k206 : Nat → Nat → Int32 → Int32 → Int32 → Int32 → Int32 → Int32 → ml_M → Option (Int32 × ml_M)} (hk206 : ∀ (l0 : Nat) (l1 : Nat) (l3 : Int32) (l4 : Int32) (l5 : Int32) (l6 : Int32) (l7 : Int32) (l8 : Int32) (m : ml_M), k206 l0 l1 l3 l4 l5 l6 l7 l8 m = some (rv, rm) → ml_V E "LostRoomLaw" cL_pieces 8 false m 206 [(0, ml_r l0), (1, ml_r l1), (2, ml_q (ml_sb (ml_eG E))), (3, ml_i l3), (4, ml_i l4), (5, ml_i l5), (6, ml_i l6), (7, ml_i l7), (8, ml_i l8)] []) : ∀ (l0 : Nat) (l1 : Nat) (l3 : Int32) (l4 : Int32) (l6 : Int32) (l8 : Int32) (l9 : Int32) (t0 : Int32) (t1 : Int32) (m : ml_M), fL_pieces_256 (ml_sl (ml_eG E)) (ml_sx (ml_eG E)) k206 l0 l1 l3 l4 l6 l8 l9 t0 t1 m = some (rv, rm) → ml_V E "LostRoomLaw" cL_pieces 8 false m 256 [(0, ml_r l0), (1, ml_r l1), (2, ml_q (ml_sb (ml_eG E))), (3, ml_i l3), (4, ml_i l4), (6, ml_i l6), (8, ml_i l8), (9, ml_i l9)] [ml_i t0, ml_i t1] := by
  intro l0 l1 l3 l4 l6 l8 l9 t0 t1 m h
  unfold fL_pieces_256 at h
  exact ml_iadd dL_pieces_256 <| ml_lx (mk := ml_i) h fun x1871 h => ml_istore (lv' := [(5, ml_i x1871), (0, ml_r l0), (1, ml_r l1), (2, ml_q (ml_sb (ml_eG E))), (3, ml_i l3), (4, ml_i l4), (6, ml_i l6), (8, ml_i l8), (9, ml_i l9)]) dL_pieces_257 (ml_hn hL rfl) rfl <| ml_iload dL_pieces_259 6 rfl <| ml_iconst dL_pieces_261 kc_i1 <| ml_iload dL_pieces_262 8 rfl <| ml_ishl dL_pieces_264 <| ml_ior dL_pieces_265 <| ml_lx (mk := ml_i) h fun x1872 h => ml_istore (lv' := [(6, ml_i x1872), (5, ml_i x1871), (0, ml_r l0), (1, ml_r l1), (2, ml_q (ml_sb (ml_eG E))), (3, ml_i l3), (4, ml_i l4), (8, ml_i l8), (9, ml_i l9)]) dL_pieces_266 (ml_hn hL rfl) rfl <| ml_iload dL_pieces_268 8 rfl <| ml_istore (lv' := [(7, ml_i l9), (6, ml_i x1872), (5, ml_i x1871), (0, ml_r l0), (1, ml_r l1), (2, ml_q (ml_sb (ml_eG E))), (3, ml_i l3), (4, ml_i l4), (8, ml_i l8), (9, ml_i l9)]) dL_pieces_270 (ml_hn hL rfl) rfl <| ml_iinc (lv' := [(8, ml_i (l8 + (1 : Int32))), (7, ml_i l9), (6, ml_i x1872), (5, ml_i x1871), (0, ml_r l0), (1, ml_r l1), (2, ml_q (ml_sb (ml_eG E))), (3, ml_i l3), (4, ml_i l4), (9, ml_i l9)]) dL_pieces_272 8 rfl (congrArg (l8 + ·) kc_i1) (ml_hn hL rfl) rfl <| ml_goto dL_pieces_275 <| ml_V.sub [4, 5, 6, 7, 8, 3, 2, 1, 0] rfl (hk206 _ _ _ _ _ _ _ _ _ h)
def fL_pieces_255 (sl : Nat) (sx : Nat → Int32) (k206 : Nat → Nat → Int32 → Int32 → Int32 → Int32 → Int32 → Int32 → ml_M → Option (Int32 × ml_M)) (l0 : Nat) (l1 : Nat) (l3 : Int32) (l4 : Int32) (l6 : Int32) (l8 : Int32) (l9 : Int32) (t0 : Int32) (m : ml_M) : Option (Int32 × ml_M) :=
    fL_pieces_256 sl sx k206 l0 l1 l3 l4 l6 l8 l9 (0 : Int32) t0 m
theorem vL_pieces_255 {E : ml_E} (hL : ml_eL E = 10) {rv : Int32} {rm : ml_M} (hr : ∀ (pc pc' : Nat) (lv : List (Nat × ml_X)), ml_d cL_pieces pc .ireturn 1 pc' → (rv = 0 ∨ rv = 1) → ml_V E "LostRoomLaw" cL_pieces 8 false rm pc lv [ml_i rv]) {k206 : Nat → Nat → Int32 → Int32 → Int32 → Int32 → Int32 → Int32 → ml_M → Option (Int32 × ml_M)} (hk206 : ∀ (l0 : Nat) (l1 : Nat) (l3 : Int32) (l4 : Int32) (l5 : Int32) (l6 : Int32) (l7 : Int32) (l8 : Int32) (m : ml_M), k206 l0 l1 l3 l4 l5 l6 l7 l8 m = some (rv, rm) → ml_V E "LostRoomLaw" cL_pieces 8 false m 206 [(0, ml_r l0), (1, ml_r l1), (2, ml_q (ml_sb (ml_eG E))), (3, ml_i l3), (4, ml_i l4), (5, ml_i l5), (6, ml_i l6), (7, ml_i l7), (8, ml_i l8)] []) : ∀ (l0 : Nat) (l1 : Nat) (l3 : Int32) (l4 : Int32) (l6 : Int32) (l8 : Int32) (l9 : Int32) (t0 : Int32) (m : ml_M), fL_pieces_255 (ml_sl (ml_eG E)) (ml_sx (ml_eG E)) k206 l0 l1 l3 l4 l6 l8 l9 t0 m = some (rv, rm) → ml_V E "LostRoomLaw" cL_pieces 8 false m 255 [(0, ml_r l0), (1, ml_r l1), (2, ml_q (ml_sb (ml_eG E))), (3, ml_i l3), (4, ml_i l4), (6, ml_i l6), (8, ml_i l8), (9, ml_i l9)] [ml_i t0] := by
  intro l0 l1 l3 l4 l6 l8 l9 t0 m h
  unfold fL_pieces_255 at h
  exact ml_iconst dL_pieces_255 kc_i0 <| ml_V.sub [0, 1, 2, 3, 4, 5, 6, 7] rfl (vL_pieces_256 hL hr hk206 _ _ _ _ _ _ _ _ _ _ h)
def fL_pieces_231 (sl : Nat) (sx : Nat → Int32) (k206 : Nat → Nat → Int32 → Int32 → Int32 → Int32 → Int32 → Int32 → ml_M → Option (Int32 × ml_M)) (l0 : Nat) (l1 : Nat) (l3 : Int32) (l4 : Int32) (l5 : Int32) (l6 : Int32) (l7 : Int32) (l8 : Int32) (t0 : Int32) (m : ml_M) : Option (Int32 × ml_M) :=
    if l7 < 0 then
    fL_pieces_255 sl sx k206 l0 l1 l3 l4 l6 l8 t0 l5 m
    else
    if (ml_K m l0).1 = 10 then
    ml_b1 (fX10_joins l0 l7 t0 m) fun r1875 =>
    if r1875 = 0 then
    fL_pieces_256 sl sx k206 l0 l1 l3 l4 l6 l8 t0 (1 : Int32) l5 m
    else
    fL_pieces_255 sl sx k206 l0 l1 l3 l4 l6 l8 t0 l5 m
    else none
theorem vL_pieces_231 {E : ml_E} (hL : ml_eL E = 10) {rv : Int32} {rm : ml_M} (hr : ∀ (pc pc' : Nat) (lv : List (Nat × ml_X)), ml_d cL_pieces pc .ireturn 1 pc' → (rv = 0 ∨ rv = 1) → ml_V E "LostRoomLaw" cL_pieces 8 false rm pc lv [ml_i rv]) {k206 : Nat → Nat → Int32 → Int32 → Int32 → Int32 → Int32 → Int32 → ml_M → Option (Int32 × ml_M)} (hk206 : ∀ (l0 : Nat) (l1 : Nat) (l3 : Int32) (l4 : Int32) (l5 : Int32) (l6 : Int32) (l7 : Int32) (l8 : Int32) (m : ml_M), k206 l0 l1 l3 l4 l5 l6 l7 l8 m = some (rv, rm) → ml_V E "LostRoomLaw" cL_pieces 8 false m 206 [(0, ml_r l0), (1, ml_r l1), (2, ml_q (ml_sb (ml_eG E))), (3, ml_i l3), (4, ml_i l4), (5, ml_i l5), (6, ml_i l6), (7, ml_i l7), (8, ml_i l8)] []) : ∀ (l0 : Nat) (l1 : Nat) (l3 : Int32) (l4 : Int32) (l5 : Int32) (l6 : Int32) (l7 : Int32) (l8 : Int32) (t0 : Int32) (m : ml_M), fL_pieces_231 (ml_sl (ml_eG E)) (ml_sx (ml_eG E)) k206 l0 l1 l3 l4 l5 l6 l7 l8 t0 m = some (rv, rm) → ml_V E "LostRoomLaw" cL_pieces 8 false m 231 [(0, ml_r l0), (1, ml_r l1), (2, ml_q (ml_sb (ml_eG E))), (3, ml_i l3), (4, ml_i l4), (5, ml_i l5), (6, ml_i l6), (7, ml_i l7), (8, ml_i l8)] [ml_i t0] := by
  intro l0 l1 l3 l4 l5 l6 l7 l8 t0 m h
  unfold fL_pieces_231 at h
  exact ml_istore (lv' := [(9, ml_i t0), (0, ml_r l0), (1, ml_r l1), (2, ml_q (ml_sb (ml_eG E))), (3, ml_i l3), (4, ml_i l4), (5, ml_i l5), (6, ml_i l6), (7, ml_i l7), (8, ml_i l8)]) dL_pieces_231 (ml_hn hL rfl) rfl <| ml_iload dL_pieces_233 6 rfl <| ml_iload dL_pieces_235 8 rfl <| ml_if_lt dL_pieces_237 h (fun _ h => ml_V.sub [1, 2, 3, 4, 5, 7, 9, 0] rfl (vL_pieces_255 hL hr hk206 _ _ _ _ _ _ _ _ _ h)) (fun _ h => ml_aload_n dL_pieces_240 1 rfl <| ml_iload dL_pieces_241 8 rfl <| ml_iload dL_pieces_243 0 rfl <| ml_ck_of h fun hc1874 h => ml_b1_of h fun r1875 hv1873 h => ml_callV dL_pieces_245 wm_495 wb_302 hc1874 (sX10_joins hv1873) rfl (Nat.le_of_ble_eq_true rfl) (Nat.le_of_ble_eq_true rfl) rfl <| ml_if_ne dL_pieces_248 h (fun _ h => ml_V.sub [1, 2, 3, 4, 5, 7, 9, 0] rfl (vL_pieces_255 hL hr hk206 _ _ _ _ _ _ _ _ _ h)) (fun _ h => ml_iconst dL_pieces_251 kc_i1 <| ml_goto dL_pieces_252 <| ml_V.sub [1, 2, 3, 4, 5, 7, 9, 0] rfl (vL_pieces_256 hL hr hk206 _ _ _ _ _ _ _ _ _ _ h)))
def fL_pieces_323 (sl : Nat) (sx : Nat → Int32) (k281 : Nat → Nat → Int32 → Int32 → Int32 → Int32 → Int32 → ml_M → Option (Int32 × ml_M)) (l0 : Nat) (l1 : Nat) (l3 : Int32) (l4 : Int32) (l5 : Int32) (l6 : Int32) (l8 : Int32) (m : ml_M) : Option (Int32 × ml_M) :=
    k281 l0 l1 l3 l4 l5 l6 (l8 + (1 : Int32)) m
theorem vL_pieces_323 {E : ml_E} (hL : ml_eL E = 10) {rv : Int32} {rm : ml_M} (hr : ∀ (pc pc' : Nat) (lv : List (Nat × ml_X)), ml_d cL_pieces pc .ireturn 1 pc' → (rv = 0 ∨ rv = 1) → ml_V E "LostRoomLaw" cL_pieces 8 false rm pc lv [ml_i rv]) {k281 : Nat → Nat → Int32 → Int32 → Int32 → Int32 → Int32 → ml_M → Option (Int32 × ml_M)} (hk281 : ∀ (l0 : Nat) (l1 : Nat) (l3 : Int32) (l4 : Int32) (l5 : Int32) (l6 : Int32) (l8 : Int32) (m : ml_M), k281 l0 l1 l3 l4 l5 l6 l8 m = some (rv, rm) → ml_V E "LostRoomLaw" cL_pieces 8 false m 281 [(0, ml_r l0), (1, ml_r l1), (2, ml_q (ml_sb (ml_eG E))), (3, ml_i l3), (4, ml_i l4), (5, ml_i l5), (6, ml_i l6), (8, ml_i l8)] []) : ∀ (l0 : Nat) (l1 : Nat) (l3 : Int32) (l4 : Int32) (l5 : Int32) (l6 : Int32) (l8 : Int32) (m : ml_M), fL_pieces_323 (ml_sl (ml_eG E)) (ml_sx (ml_eG E)) k281 l0 l1 l3 l4 l5 l6 l8 m = some (rv, rm) → ml_V E "LostRoomLaw" cL_pieces 8 false m 323 [(0, ml_r l0), (1, ml_r l1), (2, ml_q (ml_sb (ml_eG E))), (3, ml_i l3), (4, ml_i l4), (5, ml_i l5), (6, ml_i l6), (8, ml_i l8)] [] := by
  intro l0 l1 l3 l4 l5 l6 l8 m h
  unfold fL_pieces_323 at h
  exact ml_iinc (lv' := [(8, ml_i (l8 + (1 : Int32))), (0, ml_r l0), (1, ml_r l1), (2, ml_q (ml_sb (ml_eG E))), (3, ml_i l3), (4, ml_i l4), (5, ml_i l5), (6, ml_i l6)]) dL_pieces_323 7 rfl (congrArg (l8 + ·) kc_i1) (ml_hn hL rfl) rfl <| ml_goto dL_pieces_326 <| ml_V.sub [1, 2, 3, 4, 5, 6, 7, 0] rfl (hk281 _ _ _ _ _ _ _ _ h)
def fL_pieces_290 (sl : Nat) (sx : Nat → Int32) (k281 : Nat → Nat → Int32 → Int32 → Int32 → Int32 → Int32 → ml_M → Option (Int32 × ml_M)) : Nat → Nat → Nat → Int32 → Int32 → Int32 → Int32 → Int32 → Int32 → ml_M → Option (Int32 × ml_M)
  | 0, _, _, _, _, _, _, _, _, _ => none
  | fu + 1, l0, l1, l3, l4, l5, l6, l8, l9, m =>
    if l3 ≤ l9 then
    fL_pieces_323 sl sx k281 l0 l1 l3 l4 l5 l6 l8 m
    else
    if (ml_K m l0).1 = 10 then
    ml_b1 (fX10_joins l0 l8 l9 m) fun r1878 =>
    if (ml_K m l1).1 = 10 then
    ml_b1 (fX10_joins l1 l9 l8 m) fun r1881 =>
    if r1878 = r1881 then
    (fL_pieces_290 sl sx k281 fu) l0 l1 l3 l4 l5 l6 l8 (l9 + (1 : Int32)) m
    else
    some ((0 : Int32), m)
    else none
    else none
theorem vL_pieces_290 {E : ml_E} (hL : ml_eL E = 10) {rv : Int32} {rm : ml_M} (hr : ∀ (pc pc' : Nat) (lv : List (Nat × ml_X)), ml_d cL_pieces pc .ireturn 1 pc' → (rv = 0 ∨ rv = 1) → ml_V E "LostRoomLaw" cL_pieces 8 false rm pc lv [ml_i rv]) {k281 : Nat → Nat → Int32 → Int32 → Int32 → Int32 → Int32 → ml_M → Option (Int32 × ml_M)} (hk281 : ∀ (l0 : Nat) (l1 : Nat) (l3 : Int32) (l4 : Int32) (l5 : Int32) (l6 : Int32) (l8 : Int32) (m : ml_M), k281 l0 l1 l3 l4 l5 l6 l8 m = some (rv, rm) → ml_V E "LostRoomLaw" cL_pieces 8 false m 281 [(0, ml_r l0), (1, ml_r l1), (2, ml_q (ml_sb (ml_eG E))), (3, ml_i l3), (4, ml_i l4), (5, ml_i l5), (6, ml_i l6), (8, ml_i l8)] []) : ∀ (fu : Nat) (l0 : Nat) (l1 : Nat) (l3 : Int32) (l4 : Int32) (l5 : Int32) (l6 : Int32) (l8 : Int32) (l9 : Int32) (m : ml_M), fL_pieces_290 (ml_sl (ml_eG E)) (ml_sx (ml_eG E)) k281 fu l0 l1 l3 l4 l5 l6 l8 l9 m = some (rv, rm) → ml_V E "LostRoomLaw" cL_pieces 8 false m 290 [(0, ml_r l0), (1, ml_r l1), (2, ml_q (ml_sb (ml_eG E))), (3, ml_i l3), (4, ml_i l4), (5, ml_i l5), (6, ml_i l6), (8, ml_i l8), (9, ml_i l9)] [] := by
  intro fu
  induction fu with
  | zero => intro l0 l1 l3 l4 l5 l6 l8 l9 m h; exact ml_none h
  | succ fu ih =>
    intro l0 l1 l3 l4 l5 l6 l8 l9 m h
    have hk290 := ih
    unfold fL_pieces_290 at h
    exact ml_iload dL_pieces_290 8 rfl <| ml_iload_n dL_pieces_292 3 rfl <| ml_icmp_ge dL_pieces_293 h (fun _ h => ml_V.sub [0, 1, 2, 3, 4, 5, 6, 7] rfl (vL_pieces_323 hL hr hk281 _ _ _ _ _ _ _ _ h)) (fun _ h => ml_aload_n dL_pieces_296 0 rfl <| ml_iload dL_pieces_297 7 rfl <| ml_iload dL_pieces_299 8 rfl <| ml_ck_of h fun hc1877 h => ml_b1_of h fun r1878 hv1876 h => ml_callV dL_pieces_301 wm_495 wb_302 hc1877 (sX10_joins hv1876) rfl (Nat.le_of_ble_eq_true rfl) (Nat.le_of_ble_eq_true rfl) rfl <| ml_aload_n dL_pieces_304 1 rfl <| ml_iload dL_pieces_305 8 rfl <| ml_iload dL_pieces_307 7 rfl <| ml_ck_of h fun hc1880 h => ml_b1_of h fun r1881 hv1879 h => ml_callV dL_pieces_309 wm_495 wb_302 hc1880 (sX10_joins hv1879) rfl (Nat.le_of_ble_eq_true rfl) (Nat.le_of_ble_eq_true rfl) rfl <| ml_icmp_eq dL_pieces_312 h (fun _ h => ml_iinc (lv' := [(9, ml_i (l9 + (1 : Int32))), (0, ml_r l0), (1, ml_r l1), (2, ml_q (ml_sb (ml_eG E))), (3, ml_i l3), (4, ml_i l4), (5, ml_i l5), (6, ml_i l6), (8, ml_i l8)]) dL_pieces_317 8 rfl (congrArg (l9 + ·) kc_i1) (ml_hn hL rfl) rfl <| ml_goto dL_pieces_320 <| ml_V.sub [1, 2, 3, 4, 5, 6, 7, 8, 0] rfl (hk290 _ _ _ _ _ _ _ _ _ h)) (fun _ h => ml_iconst dL_pieces_315 kc_i0 <| ml_rI (mk := ml_i) hr dL_pieces_316 (fun e => Or.inl e.symm) h))
def fL_pieces_329 (sl : Nat) (sx : Nat → Int32) (l3 : Int32) (l4 : Int32) (l5 : Int32) (l6 : Int32) (m : ml_M) : Option (Int32 × ml_M) :=
    if l5 = l4 then
    if l6 = (((1 : Int32) <<< (l3 &&& 31)) - (1 : Int32)) then
    some ((1 : Int32), m)
    else
    some ((0 : Int32), m)
    else
    some ((0 : Int32), m)
theorem vL_pieces_329 {E : ml_E} (hL : ml_eL E = 10) {rv : Int32} {rm : ml_M} (hr : ∀ (pc pc' : Nat) (lv : List (Nat × ml_X)), ml_d cL_pieces pc .ireturn 1 pc' → (rv = 0 ∨ rv = 1) → ml_V E "LostRoomLaw" cL_pieces 8 false rm pc lv [ml_i rv]) : ∀ (l3 : Int32) (l4 : Int32) (l5 : Int32) (l6 : Int32) (m : ml_M), fL_pieces_329 (ml_sl (ml_eG E)) (ml_sx (ml_eG E)) l3 l4 l5 l6 m = some (rv, rm) → ml_V E "LostRoomLaw" cL_pieces 8 false m 329 [(2, ml_q (ml_sb (ml_eG E))), (3, ml_i l3), (4, ml_i l4), (5, ml_i l5), (6, ml_i l6)] [] := by
  intro l3 l4 l5 l6 m h
  unfold fL_pieces_329 at h
  exact ml_iload dL_pieces_329 3 rfl <| ml_iload dL_pieces_331 2 rfl <| ml_icmp_ne dL_pieces_333 h (fun _ h => ml_iconst dL_pieces_350 kc_i0 <| ml_rI (mk := ml_i) hr dL_pieces_351 (fun e => Or.inl e.symm) h) (fun _ h => ml_iload dL_pieces_336 4 rfl <| ml_iconst dL_pieces_338 kc_i1 <| ml_iload_n dL_pieces_339 1 rfl <| ml_ishl dL_pieces_340 <| ml_iconst dL_pieces_341 kc_i1 <| ml_isub dL_pieces_342 <| ml_icmp_ne dL_pieces_343 h (fun _ h => ml_iconst dL_pieces_350 kc_i0 <| ml_rI (mk := ml_i) hr dL_pieces_351 (fun e => Or.inl e.symm) h) (fun _ h => ml_iconst dL_pieces_346 kc_i1 <| ml_goto dL_pieces_347 <| ml_rI (mk := ml_i) hr dL_pieces_351 (fun e => Or.inr e.symm) h))
def fL_pieces_281 (sl : Nat) (sx : Nat → Int32) : Nat → Nat → Nat → Int32 → Int32 → Int32 → Int32 → Int32 → ml_M → Option (Int32 × ml_M)
  | 0, _, _, _, _, _, _, _, _ => none
  | fu + 1, l0, l1, l3, l4, l5, l6, l8, m =>
    if l3 ≤ l8 then
    fL_pieces_329 sl sx l3 l4 l5 l6 m
    else
    fL_pieces_290 sl sx (fL_pieces_281 sl sx fu) ml_fu l0 l1 l3 l4 l5 l6 l8 (0 : Int32) m
theorem vL_pieces_281 {E : ml_E} (hL : ml_eL E = 10) {rv : Int32} {rm : ml_M} (hr : ∀ (pc pc' : Nat) (lv : List (Nat × ml_X)), ml_d cL_pieces pc .ireturn 1 pc' → (rv = 0 ∨ rv = 1) → ml_V E "LostRoomLaw" cL_pieces 8 false rm pc lv [ml_i rv]) : ∀ (fu : Nat) (l0 : Nat) (l1 : Nat) (l3 : Int32) (l4 : Int32) (l5 : Int32) (l6 : Int32) (l8 : Int32) (m : ml_M), fL_pieces_281 (ml_sl (ml_eG E)) (ml_sx (ml_eG E)) fu l0 l1 l3 l4 l5 l6 l8 m = some (rv, rm) → ml_V E "LostRoomLaw" cL_pieces 8 false m 281 [(0, ml_r l0), (1, ml_r l1), (2, ml_q (ml_sb (ml_eG E))), (3, ml_i l3), (4, ml_i l4), (5, ml_i l5), (6, ml_i l6), (8, ml_i l8)] [] := by
  intro fu
  induction fu with
  | zero => intro l0 l1 l3 l4 l5 l6 l8 m h; exact ml_none h
  | succ fu ih =>
    intro l0 l1 l3 l4 l5 l6 l8 m h
    have hk281 := ih
    unfold fL_pieces_281 at h
    exact ml_iload dL_pieces_281 7 rfl <| ml_iload_n dL_pieces_283 3 rfl <| ml_icmp_ge dL_pieces_284 h (fun _ h => ml_V.sub [2, 3, 4, 5, 6] rfl (vL_pieces_329 hL hr  _ _ _ _ _ h)) (fun _ h => ml_iconst dL_pieces_287 kc_i0 <| ml_istore (lv' := [(9, ml_i (0 : Int32)), (0, ml_r l0), (1, ml_r l1), (2, ml_q (ml_sb (ml_eG E))), (3, ml_i l3), (4, ml_i l4), (5, ml_i l5), (6, ml_i l6), (8, ml_i l8)]) dL_pieces_288 (ml_hn hL rfl) rfl <| ml_V.sub [1, 2, 3, 4, 5, 6, 7, 8, 0] rfl (vL_pieces_290 hL hr hk281 ml_fu _ _ _ _ _ _ _ _ _ h))
def fL_pieces_278 (sl : Nat) (sx : Nat → Int32) (l0 : Nat) (l1 : Nat) (l3 : Int32) (l4 : Int32) (l5 : Int32) (l6 : Int32) (m : ml_M) : Option (Int32 × ml_M) :=
    fL_pieces_281 sl sx ml_fu l0 l1 l3 l4 l5 l6 (0 : Int32) m
theorem vL_pieces_278 {E : ml_E} (hL : ml_eL E = 10) {rv : Int32} {rm : ml_M} (hr : ∀ (pc pc' : Nat) (lv : List (Nat × ml_X)), ml_d cL_pieces pc .ireturn 1 pc' → (rv = 0 ∨ rv = 1) → ml_V E "LostRoomLaw" cL_pieces 8 false rm pc lv [ml_i rv]) : ∀ (l0 : Nat) (l1 : Nat) (l3 : Int32) (l4 : Int32) (l5 : Int32) (l6 : Int32) (m : ml_M), fL_pieces_278 (ml_sl (ml_eG E)) (ml_sx (ml_eG E)) l0 l1 l3 l4 l5 l6 m = some (rv, rm) → ml_V E "LostRoomLaw" cL_pieces 8 false m 278 [(0, ml_r l0), (1, ml_r l1), (2, ml_q (ml_sb (ml_eG E))), (3, ml_i l3), (4, ml_i l4), (5, ml_i l5), (6, ml_i l6)] [] := by
  intro l0 l1 l3 l4 l5 l6 m h
  unfold fL_pieces_278 at h
  exact ml_iconst dL_pieces_278 kc_i0 <| ml_istore (lv' := [(8, ml_i (0 : Int32)), (0, ml_r l0), (1, ml_r l1), (2, ml_q (ml_sb (ml_eG E))), (3, ml_i l3), (4, ml_i l4), (5, ml_i l5), (6, ml_i l6)]) dL_pieces_279 (ml_hn hL rfl) rfl <| ml_V.sub [1, 2, 3, 4, 5, 6, 7, 0] rfl (vL_pieces_281 hL hr  ml_fu _ _ _ _ _ _ _ _ h)
def fL_pieces_206 (sl : Nat) (sx : Nat → Int32) : Nat → Nat → Nat → Int32 → Int32 → Int32 → Int32 → Int32 → Int32 → ml_M → Option (Int32 × ml_M)
  | 0, _, _, _, _, _, _, _, _, _ => none
  | fu + 1, l0, l1, l3, l4, l5, l6, l7, l8, m =>
    if l3 ≤ l8 then
    fL_pieces_278 sl sx l0 l1 l3 l4 l5 l6 m
    else
    if (ml_K m l0).1 = 10 then
    ml_b2 (fX10_at l0 (4 : Int32) l8 m) fun r1884 m1885 =>
    if r1884 = (1 : Int32) then
    if (ml_K m1885 l0).1 = 10 then
    ml_b1 (fX10_asked l0 m1885) fun r1888 =>
    fL_pieces_231 sl sx (fL_pieces_206 sl sx fu) l0 l1 l3 l4 l5 l6 l7 l8 r1888 m1885
    else none
    else
    fL_pieces_231 sl sx (fL_pieces_206 sl sx fu) l0 l1 l3 l4 l5 l6 l7 l8 (-1 : Int32) m1885
    else none
theorem vL_pieces_206 {E : ml_E} (hL : ml_eL E = 10) {rv : Int32} {rm : ml_M} (hr : ∀ (pc pc' : Nat) (lv : List (Nat × ml_X)), ml_d cL_pieces pc .ireturn 1 pc' → (rv = 0 ∨ rv = 1) → ml_V E "LostRoomLaw" cL_pieces 8 false rm pc lv [ml_i rv]) : ∀ (fu : Nat) (l0 : Nat) (l1 : Nat) (l3 : Int32) (l4 : Int32) (l5 : Int32) (l6 : Int32) (l7 : Int32) (l8 : Int32) (m : ml_M), fL_pieces_206 (ml_sl (ml_eG E)) (ml_sx (ml_eG E)) fu l0 l1 l3 l4 l5 l6 l7 l8 m = some (rv, rm) → ml_V E "LostRoomLaw" cL_pieces 8 false m 206 [(0, ml_r l0), (1, ml_r l1), (2, ml_q (ml_sb (ml_eG E))), (3, ml_i l3), (4, ml_i l4), (5, ml_i l5), (6, ml_i l6), (7, ml_i l7), (8, ml_i l8)] [] := by
  intro fu
  induction fu with
  | zero => intro l0 l1 l3 l4 l5 l6 l7 l8 m h; exact ml_none h
  | succ fu ih =>
    intro l0 l1 l3 l4 l5 l6 l7 l8 m h
    have hk206 := ih
    unfold fL_pieces_206 at h
    exact ml_iload dL_pieces_206 8 rfl <| ml_iload_n dL_pieces_208 3 rfl <| ml_icmp_ge dL_pieces_209 h (fun _ h => ml_V.sub [0, 1, 2, 3, 4, 5, 6] rfl (vL_pieces_278 hL hr  _ _ _ _ _ _ _ h)) (fun _ h => ml_aload_n dL_pieces_212 0 rfl <| ml_iconst dL_pieces_213 kc_i4 <| ml_iload dL_pieces_214 8 rfl <| ml_ck_of h fun hc1883 h => ml_b2_of h fun r1884 m1885 hv1882 h => ml_callV dL_pieces_216 wm_499 wb_303 hc1883 (sX10_at hv1882) rfl (Nat.le_of_ble_eq_true rfl) (Nat.le_of_ble_eq_true rfl) rfl <| ml_iconst dL_pieces_219 kc_i1 <| ml_icmp_ne dL_pieces_220 h (fun _ h => ml_iconst dL_pieces_230 kc_im1 <| ml_V.sub [0, 1, 2, 3, 4, 5, 6, 7, 8] rfl (vL_pieces_231 hL hr hk206 _ _ _ _ _ _ _ _ _ _ h)) (fun _ h => ml_aload_n dL_pieces_223 0 rfl <| ml_ck_of h fun hc1887 h => ml_b1_of h fun r1888 hv1886 h => ml_callV dL_pieces_224 wm_179 wb_91 hc1887 (sX10_asked hv1886) rfl (Nat.le_of_ble_eq_true rfl) (Nat.le_of_ble_eq_true rfl) rfl <| ml_goto dL_pieces_227 <| ml_V.sub [0, 1, 2, 3, 4, 5, 6, 7, 8] rfl (vL_pieces_231 hL hr hk206 _ _ _ _ _ _ _ _ _ _ h)))
def fL_pieces_195 (sl : Nat) (sx : Nat → Int32) (l0 : Nat) (l1 : Nat) (l3 : Int32) (l4 : Int32) (t0 : Int32) (m : ml_M) : Option (Int32 × ml_M) :=
    fL_pieces_206 sl sx ml_fu l0 l1 l3 l4 t0 (0 : Int32) (-1 : Int32) (0 : Int32) m
theorem vL_pieces_195 {E : ml_E} (hL : ml_eL E = 10) {rv : Int32} {rm : ml_M} (hr : ∀ (pc pc' : Nat) (lv : List (Nat × ml_X)), ml_d cL_pieces pc .ireturn 1 pc' → (rv = 0 ∨ rv = 1) → ml_V E "LostRoomLaw" cL_pieces 8 false rm pc lv [ml_i rv]) : ∀ (l0 : Nat) (l1 : Nat) (l3 : Int32) (l4 : Int32) (t0 : Int32) (m : ml_M), fL_pieces_195 (ml_sl (ml_eG E)) (ml_sx (ml_eG E)) l0 l1 l3 l4 t0 m = some (rv, rm) → ml_V E "LostRoomLaw" cL_pieces 8 false m 195 [(0, ml_r l0), (1, ml_r l1), (2, ml_q (ml_sb (ml_eG E))), (3, ml_i l3), (4, ml_i l4)] [ml_i t0] := by
  intro l0 l1 l3 l4 t0 m h
  unfold fL_pieces_195 at h
  exact ml_istore (lv' := [(5, ml_i t0), (0, ml_r l0), (1, ml_r l1), (2, ml_q (ml_sb (ml_eG E))), (3, ml_i l3), (4, ml_i l4)]) dL_pieces_195 (ml_hn hL rfl) rfl <| ml_iconst dL_pieces_197 kc_i0 <| ml_istore (lv' := [(6, ml_i (0 : Int32)), (5, ml_i t0), (0, ml_r l0), (1, ml_r l1), (2, ml_q (ml_sb (ml_eG E))), (3, ml_i l3), (4, ml_i l4)]) dL_pieces_198 (ml_hn hL rfl) rfl <| ml_iconst dL_pieces_200 kc_im1 <| ml_istore (lv' := [(7, ml_i (-1 : Int32)), (6, ml_i (0 : Int32)), (5, ml_i t0), (0, ml_r l0), (1, ml_r l1), (2, ml_q (ml_sb (ml_eG E))), (3, ml_i l3), (4, ml_i l4)]) dL_pieces_201 (ml_hn hL rfl) rfl <| ml_iconst dL_pieces_203 kc_i0 <| ml_istore (lv' := [(8, ml_i (0 : Int32)), (7, ml_i (-1 : Int32)), (6, ml_i (0 : Int32)), (5, ml_i t0), (0, ml_r l0), (1, ml_r l1), (2, ml_q (ml_sb (ml_eG E))), (3, ml_i l3), (4, ml_i l4)]) dL_pieces_204 (ml_hn hL rfl) rfl <| ml_V.sub [4, 5, 6, 7, 8, 3, 2, 1, 0] rfl (vL_pieces_206 hL hr  ml_fu _ _ _ _ _ _ _ _ _ h)
def fL_pieces_186 (sl : Nat) (sx : Nat → Int32) (l0 : Nat) (l1 : Nat) (l3 : Int32) (l4 : Int32) (m : ml_M) : Option (Int32 × ml_M) :=
    if l3 = 0 then
    fL_pieces_195 sl sx l0 l1 l3 l4 (0 : Int32) m
    else
    fL_pieces_195 sl sx l0 l1 l3 l4 (1 : Int32) m
theorem vL_pieces_186 {E : ml_E} (hL : ml_eL E = 10) {rv : Int32} {rm : ml_M} (hr : ∀ (pc pc' : Nat) (lv : List (Nat × ml_X)), ml_d cL_pieces pc .ireturn 1 pc' → (rv = 0 ∨ rv = 1) → ml_V E "LostRoomLaw" cL_pieces 8 false rm pc lv [ml_i rv]) : ∀ (l0 : Nat) (l1 : Nat) (l3 : Int32) (l4 : Int32) (m : ml_M), fL_pieces_186 (ml_sl (ml_eG E)) (ml_sx (ml_eG E)) l0 l1 l3 l4 m = some (rv, rm) → ml_V E "LostRoomLaw" cL_pieces 8 false m 186 [(0, ml_r l0), (1, ml_r l1), (2, ml_q (ml_sb (ml_eG E))), (3, ml_i l3), (4, ml_i l4)] [] := by
  intro l0 l1 l3 l4 m h
  unfold fL_pieces_186 at h
  exact ml_iload_n dL_pieces_186 3 rfl <| ml_if_ne dL_pieces_187 h (fun _ h => ml_iconst dL_pieces_194 kc_i1 <| ml_V.sub [0, 1, 2, 3, 4] rfl (vL_pieces_195 hL hr  _ _ _ _ _ _ h)) (fun _ h => ml_iconst dL_pieces_190 kc_i0 <| ml_goto dL_pieces_191 <| ml_V.sub [0, 1, 2, 3, 4] rfl (vL_pieces_195 hL hr  _ _ _ _ _ _ h))
def fL_pieces_140 (sl : Nat) (sx : Nat → Int32) (l0 : Nat) (l1 : Nat) (l3 : Int32) (m : ml_M) : Option (Int32 × ml_M) :=
    if (ml_K m l0).1 = 10 then
    ml_b2 (fX10_sheets l0 (4 : Int32) m) fun r1891 m1892 =>
    if (ml_K m1892 l1).1 = 10 then
    ml_b2 (fX10_sheets l1 (4 : Int32) m1892) fun r1895 m1896 =>
    if r1895 = r1891 then
    if (ml_K m1896 l0).1 = 10 then
    ml_b2 (fX10_laid l0 m1896) fun r1899 m1900 =>
    if (ml_K m1900 l1).1 = 10 then
    ml_b2 (fX10_laid l1 m1900) fun r1903 m1904 =>
    if r1899 = r1903 then
    if l3 < r1891 then
    some ((0 : Int32), m1904)
    else
    if l3 ≤ 0 then
    fL_pieces_186 sl sx l0 l1 l3 r1891 m1904
    else
    if (1 : Int32) ≤ r1891 then
    fL_pieces_186 sl sx l0 l1 l3 r1891 m1904
    else
    some ((0 : Int32), m1904)
    else
    some ((0 : Int32), m1904)
    else none
    else none
    else
    some ((0 : Int32), m1896)
    else none
    else none
theorem vL_pieces_140 {E : ml_E} (hL : ml_eL E = 10) {rv : Int32} {rm : ml_M} (hr : ∀ (pc pc' : Nat) (lv : List (Nat × ml_X)), ml_d cL_pieces pc .ireturn 1 pc' → (rv = 0 ∨ rv = 1) → ml_V E "LostRoomLaw" cL_pieces 8 false rm pc lv [ml_i rv]) : ∀ (l0 : Nat) (l1 : Nat) (l3 : Int32) (m : ml_M), fL_pieces_140 (ml_sl (ml_eG E)) (ml_sx (ml_eG E)) l0 l1 l3 m = some (rv, rm) → ml_V E "LostRoomLaw" cL_pieces 8 false m 140 [(0, ml_r l0), (1, ml_r l1), (2, ml_q (ml_sb (ml_eG E))), (3, ml_i l3)] [] := by
  intro l0 l1 l3 m h
  unfold fL_pieces_140 at h
  exact ml_aload_n dL_pieces_140 0 rfl <| ml_iconst dL_pieces_141 kc_i4 <| ml_ck_of h fun hc1890 h => ml_b2_of h fun r1891 m1892 hv1889 h => ml_callV dL_pieces_142 wm_503 wb_304 hc1890 (sX10_sheets hv1889) rfl (Nat.le_of_ble_eq_true rfl) (Nat.le_of_ble_eq_true rfl) rfl <| ml_istore (lv' := [(4, ml_i r1891), (0, ml_r l0), (1, ml_r l1), (2, ml_q (ml_sb (ml_eG E))), (3, ml_i l3)]) dL_pieces_145 (ml_hn hL rfl) rfl <| ml_aload_n dL_pieces_147 2 rfl <| ml_iconst dL_pieces_148 kc_i4 <| ml_ck_of h fun hc1894 h => ml_b2_of h fun r1895 m1896 hv1893 h => ml_callV dL_pieces_149 wm_503 wb_304 hc1894 (sX10_sheets hv1893) rfl (Nat.le_of_ble_eq_true rfl) (Nat.le_of_ble_eq_true rfl) rfl <| ml_iload dL_pieces_152 0 rfl <| ml_icmp_ne dL_pieces_154 h (fun _ h => ml_iconst dL_pieces_184 kc_i0 <| ml_rI (mk := ml_i) hr dL_pieces_185 (fun e => Or.inl e.symm) h) (fun _ h => ml_aload_n dL_pieces_157 1 rfl <| ml_ck_of h fun hc1898 h => ml_b2_of h fun r1899 m1900 hv1897 h => ml_callV dL_pieces_158 wm_507 wb_305 hc1898 (sX10_laid hv1897) rfl (Nat.le_of_ble_eq_true rfl) (Nat.le_of_ble_eq_true rfl) rfl <| ml_aload_n dL_pieces_161 2 rfl <| ml_ck_of h fun hc1902 h => ml_b2_of h fun r1903 m1904 hv1901 h => ml_callV dL_pieces_162 wm_507 wb_305 hc1902 (sX10_laid hv1901) rfl (Nat.le_of_ble_eq_true rfl) (Nat.le_of_ble_eq_true rfl) rfl <| ml_icmp_ne dL_pieces_165 h (fun _ h => ml_iconst dL_pieces_184 kc_i0 <| ml_rI (mk := ml_i) hr dL_pieces_185 (fun e => Or.inl e.symm) h) (fun _ h => ml_iload dL_pieces_168 0 rfl <| ml_iload_n dL_pieces_170 4 rfl <| ml_icmp_gt dL_pieces_171 h (fun _ h => ml_iconst dL_pieces_184 kc_i0 <| ml_rI (mk := ml_i) hr dL_pieces_185 (fun e => Or.inl e.symm) h) (fun _ h => ml_iload_n dL_pieces_174 4 rfl <| ml_if_le dL_pieces_175 h (fun _ h => ml_V.sub [1, 2, 3, 4, 0] rfl (vL_pieces_186 hL hr  _ _ _ _ _ h)) (fun _ h => ml_iload dL_pieces_178 0 rfl <| ml_iconst dL_pieces_180 kc_i1 <| ml_icmp_ge dL_pieces_181 h (fun _ h => ml_V.sub [1, 2, 3, 4, 0] rfl (vL_pieces_186 hL hr  _ _ _ _ _ h)) (fun _ h => ml_iconst dL_pieces_184 kc_i0 <| ml_rI (mk := ml_i) hr dL_pieces_185 (fun e => Or.inl e.symm) h)))))
def fL_pieces_12 (sl : Nat) (sx : Nat → Int32) : Nat → Nat → Nat → Int32 → Int32 → ml_M → Option (Int32 × ml_M)
  | 0, _, _, _, _, _ => none
  | fu + 1, l0, l1, l3, l4, m =>
    if l3 ≤ l4 then
    fL_pieces_140 sl sx l0 l1 l3 m
    else
    ml_b1 (fL_cell sl sx ((150 : Int32) + l4) m) fun r1906 =>
    if (r1906 - r1906 / (3 : Int32) * (3 : Int32)) = 0 then
    fL_pieces_54 sl sx (fL_pieces_12 sl sx fu) l0 l1 l3 l4 r1906 (0 : Int32) m
    else
    fL_pieces_54 sl sx (fL_pieces_12 sl sx fu) l0 l1 l3 l4 r1906 ((400 : Int32) + ((100 : Int32) * ((r1906 / (3 : Int32)) - (r1906 / (3 : Int32)) / (3 : Int32) * (3 : Int32)))) m
theorem vL_pieces_12 {E : ml_E} (hL : ml_eL E = 10) {rv : Int32} {rm : ml_M} (hr : ∀ (pc pc' : Nat) (lv : List (Nat × ml_X)), ml_d cL_pieces pc .ireturn 1 pc' → (rv = 0 ∨ rv = 1) → ml_V E "LostRoomLaw" cL_pieces 8 false rm pc lv [ml_i rv]) : ∀ (fu : Nat) (l0 : Nat) (l1 : Nat) (l3 : Int32) (l4 : Int32) (m : ml_M), fL_pieces_12 (ml_sl (ml_eG E)) (ml_sx (ml_eG E)) fu l0 l1 l3 l4 m = some (rv, rm) → ml_V E "LostRoomLaw" cL_pieces 8 false m 12 [(0, ml_r l0), (1, ml_r l1), (2, ml_q (ml_sb (ml_eG E))), (3, ml_i l3), (4, ml_i l4)] [] := by
  intro fu
  induction fu with
  | zero => intro l0 l1 l3 l4 m h; exact ml_none h
  | succ fu ih =>
    intro l0 l1 l3 l4 m h
    have hk12 := ih
    unfold fL_pieces_12 at h
    exact ml_iload dL_pieces_12 4 rfl <| ml_iload_n dL_pieces_14 3 rfl <| ml_icmp_ge dL_pieces_15 h (fun _ h => ml_V.sub [0, 1, 2, 3] rfl (vL_pieces_140 hL hr  _ _ _ _ h)) (fun _ h => ml_sload dL_pieces_18 2 rfl <| ml_sipush dL_pieces_19 kc_s150 <| ml_iload dL_pieces_22 4 rfl <| ml_iadd dL_pieces_24 <| ml_b1_of h fun r1906 hv1905 h => ml_callSg dL_pieces_25 wm_234 wb_141 (sL_cell hv1905) rfl (Nat.le_of_ble_eq_true rfl) (Nat.le_of_ble_eq_true rfl) rfl <| ml_istore (lv' := [(5, ml_i r1906), (0, ml_r l0), (1, ml_r l1), (2, ml_q (ml_sb (ml_eG E))), (3, ml_i l3), (4, ml_i l4)]) dL_pieces_28 (ml_hn hL rfl) rfl <| ml_iload dL_pieces_30 0 rfl <| ml_iconst dL_pieces_32 kc_i3 <| ml_irem dL_pieces_33 (by decide) <| ml_if_ne dL_pieces_34 h (fun _ h => ml_sipush dL_pieces_41 kc_s400 <| ml_bipush dL_pieces_44 kc_b100 <| ml_iload dL_pieces_46 0 rfl <| ml_iconst dL_pieces_48 kc_i3 <| ml_idiv dL_pieces_49 (by decide) <| ml_iconst dL_pieces_50 kc_i3 <| ml_irem dL_pieces_51 (by decide) <| ml_imul dL_pieces_52 <| ml_iadd dL_pieces_53 <| ml_V.sub [1, 2, 3, 4, 5, 0] rfl (vL_pieces_54 hL hr hk12 _ _ _ _ _ _ _ h)) (fun _ h => ml_iconst dL_pieces_37 kc_i0 <| ml_goto dL_pieces_38 <| ml_V.sub [1, 2, 3, 4, 5, 0] rfl (vL_pieces_54 hL hr hk12 _ _ _ _ _ _ _ h)))
def fL_pieces (sl : Nat) (sx : Nat → Int32) (l0 : Nat) (l1 : Nat) (m : ml_M) : Option (Int32 × ml_M) :=
    ml_b1 (fL_cell sl sx (4 : Int32) m) fun r1908 =>
    ml_let (r1908 - r1908 / (8 : Int32) * (8 : Int32)) fun x1909 =>
    fL_pieces_12 sl sx ml_fu l0 l1 x1909 (0 : Int32) m
theorem wL_pieces_0 {E : ml_E} (hL : ml_eL E = 10) {rv : Int32} {rm : ml_M} (hr : ∀ (pc pc' : Nat) (lv : List (Nat × ml_X)), ml_d cL_pieces pc .ireturn 1 pc' → (rv = 0 ∨ rv = 1) → ml_V E "LostRoomLaw" cL_pieces 8 false rm pc lv [ml_i rv]) : ∀ (l0 : Nat) (l1 : Nat) (m : ml_M), fL_pieces (ml_sl (ml_eG E)) (ml_sx (ml_eG E)) l0 l1 m = some (rv, rm) → ml_V E "LostRoomLaw" cL_pieces 8 false m 0 [(0, ml_r l0), (1, ml_r l1), (2, ml_q (ml_sb (ml_eG E)))] [] := by
  intro l0 l1 m h
  unfold fL_pieces at h
  exact ml_sload dL_pieces_0 2 rfl <| ml_iconst dL_pieces_1 kc_i4 <| ml_b1_of h fun r1908 hv1907 h => ml_callSg dL_pieces_2 wm_234 wb_141 (sL_cell hv1907) rfl (Nat.le_of_ble_eq_true rfl) (Nat.le_of_ble_eq_true rfl) rfl <| ml_bipush dL_pieces_5 kc_b8 <| ml_irem dL_pieces_7 (by decide) <| ml_lx (mk := ml_i) h fun x1909 h => ml_istore_n (lv' := [(3, ml_i x1909), (0, ml_r l0), (1, ml_r l1), (2, ml_q (ml_sb (ml_eG E)))]) dL_pieces_8 (ml_hn hL rfl) rfl <| ml_iconst dL_pieces_9 kc_i0 <| ml_istore (lv' := [(4, ml_i (0 : Int32)), (3, ml_i x1909), (0, ml_r l0), (1, ml_r l1), (2, ml_q (ml_sb (ml_eG E)))]) dL_pieces_10 (ml_hn hL rfl) rfl <| ml_V.sub [2, 3, 4, 1, 0] rfl (vL_pieces_12 hL hr  ml_fu _ _ _ _ _ h)
theorem sL_pieces {G : ml_G} {l0 : Nat} {l1 : Nat} {m : ml_M} {rv : Int32} {rm : ml_M} (h : fL_pieces (ml_sl G) (ml_sx G) l0 l1 m = some (rv, rm)) : ml_SnG G yL_pieces cL_pieces 10 (some .boolean) 8 [ml_r l0, ml_r l1, ml_q (ml_sb G)] m (some (ml_i rv)) rm :=
  ml_SnG_of (P := (rv = 0 ∨ rv = 1)) (ini := false) (by decide +kernel) (Nat.le_of_ble_eq_true rfl) (fun h => by cases h) (fun hz => ml_RkZ rv hz) fun E hG hL hr => by subst hG; exact wL_pieces_0 hL hr _ _ _ h

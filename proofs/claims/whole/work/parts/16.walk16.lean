/-! printed by wip/whole/emit.py out of the claim's own listing -/
theorem dX10_wear_0 : ml_d cX10_wear 0 (.iload_n 1) 1 1 := ⟨by decide +kernel, rfl⟩
theorem dX10_wear_1 : ml_d cX10_wear 1 (.iconst 0) 1 2 := ⟨by decide +kernel, rfl⟩
theorem dX10_wear_2 : ml_d cX10_wear 2 (.iconst 4) 1 3 := ⟨by decide +kernel, rfl⟩
theorem dX10_wear_3 : ml_d cX10_wear 3 (.invokestatic 138) 3 6 := ⟨by decide +kernel, rfl⟩
theorem dX10_wear_6 : ml_j cX10_wear 6 (.ifCond .ne) 11 9 := ⟨5, by decide +kernel, by decide, rfl⟩
theorem dX10_wear_9 : ml_d cX10_wear 9 (.iconst (-1)) 1 10 := ⟨by decide +kernel, rfl⟩
theorem dX10_wear_10 : ml_d cX10_wear 10 (.ireturn) 1 11 := ⟨by decide +kernel, rfl⟩
theorem dX10_wear_11 : ml_d cX10_wear 11 (.aload_n 0) 1 12 := ⟨by decide +kernel, rfl⟩
theorem dX10_wear_12 : ml_d cX10_wear 12 (.getfield 30) 3 15 := ⟨by decide +kernel, rfl⟩
theorem dX10_wear_15 : ml_d cX10_wear 15 (.istore_n 2) 1 16 := ⟨by decide +kernel, rfl⟩
theorem dX10_wear_16 : ml_d cX10_wear 16 (.aload_n 0) 1 17 := ⟨by decide +kernel, rfl⟩
theorem dX10_wear_17 : ml_d cX10_wear 17 (.iload_n 1) 1 18 := ⟨by decide +kernel, rfl⟩
theorem dX10_wear_18 : ml_d cX10_wear 18 (.putfield 30) 3 21 := ⟨by decide +kernel, rfl⟩
theorem dX10_wear_21 : ml_d cX10_wear 21 (.iload_n 2) 1 22 := ⟨by decide +kernel, rfl⟩
theorem dX10_wear_22 : ml_d cX10_wear 22 (.ireturn) 1 23 := ⟨by decide +kernel, rfl⟩
def fX10_wear (l0 : Nat) (l1 : Int32) (m : ml_M) : Option (Int32 × ml_M) :=
    ml_b1 (fX10_within l1 (0 : Int32) (4 : Int32) m) fun r1338 =>
    if r1338 = 0 then
    some ((-1 : Int32), m)
    else
    if (ml_K m l0).1 = 10 then
    ml_let (ml_I m l0 3) fun x1340 =>
    ml_let (ml_sI m l0 3 l1) fun m1341 =>
    some (x1340, m1341)
    else none
theorem wX10_wear_0 {E : ml_E} (hL : ml_eL E = 3) {rv : Int32} {rm : ml_M} (hr : ∀ (pc pc' : Nat) (lv : List (Nat × ml_X)), ml_d cX10_wear pc .ireturn 1 pc' → True → ml_V E "LostRoom" cX10_wear 3 false rm pc lv [ml_i rv]) : ∀ (l0 : Nat) (l1 : Int32) (m : ml_M), fX10_wear l0 l1 m = some (rv, rm) → ml_V E "LostRoom" cX10_wear 3 false m 0 [(0, ml_r l0), (1, ml_i l1)] [] := by
  intro l0 l1 m h
  unfold fX10_wear at h
  exact ml_iload_n dX10_wear_0 1 rfl <| ml_iconst dX10_wear_1 kc_i0 <| ml_iconst dX10_wear_2 kc_i4 <| ml_b1_of h fun r1338 hv1337 h => ml_callS dX10_wear_3 wm_124 wb_94 (sX10_within hv1337) rfl (Nat.le_of_ble_eq_true rfl) (Nat.le_of_ble_eq_true rfl) rfl <| ml_if_ne dX10_wear_6 h (fun _ h => ml_aload_n dX10_wear_11 0 rfl <| ml_ck_of h fun hc1339 h => ml_getI dX10_wear_12 wb_202 hc1339 <| ml_lx (mk := ml_i) h fun x1340 h => ml_istore_n (lv' := [(2, ml_i x1340), (0, ml_r l0), (1, ml_i l1)]) dX10_wear_15 (ml_hn hL rfl) rfl <| ml_aload_n dX10_wear_16 1 rfl <| ml_iload_n dX10_wear_17 2 rfl <| ml_putI dX10_wear_18 wb_203 hc1339 <| ml_lt (m := m) rfl h fun m1341 em1342 h => ml_iload_n dX10_wear_21 0 rfl <| ml_rI (mk := ml_i) hr dX10_wear_22 (fun _ => trivial) h) (fun _ h => ml_iconst dX10_wear_9 kc_im1 <| ml_rI (mk := ml_i) hr dX10_wear_10 (fun _ => trivial) h)
theorem sX10_wear {l0 : Nat} {l1 : Int32} {m : ml_M} {rv : Int32} {rm : ml_M} (h : fX10_wear l0 l1 m = some (rv, rm)) : ml_Sn yX10_wear cX10_wear 3 (some .int) 3 [ml_r l0, ml_i l1] m (some (ml_i rv)) rm :=
  ml_Sn_of (P := True) (ini := false) (by decide +kernel) (Nat.le_of_ble_eq_true rfl) (fun h => by cases h) (fun _ => ml_RkI rv) fun E hL hr => wX10_wear_0 hL hr _ _ _ h
theorem dX11_wear_0 : ml_d cX11_wear 0 (.iload_n 1) 1 1 := ⟨by decide +kernel, rfl⟩
theorem dX11_wear_1 : ml_d cX11_wear 1 (.iconst 0) 1 2 := ⟨by decide +kernel, rfl⟩
theorem dX11_wear_2 : ml_d cX11_wear 2 (.iconst 4) 1 3 := ⟨by decide +kernel, rfl⟩
theorem dX11_wear_3 : ml_d cX11_wear 3 (.invokestatic 100) 3 6 := ⟨by decide +kernel, rfl⟩
theorem dX11_wear_6 : ml_j cX11_wear 6 (.ifCond .ne) 11 9 := ⟨5, by decide +kernel, by decide, rfl⟩
theorem dX11_wear_9 : ml_d cX11_wear 9 (.iconst (-1)) 1 10 := ⟨by decide +kernel, rfl⟩
theorem dX11_wear_10 : ml_d cX11_wear 10 (.ireturn) 1 11 := ⟨by decide +kernel, rfl⟩
theorem dX11_wear_11 : ml_d cX11_wear 11 (.aload_n 0) 1 12 := ⟨by decide +kernel, rfl⟩
theorem dX11_wear_12 : ml_d cX11_wear 12 (.getfield 93) 3 15 := ⟨by decide +kernel, rfl⟩
theorem dX11_wear_15 : ml_d cX11_wear 15 (.istore_n 2) 1 16 := ⟨by decide +kernel, rfl⟩
theorem dX11_wear_16 : ml_d cX11_wear 16 (.aload_n 0) 1 17 := ⟨by decide +kernel, rfl⟩
theorem dX11_wear_17 : ml_d cX11_wear 17 (.iload_n 1) 1 18 := ⟨by decide +kernel, rfl⟩
theorem dX11_wear_18 : ml_d cX11_wear 18 (.putfield 93) 3 21 := ⟨by decide +kernel, rfl⟩
theorem dX11_wear_21 : ml_d cX11_wear 21 (.iload_n 2) 1 22 := ⟨by decide +kernel, rfl⟩
theorem dX11_wear_22 : ml_d cX11_wear 22 (.ireturn) 1 23 := ⟨by decide +kernel, rfl⟩
def fX11_wear (l0 : Nat) (l1 : Int32) (m : ml_M) : Option (Int32 × ml_M) :=
    ml_b1 (fX11_in l1 (0 : Int32) (4 : Int32) m) fun r1344 =>
    if r1344 = 0 then
    some ((-1 : Int32), m)
    else
    if (ml_K m l0).1 = 11 then
    ml_let (ml_I m l0 23) fun x1346 =>
    ml_let (ml_sI m l0 23 l1) fun m1347 =>
    some (x1346, m1347)
    else none
theorem wX11_wear_0 {E : ml_E} (hL : ml_eL E = 3) {rv : Int32} {rm : ml_M} (hr : ∀ (pc pc' : Nat) (lv : List (Nat × ml_X)), ml_d cX11_wear pc .ireturn 1 pc' → True → ml_V E "LostRoomModel" cX11_wear 3 false rm pc lv [ml_i rv]) : ∀ (l0 : Nat) (l1 : Int32) (m : ml_M), fX11_wear l0 l1 m = some (rv, rm) → ml_V E "LostRoomModel" cX11_wear 3 false m 0 [(0, ml_r l0), (1, ml_i l1)] [] := by
  intro l0 l1 m h
  unfold fX11_wear at h
  exact ml_iload_n dX11_wear_0 1 rfl <| ml_iconst dX11_wear_1 kc_i0 <| ml_iconst dX11_wear_2 kc_i4 <| ml_b1_of h fun r1344 hv1343 h => ml_callS dX11_wear_3 wm_136 wb_100 (sX11_in hv1343) rfl (Nat.le_of_ble_eq_true rfl) (Nat.le_of_ble_eq_true rfl) rfl <| ml_if_ne dX11_wear_6 h (fun _ h => ml_aload_n dX11_wear_11 0 rfl <| ml_ck_of h fun hc1345 h => ml_getI dX11_wear_12 wb_204 hc1345 <| ml_lx (mk := ml_i) h fun x1346 h => ml_istore_n (lv' := [(2, ml_i x1346), (0, ml_r l0), (1, ml_i l1)]) dX11_wear_15 (ml_hn hL rfl) rfl <| ml_aload_n dX11_wear_16 1 rfl <| ml_iload_n dX11_wear_17 2 rfl <| ml_putI dX11_wear_18 wb_205 hc1345 <| ml_lt (m := m) rfl h fun m1347 em1348 h => ml_iload_n dX11_wear_21 0 rfl <| ml_rI (mk := ml_i) hr dX11_wear_22 (fun _ => trivial) h) (fun _ h => ml_iconst dX11_wear_9 kc_im1 <| ml_rI (mk := ml_i) hr dX11_wear_10 (fun _ => trivial) h)
theorem sX11_wear {l0 : Nat} {l1 : Int32} {m : ml_M} {rv : Int32} {rm : ml_M} (h : fX11_wear l0 l1 m = some (rv, rm)) : ml_Sn yX11_wear cX11_wear 3 (some .int) 3 [ml_r l0, ml_i l1] m (some (ml_i rv)) rm :=
  ml_Sn_of (P := True) (ini := false) (by decide +kernel) (Nat.le_of_ble_eq_true rfl) (fun h => by cases h) (fun _ => ml_RkI rv) fun E hL hr => wX11_wear_0 hL hr _ _ _ h
theorem dX10_isLodger_0 : ml_d cX10_isLodger 0 (.iload_n 1) 1 1 := ⟨by decide +kernel, rfl⟩
theorem dX10_isLodger_1 : ml_d cX10_isLodger 1 (.iconst 0) 1 2 := ⟨by decide +kernel, rfl⟩
theorem dX10_isLodger_2 : ml_d cX10_isLodger 2 (.aload_n 0) 1 3 := ⟨by decide +kernel, rfl⟩
theorem dX10_isLodger_3 : ml_d cX10_isLodger 3 (.getfield 26) 3 6 := ⟨by decide +kernel, rfl⟩
theorem dX10_isLodger_6 : ml_d cX10_isLodger 6 (.getfield 193) 3 9 := ⟨by decide +kernel, rfl⟩
theorem dX10_isLodger_9 : ml_d cX10_isLodger 9 (.iconst 1) 1 10 := ⟨by decide +kernel, rfl⟩
theorem dX10_isLodger_10 : ml_d cX10_isLodger 10 (.isub) 1 11 := ⟨by decide +kernel, rfl⟩
theorem dX10_isLodger_11 : ml_d cX10_isLodger 11 (.invokestatic 138) 3 14 := ⟨by decide +kernel, rfl⟩
theorem dX10_isLodger_14 : ml_d cX10_isLodger 14 (.ireturn) 1 15 := ⟨by decide +kernel, rfl⟩
def fX10_isLodger (l0 : Nat) (l1 : Int32) (m : ml_M) : Option Int32 :=
    if (ml_K m l0).1 = 10 then
    ml_let (ml_R m l0 2) fun a1350 =>
    if (ml_K m a1350).1 = 1 then
    ml_b1 (fX10_within l1 (0 : Int32) ((ml_I m a1350 2) - (1 : Int32)) m) fun r1353 =>
    if r1353 = 0 ∨ r1353 = 1 then some r1353 else none
    else none
    else none
theorem wX10_isLodger_0 {E : ml_E} (hL : ml_eL E = 2) {rv : Int32} {m : ml_M} (hr : ∀ (pc pc' : Nat) (lv : List (Nat × ml_X)), ml_d cX10_isLodger pc .ireturn 1 pc' → (rv = 0 ∨ rv = 1) → ml_V E "LostRoom" cX10_isLodger 3 false m pc lv [ml_i rv]) : ∀ (l0 : Nat) (l1 : Int32), fX10_isLodger l0 l1 m = some rv → ml_V E "LostRoom" cX10_isLodger 3 false m 0 [(0, ml_r l0), (1, ml_i l1)] [] := by
  intro l0 l1 h
  unfold fX10_isLodger at h
  exact ml_iload_n dX10_isLodger_0 1 rfl <| ml_iconst dX10_isLodger_1 kc_i0 <| ml_aload_n dX10_isLodger_2 0 rfl <| ml_ck_of h fun hc1349 h => ml_getR dX10_isLodger_3 wb_189 hc1349 <| ml_lx (mk := ml_r) h fun a1350 h => ml_ck_of h fun hc1351 h => ml_getI dX10_isLodger_6 wb_206 hc1351 <| ml_iconst dX10_isLodger_9 kc_i1 <| ml_isub dX10_isLodger_10 <| ml_b1_of h fun r1353 hv1352 h => ml_callS dX10_isLodger_11 wm_124 wb_94 (sX10_within hv1352) rfl (Nat.le_of_ble_eq_true rfl) (Nat.le_of_ble_eq_true rfl) rfl <| ml_ck_of h fun hz1354 h => ml_rp (mk := ml_i) hr dX10_isLodger_14 (fun e => e ▸ hz1354) h
theorem sX10_isLodger {l0 : Nat} {l1 : Int32} {m : ml_M} {rv : Int32} (h : fX10_isLodger l0 l1 m = some rv) : ml_Sn yX10_isLodger cX10_isLodger 2 (some .boolean) 3 [ml_r l0, ml_i l1] m (some (ml_i rv)) m :=
  ml_Sn_of (P := (rv = 0 ∨ rv = 1)) (ini := false) (by decide +kernel) (Nat.le_of_ble_eq_true rfl) (fun h => by cases h) (fun hz => ml_RkZ rv hz) fun E hL hr => wX10_isLodger_0 hL hr _ _ h
theorem dX10_lodgerFact_0 : ml_d cX10_lodgerFact 0 (.aload_n 0) 1 1 := ⟨by decide +kernel, rfl⟩
theorem dX10_lodgerFact_1 : ml_d cX10_lodgerFact 1 (.getfield 26) 3 4 := ⟨by decide +kernel, rfl⟩
theorem dX10_lodgerFact_4 : ml_d cX10_lodgerFact 4 (.getfield 360) 3 7 := ⟨by decide +kernel, rfl⟩
theorem dX10_lodgerFact_7 : ml_d cX10_lodgerFact 7 (.iload_n 1) 1 8 := ⟨by decide +kernel, rfl⟩
theorem dX10_lodgerFact_8 : ml_d cX10_lodgerFact 8 (.aaload) 1 9 := ⟨by decide +kernel, rfl⟩
theorem dX10_lodgerFact_9 : ml_d cX10_lodgerFact 9 (.astore_n 3) 1 10 := ⟨by decide +kernel, rfl⟩
theorem dX10_lodgerFact_10 : ml_d cX10_lodgerFact 10 (.iload_n 2) 1 11 := ⟨by decide +kernel, rfl⟩
theorem dX10_lodgerFact_11 : decode cX10_lodgerFact 11 = .ok (.tableswitch 49 0 3 #[29, 34, 39, 44], 29) := by decide +kernel
theorem dX10_lodgerFact_40 : ml_d cX10_lodgerFact 40 (.aload_n 3) 1 41 := ⟨by decide +kernel, rfl⟩
theorem dX10_lodgerFact_41 : ml_d cX10_lodgerFact 41 (.getfield 364) 3 44 := ⟨by decide +kernel, rfl⟩
theorem dX10_lodgerFact_44 : ml_d cX10_lodgerFact 44 (.ireturn) 1 45 := ⟨by decide +kernel, rfl⟩
theorem dX10_lodgerFact_45 : ml_d cX10_lodgerFact 45 (.aload_n 3) 1 46 := ⟨by decide +kernel, rfl⟩
theorem dX10_lodgerFact_46 : ml_d cX10_lodgerFact 46 (.getfield 369) 3 49 := ⟨by decide +kernel, rfl⟩
theorem dX10_lodgerFact_49 : ml_d cX10_lodgerFact 49 (.ireturn) 1 50 := ⟨by decide +kernel, rfl⟩
theorem dX10_lodgerFact_50 : ml_d cX10_lodgerFact 50 (.aload_n 3) 1 51 := ⟨by decide +kernel, rfl⟩
theorem dX10_lodgerFact_51 : ml_d cX10_lodgerFact 51 (.getfield 372) 3 54 := ⟨by decide +kernel, rfl⟩
theorem dX10_lodgerFact_54 : ml_d cX10_lodgerFact 54 (.ireturn) 1 55 := ⟨by decide +kernel, rfl⟩
theorem dX10_lodgerFact_55 : ml_d cX10_lodgerFact 55 (.aload_n 3) 1 56 := ⟨by decide +kernel, rfl⟩
theorem dX10_lodgerFact_56 : ml_d cX10_lodgerFact 56 (.getfield 375) 3 59 := ⟨by decide +kernel, rfl⟩
theorem dX10_lodgerFact_59 : ml_d cX10_lodgerFact 59 (.ireturn) 1 60 := ⟨by decide +kernel, rfl⟩
theorem dX10_lodgerFact_60 : ml_d cX10_lodgerFact 60 (.aload_n 3) 1 61 := ⟨by decide +kernel, rfl⟩
theorem dX10_lodgerFact_61 : ml_d cX10_lodgerFact 61 (.getfield 378) 3 64 := ⟨by decide +kernel, rfl⟩
theorem dX10_lodgerFact_64 : ml_d cX10_lodgerFact 64 (.ireturn) 1 65 := ⟨by decide +kernel, rfl⟩
def fX10_lodgerFact (l0 : Nat) (l1 : Int32) (l2 : Int32) (m : ml_M) : Option Int32 :=
    if (ml_K m l0).1 = 10 then
    ml_let (ml_R m l0 2) fun a1356 =>
    if (ml_K m a1356).1 = 1 then
    ml_let (ml_R m a1356 0) fun a1358 =>
    if ml_in m a1358 28 l1 then
    ml_let (ml_R m a1358 l1.toNatClampNeg) fun a1360 =>
    if l2 = (0 : Int32) then
    if (ml_K m a1360).1 = 6 then
    some (ml_I m a1360 0)
    else none
    else if l2 = (1 : Int32) then
    if (ml_K m a1360).1 = 6 then
    some (ml_I m a1360 1)
    else none
    else if l2 = (2 : Int32) then
    if (ml_K m a1360).1 = 6 then
    some (ml_I m a1360 2)
    else none
    else if l2 = (3 : Int32) then
    if (ml_K m a1360).1 = 6 then
    some (ml_I m a1360 3)
    else none
    else if (ml_K m a1360).1 = 6 then
    some (ml_I m a1360 4)
    else none
    else none
    else none
    else none
theorem wX10_lodgerFact_0 {E : ml_E} (hL : ml_eL E = 4) {rv : Int32} {m : ml_M} (hr : ∀ (pc pc' : Nat) (lv : List (Nat × ml_X)), ml_d cX10_lodgerFact pc .ireturn 1 pc' → True → ml_V E "LostRoom" cX10_lodgerFact 2 false m pc lv [ml_i rv]) : ∀ (l0 : Nat) (l1 : Int32) (l2 : Int32), fX10_lodgerFact l0 l1 l2 m = some rv → ml_V E "LostRoom" cX10_lodgerFact 2 false m 0 [(0, ml_r l0), (1, ml_i l1), (2, ml_i l2)] [] := by
  intro l0 l1 l2 h
  unfold fX10_lodgerFact at h
  exact ml_aload_n dX10_lodgerFact_0 0 rfl <| ml_ck_of h fun hc1355 h => ml_getR dX10_lodgerFact_1 wb_189 hc1355 <| ml_lx (mk := ml_r) h fun a1356 h => ml_ck_of h fun hc1357 h => ml_getR dX10_lodgerFact_4 wb_207 hc1357 <| ml_lx (mk := ml_r) h fun a1358 h => ml_iload_n dX10_lodgerFact_7 1 rfl <| ml_ck_of h fun hi1359 h => ml_aald (kd := 28) dX10_lodgerFact_8 (by decide) hi1359 <| ml_lx (mk := ml_r) h fun a1360 h => ml_astore_n (lv' := [(3, ml_r a1360), (0, ml_r l0), (1, ml_i l1), (2, ml_i l2)]) dX10_lodgerFact_9 (ml_hn hL rfl) rfl <| ml_iload_n dX10_lodgerFact_10 3 rfl <| ml_sw_of h (fun hq1362 h => ml_swInC (off := 29) (0 : Int32) hq1362 dX10_lodgerFact_11 ⟨by decide, by decide, by decide⟩ <| ml_aload_n dX10_lodgerFact_40 0 rfl <| ml_ck_of h fun hc1361 h => ml_getI dX10_lodgerFact_41 wb_208 hc1361 <| ml_rp (mk := ml_i) hr dX10_lodgerFact_44 (fun _ => trivial) h) (fun hq1363 h => ml_sw_of h (fun hq1365 h => ml_swInC (off := 34) (1 : Int32) hq1365 dX10_lodgerFact_11 ⟨by decide, by decide, by decide⟩ <| ml_aload_n dX10_lodgerFact_45 0 rfl <| ml_ck_of h fun hc1364 h => ml_getI dX10_lodgerFact_46 wb_209 hc1364 <| ml_rp (mk := ml_i) hr dX10_lodgerFact_49 (fun _ => trivial) h) (fun hq1366 h => ml_sw_of h (fun hq1368 h => ml_swInC (off := 39) (2 : Int32) hq1368 dX10_lodgerFact_11 ⟨by decide, by decide, by decide⟩ <| ml_aload_n dX10_lodgerFact_50 0 rfl <| ml_ck_of h fun hc1367 h => ml_getI dX10_lodgerFact_51 wb_210 hc1367 <| ml_rp (mk := ml_i) hr dX10_lodgerFact_54 (fun _ => trivial) h) (fun hq1369 h => ml_sw_of h (fun hq1371 h => ml_swInC (off := 44) (3 : Int32) hq1371 dX10_lodgerFact_11 ⟨by decide, by decide, by decide⟩ <| ml_aload_n dX10_lodgerFact_55 0 rfl <| ml_ck_of h fun hc1370 h => ml_getI dX10_lodgerFact_56 wb_211 hc1370 <| ml_rp (mk := ml_i) hr dX10_lodgerFact_59 (fun _ => trivial) h) (fun hq1372 h => ml_swOut dX10_lodgerFact_11 (by have w0 := lv_neT hq1363 (show (0 : Int32).toInt = 0 from by decide); have w1 := lv_neT hq1366 (show (1 : Int32).toInt = 1 from by decide); have w2 := lv_neT hq1369 (show (2 : Int32).toInt = 2 from by decide); have w3 := lv_neT hq1372 (show (3 : Int32).toInt = 3 from by decide); omega) (by decide) <| ml_aload_n dX10_lodgerFact_60 0 rfl <| ml_ck_of h fun hc1373 h => ml_getI dX10_lodgerFact_61 wb_212 hc1373 <| ml_rp (mk := ml_i) hr dX10_lodgerFact_64 (fun _ => trivial) h))))
theorem sX10_lodgerFact {l0 : Nat} {l1 : Int32} {l2 : Int32} {m : ml_M} {rv : Int32} (h : fX10_lodgerFact l0 l1 l2 m = some rv) : ml_Sn yX10_lodgerFact cX10_lodgerFact 4 (some .int) 2 [ml_r l0, ml_i l1, ml_i l2] m (some (ml_i rv)) m :=
  ml_Sn_of (P := True) (ini := false) (by decide +kernel) (Nat.le_of_ble_eq_true rfl) (fun h => by cases h) (fun _ => ml_RkI rv) fun E hL hr => wX10_lodgerFact_0 hL hr _ _ _ h
theorem dX10_lodger_0 : ml_d cX10_lodger 0 (.aload_n 0) 1 1 := ⟨by decide +kernel, rfl⟩
theorem dX10_lodger_1 : ml_d cX10_lodger 1 (.iload_n 1) 1 2 := ⟨by decide +kernel, rfl⟩
theorem dX10_lodger_2 : ml_d cX10_lodger 2 (.invokevirtual 141) 3 5 := ⟨by decide +kernel, rfl⟩
theorem dX10_lodger_5 : ml_j cX10_lodger 5 (.ifCond .eq) 17 8 := ⟨12, by decide +kernel, by decide, rfl⟩
theorem dX10_lodger_8 : ml_d cX10_lodger 8 (.iload_n 2) 1 9 := ⟨by decide +kernel, rfl⟩
theorem dX10_lodger_9 : ml_d cX10_lodger 9 (.iconst 0) 1 10 := ⟨by decide +kernel, rfl⟩
theorem dX10_lodger_10 : ml_d cX10_lodger 10 (.iconst 4) 1 11 := ⟨by decide +kernel, rfl⟩
theorem dX10_lodger_11 : ml_d cX10_lodger 11 (.invokestatic 138) 3 14 := ⟨by decide +kernel, rfl⟩
theorem dX10_lodger_14 : ml_j cX10_lodger 14 (.ifCond .ne) 19 17 := ⟨5, by decide +kernel, by decide, rfl⟩
theorem dX10_lodger_17 : ml_d cX10_lodger 17 (.iconst (-1)) 1 18 := ⟨by decide +kernel, rfl⟩
theorem dX10_lodger_18 : ml_d cX10_lodger 18 (.ireturn) 1 19 := ⟨by decide +kernel, rfl⟩
theorem dX10_lodger_19 : ml_d cX10_lodger 19 (.aload_n 0) 1 20 := ⟨by decide +kernel, rfl⟩
theorem dX10_lodger_20 : ml_d cX10_lodger 20 (.aload_n 0) 1 21 := ⟨by decide +kernel, rfl⟩
theorem dX10_lodger_21 : ml_d cX10_lodger 21 (.iload_n 1) 1 22 := ⟨by decide +kernel, rfl⟩
theorem dX10_lodger_22 : ml_d cX10_lodger 22 (.iload_n 2) 1 23 := ⟨by decide +kernel, rfl⟩
theorem dX10_lodger_23 : ml_d cX10_lodger 23 (.invokevirtual 144) 3 26 := ⟨by decide +kernel, rfl⟩
theorem dX10_lodger_26 : ml_d cX10_lodger 26 (.invokevirtual 90) 3 29 := ⟨by decide +kernel, rfl⟩
theorem dX10_lodger_29 : ml_d cX10_lodger 29 (.ireturn) 1 30 := ⟨by decide +kernel, rfl⟩
def fX10_lodger (l0 : Nat) (l1 : Int32) (l2 : Int32) (m : ml_M) : Option (Int32 × ml_M) :=
    if (ml_K m l0).1 = 10 then
    ml_b1 (fX10_isLodger l0 l1 m) fun r1376 =>
    if r1376 = 0 then
    some ((-1 : Int32), m)
    else
    ml_b1 (fX10_within l2 (0 : Int32) (4 : Int32) m) fun r1378 =>
    if r1378 = 0 then
    some ((-1 : Int32), m)
    else
    ml_b1 (fX10_lodgerFact l0 l1 l2 m) fun r1380 =>
    ml_b2 (fX10_tell l0 r1380 m) fun r1382 m1383 =>
    some (r1382, m1383)
    else none
theorem wX10_lodger_0 {E : ml_E} (hL : ml_eL E = 3) {rv : Int32} {rm : ml_M} (hr : ∀ (pc pc' : Nat) (lv : List (Nat × ml_X)), ml_d cX10_lodger pc .ireturn 1 pc' → True → ml_V E "LostRoom" cX10_lodger 4 false rm pc lv [ml_i rv]) : ∀ (l0 : Nat) (l1 : Int32) (l2 : Int32) (m : ml_M), fX10_lodger l0 l1 l2 m = some (rv, rm) → ml_V E "LostRoom" cX10_lodger 4 false m 0 [(0, ml_r l0), (1, ml_i l1), (2, ml_i l2)] [] := by
  intro l0 l1 l2 m h
  unfold fX10_lodger at h
  exact ml_aload_n dX10_lodger_0 0 rfl <| ml_iload_n dX10_lodger_1 1 rfl <| ml_ck_of h fun hc1375 h => ml_b1_of h fun r1376 hv1374 h => ml_callV dX10_lodger_2 wm_296 wb_213 hc1375 (sX10_isLodger hv1374) rfl (Nat.le_of_ble_eq_true rfl) (Nat.le_of_ble_eq_true rfl) rfl <| ml_if_eq dX10_lodger_5 h (fun _ h => ml_iconst dX10_lodger_17 kc_im1 <| ml_rI (mk := ml_i) hr dX10_lodger_18 (fun _ => trivial) h) (fun _ h => ml_iload_n dX10_lodger_8 2 rfl <| ml_iconst dX10_lodger_9 kc_i0 <| ml_iconst dX10_lodger_10 kc_i4 <| ml_b1_of h fun r1378 hv1377 h => ml_callS dX10_lodger_11 wm_124 wb_94 (sX10_within hv1377) rfl (Nat.le_of_ble_eq_true rfl) (Nat.le_of_ble_eq_true rfl) rfl <| ml_if_ne dX10_lodger_14 h (fun _ h => ml_aload_n dX10_lodger_19 0 rfl <| ml_aload_n dX10_lodger_20 0 rfl <| ml_iload_n dX10_lodger_21 1 rfl <| ml_iload_n dX10_lodger_22 2 rfl <| ml_b1_of h fun r1380 hv1379 h => ml_callV dX10_lodger_23 wm_300 wb_214 hc1375 (sX10_lodgerFact hv1379) rfl (Nat.le_of_ble_eq_true rfl) (Nat.le_of_ble_eq_true rfl) rfl <| ml_b2_of h fun r1382 m1383 hv1381 h => ml_callV dX10_lodger_26 wm_149 wb_107 hc1375 (sX10_tell hv1381) rfl (Nat.le_of_ble_eq_true rfl) (Nat.le_of_ble_eq_true rfl) rfl <| ml_rI (mk := ml_i) hr dX10_lodger_29 (fun _ => trivial) h) (fun _ h => ml_iconst dX10_lodger_17 kc_im1 <| ml_rI (mk := ml_i) hr dX10_lodger_18 (fun _ => trivial) h))
theorem sX10_lodger {l0 : Nat} {l1 : Int32} {l2 : Int32} {m : ml_M} {rv : Int32} {rm : ml_M} (h : fX10_lodger l0 l1 l2 m = some (rv, rm)) : ml_Sn yX10_lodger cX10_lodger 3 (some .int) 4 [ml_r l0, ml_i l1, ml_i l2] m (some (ml_i rv)) rm :=
  ml_Sn_of (P := True) (ini := false) (by decide +kernel) (Nat.le_of_ble_eq_true rfl) (fun h => by cases h) (fun _ => ml_RkI rv) fun E hL hr => wX10_lodger_0 hL hr _ _ _ _ h
theorem dX11_isLodger_0 : ml_d cX11_isLodger 0 (.iload_n 1) 1 1 := ⟨by decide +kernel, rfl⟩
theorem dX11_isLodger_1 : ml_d cX11_isLodger 1 (.iconst 0) 1 2 := ⟨by decide +kernel, rfl⟩
theorem dX11_isLodger_2 : ml_d cX11_isLodger 2 (.aload_n 0) 1 3 := ⟨by decide +kernel, rfl⟩
theorem dX11_isLodger_3 : ml_d cX11_isLodger 3 (.getfield 172) 3 6 := ⟨by decide +kernel, rfl⟩
theorem dX11_isLodger_6 : ml_d cX11_isLodger 6 (.iconst 1) 1 7 := ⟨by decide +kernel, rfl⟩
theorem dX11_isLodger_7 : ml_d cX11_isLodger 7 (.isub) 1 8 := ⟨by decide +kernel, rfl⟩
theorem dX11_isLodger_8 : ml_d cX11_isLodger 8 (.invokestatic 100) 3 11 := ⟨by decide +kernel, rfl⟩
theorem dX11_isLodger_11 : ml_d cX11_isLodger 11 (.ireturn) 1 12 := ⟨by decide +kernel, rfl⟩
def fX11_isLodger (l0 : Nat) (l1 : Int32) (m : ml_M) : Option Int32 :=
    if (ml_K m l0).1 = 11 then
    ml_b1 (fX11_in l1 (0 : Int32) ((ml_I m l0 9) - (1 : Int32)) m) fun r1386 =>
    if r1386 = 0 ∨ r1386 = 1 then some r1386 else none
    else none
theorem wX11_isLodger_0 {E : ml_E} (hL : ml_eL E = 2) {rv : Int32} {m : ml_M} (hr : ∀ (pc pc' : Nat) (lv : List (Nat × ml_X)), ml_d cX11_isLodger pc .ireturn 1 pc' → (rv = 0 ∨ rv = 1) → ml_V E "LostRoomModel" cX11_isLodger 3 false m pc lv [ml_i rv]) : ∀ (l0 : Nat) (l1 : Int32), fX11_isLodger l0 l1 m = some rv → ml_V E "LostRoomModel" cX11_isLodger 3 false m 0 [(0, ml_r l0), (1, ml_i l1)] [] := by
  intro l0 l1 h
  unfold fX11_isLodger at h
  exact ml_iload_n dX11_isLodger_0 1 rfl <| ml_iconst dX11_isLodger_1 kc_i0 <| ml_aload_n dX11_isLodger_2 0 rfl <| ml_ck_of h fun hc1384 h => ml_getI dX11_isLodger_3 wb_215 hc1384 <| ml_iconst dX11_isLodger_6 kc_i1 <| ml_isub dX11_isLodger_7 <| ml_b1_of h fun r1386 hv1385 h => ml_callS dX11_isLodger_8 wm_136 wb_100 (sX11_in hv1385) rfl (Nat.le_of_ble_eq_true rfl) (Nat.le_of_ble_eq_true rfl) rfl <| ml_ck_of h fun hz1387 h => ml_rp (mk := ml_i) hr dX11_isLodger_11 (fun e => e ▸ hz1387) h
theorem sX11_isLodger {l0 : Nat} {l1 : Int32} {m : ml_M} {rv : Int32} (h : fX11_isLodger l0 l1 m = some rv) : ml_Sn yX11_isLodger cX11_isLodger 2 (some .boolean) 3 [ml_r l0, ml_i l1] m (some (ml_i rv)) m :=
  ml_Sn_of (P := (rv = 0 ∨ rv = 1)) (ini := false) (by decide +kernel) (Nat.le_of_ble_eq_true rfl) (fun h => by cases h) (fun hz => ml_RkZ rv hz) fun E hL hr => wX11_isLodger_0 hL hr _ _ h
theorem dX11_lodger_0 : ml_d cX11_lodger 0 (.aload_n 0) 1 1 := ⟨by decide +kernel, rfl⟩
theorem dX11_lodger_1 : ml_d cX11_lodger 1 (.iload_n 1) 1 2 := ⟨by decide +kernel, rfl⟩
theorem dX11_lodger_2 : ml_d cX11_lodger 2 (.invokevirtual 193) 3 5 := ⟨by decide +kernel, rfl⟩
theorem dX11_lodger_5 : ml_j cX11_lodger 5 (.ifCond .eq) 35 8 := ⟨30, by decide +kernel, by decide, rfl⟩
theorem dX11_lodger_8 : ml_d cX11_lodger 8 (.iload_n 2) 1 9 := ⟨by decide +kernel, rfl⟩
theorem dX11_lodger_9 : ml_d cX11_lodger 9 (.iconst 0) 1 10 := ⟨by decide +kernel, rfl⟩
theorem dX11_lodger_10 : ml_d cX11_lodger 10 (.iconst 4) 1 11 := ⟨by decide +kernel, rfl⟩
theorem dX11_lodger_11 : ml_d cX11_lodger 11 (.invokestatic 100) 3 14 := ⟨by decide +kernel, rfl⟩
theorem dX11_lodger_14 : ml_j cX11_lodger 14 (.ifCond .eq) 35 17 := ⟨21, by decide +kernel, by decide, rfl⟩
theorem dX11_lodger_17 : ml_d cX11_lodger 17 (.aload_n 0) 1 18 := ⟨by decide +kernel, rfl⟩
theorem dX11_lodger_18 : ml_d cX11_lodger 18 (.aload_n 0) 1 19 := ⟨by decide +kernel, rfl⟩
theorem dX11_lodger_19 : ml_d cX11_lodger 19 (.getfield 29) 3 22 := ⟨by decide +kernel, rfl⟩
theorem dX11_lodger_22 : ml_d cX11_lodger 22 (.iconst 5) 1 23 := ⟨by decide +kernel, rfl⟩
theorem dX11_lodger_23 : ml_d cX11_lodger 23 (.iload_n 1) 1 24 := ⟨by decide +kernel, rfl⟩
theorem dX11_lodger_24 : ml_d cX11_lodger 24 (.imul) 1 25 := ⟨by decide +kernel, rfl⟩
theorem dX11_lodger_25 : ml_d cX11_lodger 25 (.iload_n 2) 1 26 := ⟨by decide +kernel, rfl⟩
theorem dX11_lodger_26 : ml_d cX11_lodger 26 (.iadd) 1 27 := ⟨by decide +kernel, rfl⟩
theorem dX11_lodger_27 : ml_d cX11_lodger 27 (.iaload) 1 28 := ⟨by decide +kernel, rfl⟩
theorem dX11_lodger_28 : ml_d cX11_lodger 28 (.iconst 1) 1 29 := ⟨by decide +kernel, rfl⟩
theorem dX11_lodger_29 : ml_d cX11_lodger 29 (.invokevirtual 123) 3 32 := ⟨by decide +kernel, rfl⟩
theorem dX11_lodger_32 : ml_j cX11_lodger 32 .goto 36 35 := ⟨4, by decide +kernel, by decide, rfl⟩
theorem dX11_lodger_35 : ml_d cX11_lodger 35 (.iconst (-1)) 1 36 := ⟨by decide +kernel, rfl⟩
theorem dX11_lodger_36 : ml_d cX11_lodger 36 (.ireturn) 1 37 := ⟨by decide +kernel, rfl⟩
def fX11_lodger (l0 : Nat) (l1 : Int32) (l2 : Int32) (m : ml_M) : Option (Int32 × ml_M) :=
    if (ml_K m l0).1 = 11 then
    ml_b1 (fX11_isLodger l0 l1 m) fun r1390 =>
    if r1390 = 0 then
    some ((-1 : Int32), m)
    else
    ml_b1 (fX11_in l2 (0 : Int32) (4 : Int32) m) fun r1392 =>
    if r1392 = 0 then
    some ((-1 : Int32), m)
    else
    ml_let (ml_R m l0 12) fun a1393 =>
    if ml_in m a1393 20 (((5 : Int32) * l1) + l2) then
    ml_b2 (fX11_tells l0 (ml_I m a1393 (((5 : Int32) * l1) + l2).toNatClampNeg) (1 : Int32) m) fun r1396 m1397 =>
    some (r1396, m1397)
    else none
    else none
theorem wX11_lodger_0 {E : ml_E} (hL : ml_eL E = 3) {rv : Int32} {rm : ml_M} (hr : ∀ (pc pc' : Nat) (lv : List (Nat × ml_X)), ml_d cX11_lodger pc .ireturn 1 pc' → True → ml_V E "LostRoomModel" cX11_lodger 4 false rm pc lv [ml_i rv]) : ∀ (l0 : Nat) (l1 : Int32) (l2 : Int32) (m : ml_M), fX11_lodger l0 l1 l2 m = some (rv, rm) → ml_V E "LostRoomModel" cX11_lodger 4 false m 0 [(0, ml_r l0), (1, ml_i l1), (2, ml_i l2)] [] := by
  intro l0 l1 l2 m h
  unfold fX11_lodger at h
  exact ml_aload_n dX11_lodger_0 0 rfl <| ml_iload_n dX11_lodger_1 1 rfl <| ml_ck_of h fun hc1389 h => ml_b1_of h fun r1390 hv1388 h => ml_callV dX11_lodger_2 wm_304 wb_216 hc1389 (sX11_isLodger hv1388) rfl (Nat.le_of_ble_eq_true rfl) (Nat.le_of_ble_eq_true rfl) rfl <| ml_if_eq dX11_lodger_5 h (fun _ h => ml_iconst dX11_lodger_35 kc_im1 <| ml_rI (mk := ml_i) hr dX11_lodger_36 (fun _ => trivial) h) (fun _ h => ml_iload_n dX11_lodger_8 2 rfl <| ml_iconst dX11_lodger_9 kc_i0 <| ml_iconst dX11_lodger_10 kc_i4 <| ml_b1_of h fun r1392 hv1391 h => ml_callS dX11_lodger_11 wm_136 wb_100 (sX11_in hv1391) rfl (Nat.le_of_ble_eq_true rfl) (Nat.le_of_ble_eq_true rfl) rfl <| ml_if_eq dX11_lodger_14 h (fun _ h => ml_iconst dX11_lodger_35 kc_im1 <| ml_rI (mk := ml_i) hr dX11_lodger_36 (fun _ => trivial) h) (fun _ h => ml_aload_n dX11_lodger_17 0 rfl <| ml_aload_n dX11_lodger_18 0 rfl <| ml_getR dX11_lodger_19 wb_197 hc1389 <| ml_lx (mk := ml_r) h fun a1393 h => ml_iconst dX11_lodger_22 kc_i5 <| ml_iload_n dX11_lodger_23 1 rfl <| ml_imul dX11_lodger_24 <| ml_iload_n dX11_lodger_25 2 rfl <| ml_iadd dX11_lodger_26 <| ml_ck_of h fun hi1394 h => ml_iald dX11_lodger_27 hi1394 <| ml_iconst dX11_lodger_28 kc_i1 <| ml_b2_of h fun r1396 m1397 hv1395 h => ml_callV dX11_lodger_29 wm_158 wb_110 hc1389 (sX11_tells hv1395) rfl (Nat.le_of_ble_eq_true rfl) (Nat.le_of_ble_eq_true rfl) rfl <| ml_goto dX11_lodger_32 <| ml_rI (mk := ml_i) hr dX11_lodger_36 (fun _ => trivial) h))
theorem sX11_lodger {l0 : Nat} {l1 : Int32} {l2 : Int32} {m : ml_M} {rv : Int32} {rm : ml_M} (h : fX11_lodger l0 l1 l2 m = some (rv, rm)) : ml_Sn yX11_lodger cX11_lodger 3 (some .int) 4 [ml_r l0, ml_i l1, ml_i l2] m (some (ml_i rv)) rm :=
  ml_Sn_of (P := True) (ini := false) (by decide +kernel) (Nat.le_of_ble_eq_true rfl) (fun h => by cases h) (fun _ => ml_RkI rv) fun E hL hr => wX11_lodger_0 hL hr _ _ _ _ h
theorem dX10_isTrunk_0 : ml_d cX10_isTrunk 0 (.iload_n 1) 1 1 := ⟨by decide +kernel, rfl⟩
theorem dX10_isTrunk_1 : ml_d cX10_isTrunk 1 (.iconst 0) 1 2 := ⟨by decide +kernel, rfl⟩
theorem dX10_isTrunk_2 : ml_d cX10_isTrunk 2 (.aload_n 0) 1 3 := ⟨by decide +kernel, rfl⟩
theorem dX10_isTrunk_3 : ml_d cX10_isTrunk 3 (.getfield 26) 3 6 := ⟨by decide +kernel, rfl⟩
theorem dX10_isTrunk_6 : ml_d cX10_isTrunk 6 (.getfield 135) 3 9 := ⟨by decide +kernel, rfl⟩
theorem dX10_isTrunk_9 : ml_d cX10_isTrunk 9 (.iconst 1) 1 10 := ⟨by decide +kernel, rfl⟩
theorem dX10_isTrunk_10 : ml_d cX10_isTrunk 10 (.isub) 1 11 := ⟨by decide +kernel, rfl⟩
theorem dX10_isTrunk_11 : ml_d cX10_isTrunk 11 (.invokestatic 138) 3 14 := ⟨by decide +kernel, rfl⟩
theorem dX10_isTrunk_14 : ml_d cX10_isTrunk 14 (.ireturn) 1 15 := ⟨by decide +kernel, rfl⟩
def fX10_isTrunk (l0 : Nat) (l1 : Int32) (m : ml_M) : Option Int32 :=
    if (ml_K m l0).1 = 10 then
    ml_let (ml_R m l0 2) fun a1399 =>
    if (ml_K m a1399).1 = 1 then
    ml_b1 (fX10_within l1 (0 : Int32) ((ml_I m a1399 3) - (1 : Int32)) m) fun r1402 =>
    if r1402 = 0 ∨ r1402 = 1 then some r1402 else none
    else none
    else none
theorem wX10_isTrunk_0 {E : ml_E} (hL : ml_eL E = 2) {rv : Int32} {m : ml_M} (hr : ∀ (pc pc' : Nat) (lv : List (Nat × ml_X)), ml_d cX10_isTrunk pc .ireturn 1 pc' → (rv = 0 ∨ rv = 1) → ml_V E "LostRoom" cX10_isTrunk 3 false m pc lv [ml_i rv]) : ∀ (l0 : Nat) (l1 : Int32), fX10_isTrunk l0 l1 m = some rv → ml_V E "LostRoom" cX10_isTrunk 3 false m 0 [(0, ml_r l0), (1, ml_i l1)] [] := by
  intro l0 l1 h
  unfold fX10_isTrunk at h
  exact ml_iload_n dX10_isTrunk_0 1 rfl <| ml_iconst dX10_isTrunk_1 kc_i0 <| ml_aload_n dX10_isTrunk_2 0 rfl <| ml_ck_of h fun hc1398 h => ml_getR dX10_isTrunk_3 wb_189 hc1398 <| ml_lx (mk := ml_r) h fun a1399 h => ml_ck_of h fun hc1400 h => ml_getI dX10_isTrunk_6 wb_190 hc1400 <| ml_iconst dX10_isTrunk_9 kc_i1 <| ml_isub dX10_isTrunk_10 <| ml_b1_of h fun r1402 hv1401 h => ml_callS dX10_isTrunk_11 wm_124 wb_94 (sX10_within hv1401) rfl (Nat.le_of_ble_eq_true rfl) (Nat.le_of_ble_eq_true rfl) rfl <| ml_ck_of h fun hz1403 h => ml_rp (mk := ml_i) hr dX10_isTrunk_14 (fun e => e ▸ hz1403) h
theorem sX10_isTrunk {l0 : Nat} {l1 : Int32} {m : ml_M} {rv : Int32} (h : fX10_isTrunk l0 l1 m = some rv) : ml_Sn yX10_isTrunk cX10_isTrunk 2 (some .boolean) 3 [ml_r l0, ml_i l1] m (some (ml_i rv)) m :=
  ml_Sn_of (P := (rv = 0 ∨ rv = 1)) (ini := false) (by decide +kernel) (Nat.le_of_ble_eq_true rfl) (fun h => by cases h) (fun hz => ml_RkZ rv hz) fun E hL hr => wX10_isTrunk_0 hL hr _ _ h
theorem dX10_thingsIn_0 : ml_d cX10_thingsIn 0 (.iconst 0) 1 1 := ⟨by decide +kernel, rfl⟩
theorem dX10_thingsIn_1 : ml_d cX10_thingsIn 1 (.istore_n 2) 1 2 := ⟨by decide +kernel, rfl⟩
theorem dX10_thingsIn_2 : ml_d cX10_thingsIn 2 (.iconst 0) 1 3 := ⟨by decide +kernel, rfl⟩
theorem dX10_thingsIn_3 : ml_d cX10_thingsIn 3 (.istore_n 3) 1 4 := ⟨by decide +kernel, rfl⟩
theorem dX10_thingsIn_4 : ml_d cX10_thingsIn 4 (.iload_n 3) 1 5 := ⟨by decide +kernel, rfl⟩
theorem dX10_thingsIn_5 : ml_d cX10_thingsIn 5 (.aload_n 0) 1 6 := ⟨by decide +kernel, rfl⟩
theorem dX10_thingsIn_6 : ml_d cX10_thingsIn 6 (.getfield 118) 3 9 := ⟨by decide +kernel, rfl⟩
theorem dX10_thingsIn_9 : ml_j cX10_thingsIn 9 (.if_icmp .ge) 34 12 := ⟨25, by decide +kernel, by decide, rfl⟩
theorem dX10_thingsIn_12 : ml_d cX10_thingsIn 12 (.aload_n 0) 1 13 := ⟨by decide +kernel, rfl⟩
theorem dX10_thingsIn_13 : ml_d cX10_thingsIn 13 (.getfield 36) 3 16 := ⟨by decide +kernel, rfl⟩
theorem dX10_thingsIn_16 : ml_d cX10_thingsIn 16 (.iload_n 3) 1 17 := ⟨by decide +kernel, rfl⟩
theorem dX10_thingsIn_17 : ml_d cX10_thingsIn 17 (.aaload) 1 18 := ⟨by decide +kernel, rfl⟩
theorem dX10_thingsIn_18 : ml_d cX10_thingsIn 18 (.getfield 175) 3 21 := ⟨by decide +kernel, rfl⟩
theorem dX10_thingsIn_21 : ml_d cX10_thingsIn 21 (.iload_n 1) 1 22 := ⟨by decide +kernel, rfl⟩
theorem dX10_thingsIn_22 : ml_j cX10_thingsIn 22 (.if_icmp .ne) 28 25 := ⟨6, by decide +kernel, by decide, rfl⟩
theorem dX10_thingsIn_25 : ml_d cX10_thingsIn 25 (.iinc 2 1) 3 28 := ⟨by decide +kernel, rfl⟩
theorem dX10_thingsIn_28 : ml_d cX10_thingsIn 28 (.iinc 3 1) 3 31 := ⟨by decide +kernel, rfl⟩
theorem dX10_thingsIn_31 : ml_j cX10_thingsIn 31 .goto 4 34 := ⟨(-27), by decide +kernel, by decide, rfl⟩
theorem dX10_thingsIn_34 : ml_d cX10_thingsIn 34 (.iload_n 2) 1 35 := ⟨by decide +kernel, rfl⟩
theorem dX10_thingsIn_35 : ml_d cX10_thingsIn 35 (.ireturn) 1 36 := ⟨by decide +kernel, rfl⟩
def fX10_thingsIn_28 (k4 : Nat → Int32 → Int32 → Int32 → ml_M → Option Int32) (l0 : Nat) (l1 : Int32) (l2 : Int32) (l3 : Int32) (m : ml_M) : Option Int32 :=
    k4 l0 l1 l2 (l3 + (1 : Int32)) m
theorem vX10_thingsIn_28 {E : ml_E} (hL : ml_eL E = 4) {rv : Int32} {m : ml_M} (hr : ∀ (pc pc' : Nat) (lv : List (Nat × ml_X)), ml_d cX10_thingsIn pc .ireturn 1 pc' → True → ml_V E "LostRoom" cX10_thingsIn 2 false m pc lv [ml_i rv]) {k4 : Nat → Int32 → Int32 → Int32 → ml_M → Option Int32} (hk4 : ∀ (l0 : Nat) (l1 : Int32) (l2 : Int32) (l3 : Int32), k4 l0 l1 l2 l3 m = some rv → ml_V E "LostRoom" cX10_thingsIn 2 false m 4 [(0, ml_r l0), (1, ml_i l1), (2, ml_i l2), (3, ml_i l3)] []) : ∀ (l0 : Nat) (l1 : Int32) (l2 : Int32) (l3 : Int32), fX10_thingsIn_28 k4 l0 l1 l2 l3 m = some rv → ml_V E "LostRoom" cX10_thingsIn 2 false m 28 [(0, ml_r l0), (1, ml_i l1), (2, ml_i l2), (3, ml_i l3)] [] := by
  intro l0 l1 l2 l3 h
  unfold fX10_thingsIn_28 at h
  exact ml_iinc (lv' := [(3, ml_i (l3 + (1 : Int32))), (0, ml_r l0), (1, ml_i l1), (2, ml_i l2)]) dX10_thingsIn_28 3 rfl (congrArg (l3 + ·) kc_i1) (ml_hn hL rfl) rfl <| ml_goto dX10_thingsIn_31 <| ml_V.sub [1, 2, 3, 0] rfl (hk4 _ _ _ _ h)
def fX10_thingsIn_4 : Nat → Nat → Int32 → Int32 → Int32 → ml_M → Option Int32
  | 0, _, _, _, _, _ => none
  | fu + 1, l0, l1, l2, l3, m =>
    if (ml_K m l0).1 = 10 then
    if (ml_I m l0 5) ≤ l3 then
    some l2
    else
    ml_let (ml_R m l0 4) fun a1405 =>
    if ml_in m a1405 29 l3 then
    ml_let (ml_R m a1405 l3.toNatClampNeg) fun a1407 =>
    if (ml_K m a1407).1 = 8 then
    if (ml_I m a1407 6) = l1 then
    fX10_thingsIn_28 (fX10_thingsIn_4 fu) l0 l1 (l2 + (1 : Int32)) l3 m
    else
    fX10_thingsIn_28 (fX10_thingsIn_4 fu) l0 l1 l2 l3 m
    else none
    else none
    else none
theorem vX10_thingsIn_4 {E : ml_E} (hL : ml_eL E = 4) {rv : Int32} {m : ml_M} (hr : ∀ (pc pc' : Nat) (lv : List (Nat × ml_X)), ml_d cX10_thingsIn pc .ireturn 1 pc' → True → ml_V E "LostRoom" cX10_thingsIn 2 false m pc lv [ml_i rv]) : ∀ (fu : Nat) (l0 : Nat) (l1 : Int32) (l2 : Int32) (l3 : Int32), fX10_thingsIn_4 fu l0 l1 l2 l3 m = some rv → ml_V E "LostRoom" cX10_thingsIn 2 false m 4 [(0, ml_r l0), (1, ml_i l1), (2, ml_i l2), (3, ml_i l3)] [] := by
  intro fu
  induction fu with
  | zero => intro l0 l1 l2 l3 h; exact ml_none h
  | succ fu ih =>
    intro l0 l1 l2 l3 h
    have hk4 := ih
    unfold fX10_thingsIn_4 at h
    exact ml_iload_n dX10_thingsIn_4 3 rfl <| ml_aload_n dX10_thingsIn_5 0 rfl <| ml_ck_of h fun hc1404 h => ml_getI dX10_thingsIn_6 wb_217 hc1404 <| ml_icmp_ge dX10_thingsIn_9 h (fun _ h => ml_iload_n dX10_thingsIn_34 2 rfl <| ml_rp (mk := ml_i) hr dX10_thingsIn_35 (fun _ => trivial) h) (fun _ h => ml_aload_n dX10_thingsIn_12 0 rfl <| ml_getR dX10_thingsIn_13 wb_218 hc1404 <| ml_lx (mk := ml_r) h fun a1405 h => ml_iload_n dX10_thingsIn_16 3 rfl <| ml_ck_of h fun hi1406 h => ml_aald (kd := 29) dX10_thingsIn_17 (by decide) hi1406 <| ml_lx (mk := ml_r) h fun a1407 h => ml_ck_of h fun hc1408 h => ml_getI dX10_thingsIn_18 wb_219 hc1408 <| ml_iload_n dX10_thingsIn_21 1 rfl <| ml_icmp_ne dX10_thingsIn_22 h (fun _ h => ml_V.sub [0, 1, 2, 3] rfl (vX10_thingsIn_28 hL hr hk4 _ _ _ _ h)) (fun _ h => ml_iinc (lv' := [(2, ml_i (l2 + (1 : Int32))), (0, ml_r l0), (1, ml_i l1), (3, ml_i l3)]) dX10_thingsIn_25 2 rfl (congrArg (l2 + ·) kc_i1) (ml_hn hL rfl) rfl <| ml_V.sub [1, 2, 0, 3] rfl (vX10_thingsIn_28 hL hr hk4 _ _ _ _ h)))
def fX10_thingsIn (l0 : Nat) (l1 : Int32) (m : ml_M) : Option Int32 :=
    fX10_thingsIn_4 ml_fu l0 l1 (0 : Int32) (0 : Int32) m
theorem wX10_thingsIn_0 {E : ml_E} (hL : ml_eL E = 4) {rv : Int32} {m : ml_M} (hr : ∀ (pc pc' : Nat) (lv : List (Nat × ml_X)), ml_d cX10_thingsIn pc .ireturn 1 pc' → True → ml_V E "LostRoom" cX10_thingsIn 2 false m pc lv [ml_i rv]) : ∀ (l0 : Nat) (l1 : Int32), fX10_thingsIn l0 l1 m = some rv → ml_V E "LostRoom" cX10_thingsIn 2 false m 0 [(0, ml_r l0), (1, ml_i l1)] [] := by
  intro l0 l1 h
  unfold fX10_thingsIn at h
  exact ml_iconst dX10_thingsIn_0 kc_i0 <| ml_istore_n (lv' := [(2, ml_i (0 : Int32)), (0, ml_r l0), (1, ml_i l1)]) dX10_thingsIn_1 (ml_hn hL rfl) rfl <| ml_iconst dX10_thingsIn_2 kc_i0 <| ml_istore_n (lv' := [(3, ml_i (0 : Int32)), (2, ml_i (0 : Int32)), (0, ml_r l0), (1, ml_i l1)]) dX10_thingsIn_3 (ml_hn hL rfl) rfl <| ml_V.sub [2, 3, 1, 0] rfl (vX10_thingsIn_4 hL hr  ml_fu _ _ _ _ h)
theorem sX10_thingsIn {l0 : Nat} {l1 : Int32} {m : ml_M} {rv : Int32} (h : fX10_thingsIn l0 l1 m = some rv) : ml_Sn yX10_thingsIn cX10_thingsIn 4 (some .int) 2 [ml_r l0, ml_i l1] m (some (ml_i rv)) m :=
  ml_Sn_of (P := True) (ini := false) (by decide +kernel) (Nat.le_of_ble_eq_true rfl) (fun h => by cases h) (fun _ => ml_RkI rv) fun E hL hr => wX10_thingsIn_0 hL hr _ _ h
theorem dX10_trunkFact_0 : ml_d cX10_trunkFact 0 (.aload_n 0) 1 1 := ⟨by decide +kernel, rfl⟩
theorem dX10_trunkFact_1 : ml_d cX10_trunkFact 1 (.getfield 26) 3 4 := ⟨by decide +kernel, rfl⟩
theorem dX10_trunkFact_4 : ml_d cX10_trunkFact 4 (.getfield 219) 3 7 := ⟨by decide +kernel, rfl⟩
theorem dX10_trunkFact_7 : ml_d cX10_trunkFact 7 (.iload_n 1) 1 8 := ⟨by decide +kernel, rfl⟩
theorem dX10_trunkFact_8 : ml_d cX10_trunkFact 8 (.aaload) 1 9 := ⟨by decide +kernel, rfl⟩
theorem dX10_trunkFact_9 : ml_d cX10_trunkFact 9 (.astore_n 3) 1 10 := ⟨by decide +kernel, rfl⟩
theorem dX10_trunkFact_10 : ml_d cX10_trunkFact 10 (.iload_n 2) 1 11 := ⟨by decide +kernel, rfl⟩
theorem dX10_trunkFact_11 : decode cX10_trunkFact 11 = .ok (.tableswitch 40 0 2 #[25, 30, 35], 25) := by decide +kernel
theorem dX10_trunkFact_36 : ml_d cX10_trunkFact 36 (.aload_n 3) 1 37 := ⟨by decide +kernel, rfl⟩
theorem dX10_trunkFact_37 : ml_d cX10_trunkFact 37 (.getfield 381) 3 40 := ⟨by decide +kernel, rfl⟩
theorem dX10_trunkFact_40 : ml_d cX10_trunkFact 40 (.ireturn) 1 41 := ⟨by decide +kernel, rfl⟩
theorem dX10_trunkFact_41 : ml_d cX10_trunkFact 41 (.aload_n 3) 1 42 := ⟨by decide +kernel, rfl⟩
theorem dX10_trunkFact_42 : ml_d cX10_trunkFact 42 (.getfield 223) 3 45 := ⟨by decide +kernel, rfl⟩
theorem dX10_trunkFact_45 : ml_d cX10_trunkFact 45 (.ireturn) 1 46 := ⟨by decide +kernel, rfl⟩
theorem dX10_trunkFact_46 : ml_d cX10_trunkFact 46 (.aload_n 3) 1 47 := ⟨by decide +kernel, rfl⟩
theorem dX10_trunkFact_47 : ml_d cX10_trunkFact 47 (.getfield 384) 3 50 := ⟨by decide +kernel, rfl⟩
theorem dX10_trunkFact_50 : ml_d cX10_trunkFact 50 (.ireturn) 1 51 := ⟨by decide +kernel, rfl⟩
theorem dX10_trunkFact_51 : ml_d cX10_trunkFact 51 (.aload_n 0) 1 52 := ⟨by decide +kernel, rfl⟩
theorem dX10_trunkFact_52 : ml_d cX10_trunkFact 52 (.iload_n 1) 1 53 := ⟨by decide +kernel, rfl⟩
theorem dX10_trunkFact_53 : ml_d cX10_trunkFact 53 (.invokevirtual 387) 3 56 := ⟨by decide +kernel, rfl⟩
theorem dX10_trunkFact_56 : ml_d cX10_trunkFact 56 (.ireturn) 1 57 := ⟨by decide +kernel, rfl⟩
def fX10_trunkFact (l0 : Nat) (l1 : Int32) (l2 : Int32) (m : ml_M) : Option Int32 :=
    if (ml_K m l0).1 = 10 then
    ml_let (ml_R m l0 2) fun a1410 =>
    if (ml_K m a1410).1 = 1 then
    ml_let (ml_R m a1410 1) fun a1412 =>
    if ml_in m a1412 30 l1 then
    ml_let (ml_R m a1412 l1.toNatClampNeg) fun a1414 =>
    if l2 = (0 : Int32) then
    if (ml_K m a1414).1 = 9 then
    some (ml_I m a1414 0)
    else none
    else if l2 = (1 : Int32) then
    if (ml_K m a1414).1 = 9 then
    some (ml_I m a1414 1)
    else none
    else if l2 = (2 : Int32) then
    if (ml_K m a1414).1 = 9 then
    some (ml_I m a1414 2)
    else none
    else ml_b1 (fX10_thingsIn l0 l1 m) fun r1425 =>
    some r1425
    else none
    else none
    else none
theorem wX10_trunkFact_0 {E : ml_E} (hL : ml_eL E = 4) {rv : Int32} {m : ml_M} (hr : ∀ (pc pc' : Nat) (lv : List (Nat × ml_X)), ml_d cX10_trunkFact pc .ireturn 1 pc' → True → ml_V E "LostRoom" cX10_trunkFact 3 false m pc lv [ml_i rv]) : ∀ (l0 : Nat) (l1 : Int32) (l2 : Int32), fX10_trunkFact l0 l1 l2 m = some rv → ml_V E "LostRoom" cX10_trunkFact 3 false m 0 [(0, ml_r l0), (1, ml_i l1), (2, ml_i l2)] [] := by
  intro l0 l1 l2 h
  unfold fX10_trunkFact at h
  exact ml_aload_n dX10_trunkFact_0 0 rfl <| ml_ck_of h fun hc1409 h => ml_getR dX10_trunkFact_1 wb_189 hc1409 <| ml_lx (mk := ml_r) h fun a1410 h => ml_ck_of h fun hc1411 h => ml_getR dX10_trunkFact_4 wb_220 hc1411 <| ml_lx (mk := ml_r) h fun a1412 h => ml_iload_n dX10_trunkFact_7 1 rfl <| ml_ck_of h fun hi1413 h => ml_aald (kd := 30) dX10_trunkFact_8 (by decide) hi1413 <| ml_lx (mk := ml_r) h fun a1414 h => ml_astore_n (lv' := [(3, ml_r a1414), (0, ml_r l0), (1, ml_i l1), (2, ml_i l2)]) dX10_trunkFact_9 (ml_hn hL rfl) rfl <| ml_iload_n dX10_trunkFact_10 3 rfl <| ml_sw_of h (fun hq1416 h => ml_swInC (off := 25) (0 : Int32) hq1416 dX10_trunkFact_11 ⟨by decide, by decide, by decide⟩ <| ml_aload_n dX10_trunkFact_36 0 rfl <| ml_ck_of h fun hc1415 h => ml_getI dX10_trunkFact_37 wb_221 hc1415 <| ml_rp (mk := ml_i) hr dX10_trunkFact_40 (fun _ => trivial) h) (fun hq1417 h => ml_sw_of h (fun hq1419 h => ml_swInC (off := 30) (1 : Int32) hq1419 dX10_trunkFact_11 ⟨by decide, by decide, by decide⟩ <| ml_aload_n dX10_trunkFact_41 0 rfl <| ml_ck_of h fun hc1418 h => ml_getI dX10_trunkFact_42 wb_222 hc1418 <| ml_rp (mk := ml_i) hr dX10_trunkFact_45 (fun _ => trivial) h) (fun hq1420 h => ml_sw_of h (fun hq1422 h => ml_swInC (off := 35) (2 : Int32) hq1422 dX10_trunkFact_11 ⟨by decide, by decide, by decide⟩ <| ml_aload_n dX10_trunkFact_46 0 rfl <| ml_ck_of h fun hc1421 h => ml_getI dX10_trunkFact_47 wb_223 hc1421 <| ml_rp (mk := ml_i) hr dX10_trunkFact_50 (fun _ => trivial) h) (fun hq1423 h => ml_swOut dX10_trunkFact_11 (by have w0 := lv_neT hq1417 (show (0 : Int32).toInt = 0 from by decide); have w1 := lv_neT hq1420 (show (1 : Int32).toInt = 1 from by decide); have w2 := lv_neT hq1423 (show (2 : Int32).toInt = 2 from by decide); omega) (by decide) <| ml_aload_n dX10_trunkFact_51 1 rfl <| ml_iload_n dX10_trunkFact_52 2 rfl <| ml_b1_of h fun r1425 hv1424 h => ml_callV dX10_trunkFact_53 wm_313 wb_224 hc1409 (sX10_thingsIn hv1424) rfl (Nat.le_of_ble_eq_true rfl) (Nat.le_of_ble_eq_true rfl) rfl <| ml_rp (mk := ml_i) hr dX10_trunkFact_56 (fun _ => trivial) h)))
theorem sX10_trunkFact {l0 : Nat} {l1 : Int32} {l2 : Int32} {m : ml_M} {rv : Int32} (h : fX10_trunkFact l0 l1 l2 m = some rv) : ml_Sn yX10_trunkFact cX10_trunkFact 4 (some .int) 3 [ml_r l0, ml_i l1, ml_i l2] m (some (ml_i rv)) m :=
  ml_Sn_of (P := True) (ini := false) (by decide +kernel) (Nat.le_of_ble_eq_true rfl) (fun h => by cases h) (fun _ => ml_RkI rv) fun E hL hr => wX10_trunkFact_0 hL hr _ _ _ h
theorem dX10_trunk_0 : ml_d cX10_trunk 0 (.aload_n 0) 1 1 := ⟨by decide +kernel, rfl⟩
theorem dX10_trunk_1 : ml_d cX10_trunk 1 (.iload_n 1) 1 2 := ⟨by decide +kernel, rfl⟩
theorem dX10_trunk_2 : ml_d cX10_trunk 2 (.invokevirtual 148) 3 5 := ⟨by decide +kernel, rfl⟩
theorem dX10_trunk_5 : ml_j cX10_trunk 5 (.ifCond .eq) 17 8 := ⟨12, by decide +kernel, by decide, rfl⟩
theorem dX10_trunk_8 : ml_d cX10_trunk 8 (.iload_n 2) 1 9 := ⟨by decide +kernel, rfl⟩
theorem dX10_trunk_9 : ml_d cX10_trunk 9 (.iconst 0) 1 10 := ⟨by decide +kernel, rfl⟩
theorem dX10_trunk_10 : ml_d cX10_trunk 10 (.iconst 3) 1 11 := ⟨by decide +kernel, rfl⟩
theorem dX10_trunk_11 : ml_d cX10_trunk 11 (.invokestatic 138) 3 14 := ⟨by decide +kernel, rfl⟩
theorem dX10_trunk_14 : ml_j cX10_trunk 14 (.ifCond .ne) 19 17 := ⟨5, by decide +kernel, by decide, rfl⟩
theorem dX10_trunk_17 : ml_d cX10_trunk 17 (.iconst (-1)) 1 18 := ⟨by decide +kernel, rfl⟩
theorem dX10_trunk_18 : ml_d cX10_trunk 18 (.ireturn) 1 19 := ⟨by decide +kernel, rfl⟩
theorem dX10_trunk_19 : ml_d cX10_trunk 19 (.aload_n 0) 1 20 := ⟨by decide +kernel, rfl⟩
theorem dX10_trunk_20 : ml_d cX10_trunk 20 (.aload_n 0) 1 21 := ⟨by decide +kernel, rfl⟩
theorem dX10_trunk_21 : ml_d cX10_trunk 21 (.iload_n 1) 1 22 := ⟨by decide +kernel, rfl⟩
theorem dX10_trunk_22 : ml_d cX10_trunk 22 (.iload_n 2) 1 23 := ⟨by decide +kernel, rfl⟩
theorem dX10_trunk_23 : ml_d cX10_trunk 23 (.invokevirtual 151) 3 26 := ⟨by decide +kernel, rfl⟩
theorem dX10_trunk_26 : ml_d cX10_trunk 26 (.invokevirtual 90) 3 29 := ⟨by decide +kernel, rfl⟩
theorem dX10_trunk_29 : ml_d cX10_trunk 29 (.ireturn) 1 30 := ⟨by decide +kernel, rfl⟩
def fX10_trunk (l0 : Nat) (l1 : Int32) (l2 : Int32) (m : ml_M) : Option (Int32 × ml_M) :=
    if (ml_K m l0).1 = 10 then
    ml_b1 (fX10_isTrunk l0 l1 m) fun r1428 =>
    if r1428 = 0 then
    some ((-1 : Int32), m)
    else
    ml_b1 (fX10_within l2 (0 : Int32) (3 : Int32) m) fun r1430 =>
    if r1430 = 0 then
    some ((-1 : Int32), m)
    else
    ml_b1 (fX10_trunkFact l0 l1 l2 m) fun r1432 =>
    ml_b2 (fX10_tell l0 r1432 m) fun r1434 m1435 =>
    some (r1434, m1435)
    else none
theorem wX10_trunk_0 {E : ml_E} (hL : ml_eL E = 3) {rv : Int32} {rm : ml_M} (hr : ∀ (pc pc' : Nat) (lv : List (Nat × ml_X)), ml_d cX10_trunk pc .ireturn 1 pc' → True → ml_V E "LostRoom" cX10_trunk 4 false rm pc lv [ml_i rv]) : ∀ (l0 : Nat) (l1 : Int32) (l2 : Int32) (m : ml_M), fX10_trunk l0 l1 l2 m = some (rv, rm) → ml_V E "LostRoom" cX10_trunk 4 false m 0 [(0, ml_r l0), (1, ml_i l1), (2, ml_i l2)] [] := by
  intro l0 l1 l2 m h
  unfold fX10_trunk at h
  exact ml_aload_n dX10_trunk_0 0 rfl <| ml_iload_n dX10_trunk_1 1 rfl <| ml_ck_of h fun hc1427 h => ml_b1_of h fun r1428 hv1426 h => ml_callV dX10_trunk_2 wm_317 wb_225 hc1427 (sX10_isTrunk hv1426) rfl (Nat.le_of_ble_eq_true rfl) (Nat.le_of_ble_eq_true rfl) rfl <| ml_if_eq dX10_trunk_5 h (fun _ h => ml_iconst dX10_trunk_17 kc_im1 <| ml_rI (mk := ml_i) hr dX10_trunk_18 (fun _ => trivial) h) (fun _ h => ml_iload_n dX10_trunk_8 2 rfl <| ml_iconst dX10_trunk_9 kc_i0 <| ml_iconst dX10_trunk_10 kc_i3 <| ml_b1_of h fun r1430 hv1429 h => ml_callS dX10_trunk_11 wm_124 wb_94 (sX10_within hv1429) rfl (Nat.le_of_ble_eq_true rfl) (Nat.le_of_ble_eq_true rfl) rfl <| ml_if_ne dX10_trunk_14 h (fun _ h => ml_aload_n dX10_trunk_19 0 rfl <| ml_aload_n dX10_trunk_20 0 rfl <| ml_iload_n dX10_trunk_21 1 rfl <| ml_iload_n dX10_trunk_22 2 rfl <| ml_b1_of h fun r1432 hv1431 h => ml_callV dX10_trunk_23 wm_321 wb_226 hc1427 (sX10_trunkFact hv1431) rfl (Nat.le_of_ble_eq_true rfl) (Nat.le_of_ble_eq_true rfl) rfl <| ml_b2_of h fun r1434 m1435 hv1433 h => ml_callV dX10_trunk_26 wm_149 wb_107 hc1427 (sX10_tell hv1433) rfl (Nat.le_of_ble_eq_true rfl) (Nat.le_of_ble_eq_true rfl) rfl <| ml_rI (mk := ml_i) hr dX10_trunk_29 (fun _ => trivial) h) (fun _ h => ml_iconst dX10_trunk_17 kc_im1 <| ml_rI (mk := ml_i) hr dX10_trunk_18 (fun _ => trivial) h))
theorem sX10_trunk {l0 : Nat} {l1 : Int32} {l2 : Int32} {m : ml_M} {rv : Int32} {rm : ml_M} (h : fX10_trunk l0 l1 l2 m = some (rv, rm)) : ml_Sn yX10_trunk cX10_trunk 3 (some .int) 4 [ml_r l0, ml_i l1, ml_i l2] m (some (ml_i rv)) rm :=
  ml_Sn_of (P := True) (ini := false) (by decide +kernel) (Nat.le_of_ble_eq_true rfl) (fun h => by cases h) (fun _ => ml_RkI rv) fun E hL hr => wX10_trunk_0 hL hr _ _ _ _ h
theorem dX11_isTrunk_0 : ml_d cX11_isTrunk 0 (.iload_n 1) 1 1 := ⟨by decide +kernel, rfl⟩
theorem dX11_isTrunk_1 : ml_d cX11_isTrunk 1 (.iconst 0) 1 2 := ⟨by decide +kernel, rfl⟩
theorem dX11_isTrunk_2 : ml_d cX11_isTrunk 2 (.aload_n 0) 1 3 := ⟨by decide +kernel, rfl⟩
theorem dX11_isTrunk_3 : ml_d cX11_isTrunk 3 (.getfield 175) 3 6 := ⟨by decide +kernel, rfl⟩
theorem dX11_isTrunk_6 : ml_d cX11_isTrunk 6 (.iconst 1) 1 7 := ⟨by decide +kernel, rfl⟩
theorem dX11_isTrunk_7 : ml_d cX11_isTrunk 7 (.isub) 1 8 := ⟨by decide +kernel, rfl⟩
theorem dX11_isTrunk_8 : ml_d cX11_isTrunk 8 (.invokestatic 100) 3 11 := ⟨by decide +kernel, rfl⟩
theorem dX11_isTrunk_11 : ml_d cX11_isTrunk 11 (.ireturn) 1 12 := ⟨by decide +kernel, rfl⟩
def fX11_isTrunk (l0 : Nat) (l1 : Int32) (m : ml_M) : Option Int32 :=
    if (ml_K m l0).1 = 11 then
    ml_b1 (fX11_in l1 (0 : Int32) ((ml_I m l0 10) - (1 : Int32)) m) fun r1438 =>
    if r1438 = 0 ∨ r1438 = 1 then some r1438 else none
    else none
theorem wX11_isTrunk_0 {E : ml_E} (hL : ml_eL E = 2) {rv : Int32} {m : ml_M} (hr : ∀ (pc pc' : Nat) (lv : List (Nat × ml_X)), ml_d cX11_isTrunk pc .ireturn 1 pc' → (rv = 0 ∨ rv = 1) → ml_V E "LostRoomModel" cX11_isTrunk 3 false m pc lv [ml_i rv]) : ∀ (l0 : Nat) (l1 : Int32), fX11_isTrunk l0 l1 m = some rv → ml_V E "LostRoomModel" cX11_isTrunk 3 false m 0 [(0, ml_r l0), (1, ml_i l1)] [] := by
  intro l0 l1 h
  unfold fX11_isTrunk at h
  exact ml_iload_n dX11_isTrunk_0 1 rfl <| ml_iconst dX11_isTrunk_1 kc_i0 <| ml_aload_n dX11_isTrunk_2 0 rfl <| ml_ck_of h fun hc1436 h => ml_getI dX11_isTrunk_3 wb_196 hc1436 <| ml_iconst dX11_isTrunk_6 kc_i1 <| ml_isub dX11_isTrunk_7 <| ml_b1_of h fun r1438 hv1437 h => ml_callS dX11_isTrunk_8 wm_136 wb_100 (sX11_in hv1437) rfl (Nat.le_of_ble_eq_true rfl) (Nat.le_of_ble_eq_true rfl) rfl <| ml_ck_of h fun hz1439 h => ml_rp (mk := ml_i) hr dX11_isTrunk_11 (fun e => e ▸ hz1439) h
theorem sX11_isTrunk {l0 : Nat} {l1 : Int32} {m : ml_M} {rv : Int32} (h : fX11_isTrunk l0 l1 m = some rv) : ml_Sn yX11_isTrunk cX11_isTrunk 2 (some .boolean) 3 [ml_r l0, ml_i l1] m (some (ml_i rv)) m :=
  ml_Sn_of (P := (rv = 0 ∨ rv = 1)) (ini := false) (by decide +kernel) (Nat.le_of_ble_eq_true rfl) (fun h => by cases h) (fun hz => ml_RkZ rv hz) fun E hL hr => wX11_isTrunk_0 hL hr _ _ h
theorem dX11_trunkOf_0 : ml_d cX11_trunkOf 0 (.aload_n 0) 1 1 := ⟨by decide +kernel, rfl⟩
theorem dX11_trunkOf_1 : ml_d cX11_trunkOf 1 (.getfield 47) 3 4 := ⟨by decide +kernel, rfl⟩
theorem dX11_trunkOf_4 : ml_d cX11_trunkOf 4 (.bipush 7) 2 6 := ⟨by decide +kernel, rfl⟩
theorem dX11_trunkOf_6 : ml_d cX11_trunkOf 6 (.iload_n 1) 1 7 := ⟨by decide +kernel, rfl⟩
theorem dX11_trunkOf_7 : ml_d cX11_trunkOf 7 (.imul) 1 8 := ⟨by decide +kernel, rfl⟩
theorem dX11_trunkOf_8 : ml_d cX11_trunkOf 8 (.iconst 3) 1 9 := ⟨by decide +kernel, rfl⟩
theorem dX11_trunkOf_9 : ml_d cX11_trunkOf 9 (.iadd) 1 10 := ⟨by decide +kernel, rfl⟩
theorem dX11_trunkOf_10 : ml_d cX11_trunkOf 10 (.iaload) 1 11 := ⟨by decide +kernel, rfl⟩
theorem dX11_trunkOf_11 : ml_d cX11_trunkOf 11 (.ireturn) 1 12 := ⟨by decide +kernel, rfl⟩
def fX11_trunkOf (l0 : Nat) (l1 : Int32) (m : ml_M) : Option Int32 :=
    if (ml_K m l0).1 = 11 then
    ml_let (ml_R m l0 25) fun a1441 =>
    if ml_in m a1441 20 (((7 : Int32) * l1) + (3 : Int32)) then
    some (ml_I m a1441 (((7 : Int32) * l1) + (3 : Int32)).toNatClampNeg)
    else none
    else none
theorem wX11_trunkOf_0 {E : ml_E} (hL : ml_eL E = 2) {rv : Int32} {m : ml_M} (hr : ∀ (pc pc' : Nat) (lv : List (Nat × ml_X)), ml_d cX11_trunkOf pc .ireturn 1 pc' → True → ml_V E "LostRoomModel" cX11_trunkOf 2 false m pc lv [ml_i rv]) : ∀ (l0 : Nat) (l1 : Int32), fX11_trunkOf l0 l1 m = some rv → ml_V E "LostRoomModel" cX11_trunkOf 2 false m 0 [(0, ml_r l0), (1, ml_i l1)] [] := by
  intro l0 l1 h
  unfold fX11_trunkOf at h
  exact ml_aload_n dX11_trunkOf_0 0 rfl <| ml_ck_of h fun hc1440 h => ml_getR dX11_trunkOf_1 wb_227 hc1440 <| ml_lx (mk := ml_r) h fun a1441 h => ml_bipush dX11_trunkOf_4 kc_b7 <| ml_iload_n dX11_trunkOf_6 1 rfl <| ml_imul dX11_trunkOf_7 <| ml_iconst dX11_trunkOf_8 kc_i3 <| ml_iadd dX11_trunkOf_9 <| ml_ck_of h fun hi1442 h => ml_iald dX11_trunkOf_10 hi1442 <| ml_rp (mk := ml_i) hr dX11_trunkOf_11 (fun _ => trivial) h
theorem sX11_trunkOf {l0 : Nat} {l1 : Int32} {m : ml_M} {rv : Int32} (h : fX11_trunkOf l0 l1 m = some rv) : ml_Sn yX11_trunkOf cX11_trunkOf 2 (some .int) 2 [ml_r l0, ml_i l1] m (some (ml_i rv)) m :=
  ml_Sn_of (P := True) (ini := false) (by decide +kernel) (Nat.le_of_ble_eq_true rfl) (fun h => by cases h) (fun _ => ml_RkI rv) fun E hL hr => wX11_trunkOf_0 hL hr _ _ h
theorem dX11_lyingMany_0 : ml_d cX11_lyingMany 0 (.iconst 0) 1 1 := ⟨by decide +kernel, rfl⟩
theorem dX11_lyingMany_1 : ml_d cX11_lyingMany 1 (.istore_n 2) 1 2 := ⟨by decide +kernel, rfl⟩
theorem dX11_lyingMany_2 : ml_d cX11_lyingMany 2 (.iconst 0) 1 3 := ⟨by decide +kernel, rfl⟩
theorem dX11_lyingMany_3 : ml_d cX11_lyingMany 3 (.istore_n 3) 1 4 := ⟨by decide +kernel, rfl⟩
theorem dX11_lyingMany_4 : ml_d cX11_lyingMany 4 (.iload_n 3) 1 5 := ⟨by decide +kernel, rfl⟩
theorem dX11_lyingMany_5 : ml_d cX11_lyingMany 5 (.aload_n 0) 1 6 := ⟨by decide +kernel, rfl⟩
theorem dX11_lyingMany_6 : ml_d cX11_lyingMany 6 (.getfield 181) 3 9 := ⟨by decide +kernel, rfl⟩
theorem dX11_lyingMany_9 : ml_j cX11_lyingMany 9 (.if_icmp .ge) 35 12 := ⟨26, by decide +kernel, by decide, rfl⟩
theorem dX11_lyingMany_12 : ml_d cX11_lyingMany 12 (.iload_n 2) 1 13 := ⟨by decide +kernel, rfl⟩
theorem dX11_lyingMany_13 : ml_d cX11_lyingMany 13 (.aload_n 0) 1 14 := ⟨by decide +kernel, rfl⟩
theorem dX11_lyingMany_14 : ml_d cX11_lyingMany 14 (.iload_n 3) 1 15 := ⟨by decide +kernel, rfl⟩
theorem dX11_lyingMany_15 : ml_d cX11_lyingMany 15 (.invokevirtual 205) 3 18 := ⟨by decide +kernel, rfl⟩
theorem dX11_lyingMany_18 : ml_d cX11_lyingMany 18 (.iload_n 1) 1 19 := ⟨by decide +kernel, rfl⟩
theorem dX11_lyingMany_19 : ml_j cX11_lyingMany 19 (.if_icmp .ne) 26 22 := ⟨7, by decide +kernel, by decide, rfl⟩
theorem dX11_lyingMany_22 : ml_d cX11_lyingMany 22 (.iconst 1) 1 23 := ⟨by decide +kernel, rfl⟩
theorem dX11_lyingMany_23 : ml_j cX11_lyingMany 23 .goto 27 26 := ⟨4, by decide +kernel, by decide, rfl⟩
theorem dX11_lyingMany_26 : ml_d cX11_lyingMany 26 (.iconst 0) 1 27 := ⟨by decide +kernel, rfl⟩
theorem dX11_lyingMany_27 : ml_d cX11_lyingMany 27 (.iadd) 1 28 := ⟨by decide +kernel, rfl⟩
theorem dX11_lyingMany_28 : ml_d cX11_lyingMany 28 (.istore_n 2) 1 29 := ⟨by decide +kernel, rfl⟩
theorem dX11_lyingMany_29 : ml_d cX11_lyingMany 29 (.iinc 3 1) 3 32 := ⟨by decide +kernel, rfl⟩
theorem dX11_lyingMany_32 : ml_j cX11_lyingMany 32 .goto 4 35 := ⟨(-28), by decide +kernel, by decide, rfl⟩
theorem dX11_lyingMany_35 : ml_d cX11_lyingMany 35 (.iload_n 2) 1 36 := ⟨by decide +kernel, rfl⟩
theorem dX11_lyingMany_36 : ml_d cX11_lyingMany 36 (.ireturn) 1 37 := ⟨by decide +kernel, rfl⟩
def fX11_lyingMany_27 (k4 : Nat → Int32 → Int32 → Int32 → ml_M → Option Int32) (l0 : Nat) (l1 : Int32) (l3 : Int32) (t0 : Int32) (t1 : Int32) (m : ml_M) : Option Int32 :=
    ml_let (t1 + t0) fun x1443 =>
    k4 l0 l1 x1443 (l3 + (1 : Int32)) m
theorem vX11_lyingMany_27 {E : ml_E} (hL : ml_eL E = 4) {rv : Int32} {m : ml_M} (hr : ∀ (pc pc' : Nat) (lv : List (Nat × ml_X)), ml_d cX11_lyingMany pc .ireturn 1 pc' → True → ml_V E "LostRoomModel" cX11_lyingMany 3 false m pc lv [ml_i rv]) {k4 : Nat → Int32 → Int32 → Int32 → ml_M → Option Int32} (hk4 : ∀ (l0 : Nat) (l1 : Int32) (l2 : Int32) (l3 : Int32), k4 l0 l1 l2 l3 m = some rv → ml_V E "LostRoomModel" cX11_lyingMany 3 false m 4 [(0, ml_r l0), (1, ml_i l1), (2, ml_i l2), (3, ml_i l3)] []) : ∀ (l0 : Nat) (l1 : Int32) (l3 : Int32) (t0 : Int32) (t1 : Int32), fX11_lyingMany_27 k4 l0 l1 l3 t0 t1 m = some rv → ml_V E "LostRoomModel" cX11_lyingMany 3 false m 27 [(0, ml_r l0), (1, ml_i l1), (3, ml_i l3)] [ml_i t0, ml_i t1] := by
  intro l0 l1 l3 t0 t1 h
  unfold fX11_lyingMany_27 at h
  exact ml_iadd dX11_lyingMany_27 <| ml_lx (mk := ml_i) h fun x1443 h => ml_istore_n (lv' := [(2, ml_i x1443), (0, ml_r l0), (1, ml_i l1), (3, ml_i l3)]) dX11_lyingMany_28 (ml_hn hL rfl) rfl <| ml_iinc (lv' := [(3, ml_i (l3 + (1 : Int32))), (2, ml_i x1443), (0, ml_r l0), (1, ml_i l1)]) dX11_lyingMany_29 3 rfl (congrArg (l3 + ·) kc_i1) (ml_hn hL rfl) rfl <| ml_goto dX11_lyingMany_32 <| ml_V.sub [2, 3, 1, 0] rfl (hk4 _ _ _ _ h)
def fX11_lyingMany_4 : Nat → Nat → Int32 → Int32 → Int32 → ml_M → Option Int32
  | 0, _, _, _, _, _ => none
  | fu + 1, l0, l1, l2, l3, m =>
    if (ml_K m l0).1 = 11 then
    if (ml_I m l0 24) ≤ l3 then
    some l2
    else
    ml_b1 (fX11_trunkOf l0 l3 m) fun r1446 =>
    if r1446 = l1 then
    fX11_lyingMany_27 (fX11_lyingMany_4 fu) l0 l1 l3 (1 : Int32) l2 m
    else
    fX11_lyingMany_27 (fX11_lyingMany_4 fu) l0 l1 l3 (0 : Int32) l2 m
    else none
theorem vX11_lyingMany_4 {E : ml_E} (hL : ml_eL E = 4) {rv : Int32} {m : ml_M} (hr : ∀ (pc pc' : Nat) (lv : List (Nat × ml_X)), ml_d cX11_lyingMany pc .ireturn 1 pc' → True → ml_V E "LostRoomModel" cX11_lyingMany 3 false m pc lv [ml_i rv]) : ∀ (fu : Nat) (l0 : Nat) (l1 : Int32) (l2 : Int32) (l3 : Int32), fX11_lyingMany_4 fu l0 l1 l2 l3 m = some rv → ml_V E "LostRoomModel" cX11_lyingMany 3 false m 4 [(0, ml_r l0), (1, ml_i l1), (2, ml_i l2), (3, ml_i l3)] [] := by
  intro fu
  induction fu with
  | zero => intro l0 l1 l2 l3 h; exact ml_none h
  | succ fu ih =>
    intro l0 l1 l2 l3 h
    have hk4 := ih
    unfold fX11_lyingMany_4 at h
    exact ml_iload_n dX11_lyingMany_4 3 rfl <| ml_aload_n dX11_lyingMany_5 0 rfl <| ml_ck_of h fun hc1444 h => ml_getI dX11_lyingMany_6 wb_228 hc1444 <| ml_icmp_ge dX11_lyingMany_9 h (fun _ h => ml_iload_n dX11_lyingMany_35 2 rfl <| ml_rp (mk := ml_i) hr dX11_lyingMany_36 (fun _ => trivial) h) (fun _ h => ml_iload_n dX11_lyingMany_12 2 rfl <| ml_aload_n dX11_lyingMany_13 0 rfl <| ml_iload_n dX11_lyingMany_14 3 rfl <| ml_b1_of h fun r1446 hv1445 h => ml_callV dX11_lyingMany_15 wm_325 wb_229 hc1444 (sX11_trunkOf hv1445) rfl (Nat.le_of_ble_eq_true rfl) (Nat.le_of_ble_eq_true rfl) rfl <| ml_iload_n dX11_lyingMany_18 1 rfl <| ml_icmp_ne dX11_lyingMany_19 h (fun _ h => ml_iconst dX11_lyingMany_26 kc_i0 <| ml_V.sub [0, 1, 3] rfl (vX11_lyingMany_27 hL hr hk4 _ _ _ _ _ h)) (fun _ h => ml_iconst dX11_lyingMany_22 kc_i1 <| ml_goto dX11_lyingMany_23 <| ml_V.sub [0, 1, 3] rfl (vX11_lyingMany_27 hL hr hk4 _ _ _ _ _ h)))
def fX11_lyingMany (l0 : Nat) (l1 : Int32) (m : ml_M) : Option Int32 :=
    fX11_lyingMany_4 ml_fu l0 l1 (0 : Int32) (0 : Int32) m
theorem wX11_lyingMany_0 {E : ml_E} (hL : ml_eL E = 4) {rv : Int32} {m : ml_M} (hr : ∀ (pc pc' : Nat) (lv : List (Nat × ml_X)), ml_d cX11_lyingMany pc .ireturn 1 pc' → True → ml_V E "LostRoomModel" cX11_lyingMany 3 false m pc lv [ml_i rv]) : ∀ (l0 : Nat) (l1 : Int32), fX11_lyingMany l0 l1 m = some rv → ml_V E "LostRoomModel" cX11_lyingMany 3 false m 0 [(0, ml_r l0), (1, ml_i l1)] [] := by
  intro l0 l1 h
  unfold fX11_lyingMany at h
  exact ml_iconst dX11_lyingMany_0 kc_i0 <| ml_istore_n (lv' := [(2, ml_i (0 : Int32)), (0, ml_r l0), (1, ml_i l1)]) dX11_lyingMany_1 (ml_hn hL rfl) rfl <| ml_iconst dX11_lyingMany_2 kc_i0 <| ml_istore_n (lv' := [(3, ml_i (0 : Int32)), (2, ml_i (0 : Int32)), (0, ml_r l0), (1, ml_i l1)]) dX11_lyingMany_3 (ml_hn hL rfl) rfl <| ml_V.sub [2, 3, 1, 0] rfl (vX11_lyingMany_4 hL hr  ml_fu _ _ _ _ h)
theorem sX11_lyingMany {l0 : Nat} {l1 : Int32} {m : ml_M} {rv : Int32} (h : fX11_lyingMany l0 l1 m = some rv) : ml_Sn yX11_lyingMany cX11_lyingMany 4 (some .int) 3 [ml_r l0, ml_i l1] m (some (ml_i rv)) m :=
  ml_Sn_of (P := True) (ini := false) (by decide +kernel) (Nat.le_of_ble_eq_true rfl) (fun h => by cases h) (fun _ => ml_RkI rv) fun E hL hr => wX11_lyingMany_0 hL hr _ _ h
theorem dX11_trunkTells_0 : ml_d cX11_trunkTells 0 (.iconst 0) 1 1 := ⟨by decide +kernel, rfl⟩
theorem dX11_trunkTells_1 : ml_d cX11_trunkTells 1 (.istore_n 3) 1 2 := ⟨by decide +kernel, rfl⟩
theorem dX11_trunkTells_2 : ml_d cX11_trunkTells 2 (.iconst 0) 1 3 := ⟨by decide +kernel, rfl⟩
theorem dX11_trunkTells_3 : ml_d cX11_trunkTells 3 (.istore 4) 2 5 := ⟨by decide +kernel, rfl⟩
theorem dX11_trunkTells_5 : ml_d cX11_trunkTells 5 (.iload 4) 2 7 := ⟨by decide +kernel, rfl⟩
theorem dX11_trunkTells_7 : ml_d cX11_trunkTells 7 (.aload_n 0) 1 8 := ⟨by decide +kernel, rfl⟩
theorem dX11_trunkTells_8 : ml_d cX11_trunkTells 8 (.getfield 178) 3 11 := ⟨by decide +kernel, rfl⟩
theorem dX11_trunkTells_11 : ml_j cX11_trunkTells 11 (.if_icmp .ge) 53 14 := ⟨42, by decide +kernel, by decide, rfl⟩
theorem dX11_trunkTells_14 : ml_d cX11_trunkTells 14 (.iload_n 3) 1 15 := ⟨by decide +kernel, rfl⟩
theorem dX11_trunkTells_15 : ml_d cX11_trunkTells 15 (.aload_n 0) 1 16 := ⟨by decide +kernel, rfl⟩
theorem dX11_trunkTells_16 : ml_d cX11_trunkTells 16 (.getfield 35) 3 19 := ⟨by decide +kernel, rfl⟩
theorem dX11_trunkTells_19 : ml_d cX11_trunkTells 19 (.iconst 2) 1 20 := ⟨by decide +kernel, rfl⟩
theorem dX11_trunkTells_20 : ml_d cX11_trunkTells 20 (.iload 4) 2 22 := ⟨by decide +kernel, rfl⟩
theorem dX11_trunkTells_22 : ml_d cX11_trunkTells 22 (.imul) 1 23 := ⟨by decide +kernel, rfl⟩
theorem dX11_trunkTells_23 : ml_d cX11_trunkTells 23 (.iaload) 1 24 := ⟨by decide +kernel, rfl⟩
theorem dX11_trunkTells_24 : ml_d cX11_trunkTells 24 (.iload_n 1) 1 25 := ⟨by decide +kernel, rfl⟩
theorem dX11_trunkTells_25 : ml_j cX11_trunkTells 25 (.if_icmp .ne) 44 28 := ⟨19, by decide +kernel, by decide, rfl⟩
theorem dX11_trunkTells_28 : ml_d cX11_trunkTells 28 (.iconst 1) 1 29 := ⟨by decide +kernel, rfl⟩
theorem dX11_trunkTells_29 : ml_d cX11_trunkTells 29 (.aload_n 0) 1 30 := ⟨by decide +kernel, rfl⟩
theorem dX11_trunkTells_30 : ml_d cX11_trunkTells 30 (.getfield 35) 3 33 := ⟨by decide +kernel, rfl⟩
theorem dX11_trunkTells_33 : ml_d cX11_trunkTells 33 (.iconst 2) 1 34 := ⟨by decide +kernel, rfl⟩
theorem dX11_trunkTells_34 : ml_d cX11_trunkTells 34 (.iload 4) 2 36 := ⟨by decide +kernel, rfl⟩
theorem dX11_trunkTells_36 : ml_d cX11_trunkTells 36 (.imul) 1 37 := ⟨by decide +kernel, rfl⟩
theorem dX11_trunkTells_37 : ml_d cX11_trunkTells 37 (.iconst 1) 1 38 := ⟨by decide +kernel, rfl⟩
theorem dX11_trunkTells_38 : ml_d cX11_trunkTells 38 (.iadd) 1 39 := ⟨by decide +kernel, rfl⟩
theorem dX11_trunkTells_39 : ml_d cX11_trunkTells 39 (.iaload) 1 40 := ⟨by decide +kernel, rfl⟩
theorem dX11_trunkTells_40 : ml_d cX11_trunkTells 40 (.ishl) 1 41 := ⟨by decide +kernel, rfl⟩
theorem dX11_trunkTells_41 : ml_j cX11_trunkTells 41 .goto 45 44 := ⟨4, by decide +kernel, by decide, rfl⟩
theorem dX11_trunkTells_44 : ml_d cX11_trunkTells 44 (.iconst 0) 1 45 := ⟨by decide +kernel, rfl⟩
theorem dX11_trunkTells_45 : ml_d cX11_trunkTells 45 (.ior) 1 46 := ⟨by decide +kernel, rfl⟩
theorem dX11_trunkTells_46 : ml_d cX11_trunkTells 46 (.istore_n 3) 1 47 := ⟨by decide +kernel, rfl⟩
theorem dX11_trunkTells_47 : ml_d cX11_trunkTells 47 (.iinc 4 1) 3 50 := ⟨by decide +kernel, rfl⟩
theorem dX11_trunkTells_50 : ml_j cX11_trunkTells 50 .goto 5 53 := ⟨(-45), by decide +kernel, by decide, rfl⟩
theorem dX11_trunkTells_53 : ml_d cX11_trunkTells 53 (.iload_n 2) 1 54 := ⟨by decide +kernel, rfl⟩
theorem dX11_trunkTells_54 : ml_d cX11_trunkTells 54 (.iconst 2) 1 55 := ⟨by decide +kernel, rfl⟩
theorem dX11_trunkTells_55 : ml_j cX11_trunkTells 55 (.if_icmp .ge) 71 58 := ⟨16, by decide +kernel, by decide, rfl⟩
theorem dX11_trunkTells_58 : ml_d cX11_trunkTells 58 (.aload_n 0) 1 59 := ⟨by decide +kernel, rfl⟩
theorem dX11_trunkTells_59 : ml_d cX11_trunkTells 59 (.getfield 32) 3 62 := ⟨by decide +kernel, rfl⟩
theorem dX11_trunkTells_62 : ml_d cX11_trunkTells 62 (.iconst 2) 1 63 := ⟨by decide +kernel, rfl⟩
theorem dX11_trunkTells_63 : ml_d cX11_trunkTells 63 (.iload_n 1) 1 64 := ⟨by decide +kernel, rfl⟩
theorem dX11_trunkTells_64 : ml_d cX11_trunkTells 64 (.imul) 1 65 := ⟨by decide +kernel, rfl⟩
theorem dX11_trunkTells_65 : ml_d cX11_trunkTells 65 (.iload_n 2) 1 66 := ⟨by decide +kernel, rfl⟩
theorem dX11_trunkTells_66 : ml_d cX11_trunkTells 66 (.iadd) 1 67 := ⟨by decide +kernel, rfl⟩
theorem dX11_trunkTells_67 : ml_d cX11_trunkTells 67 (.iaload) 1 68 := ⟨by decide +kernel, rfl⟩
theorem dX11_trunkTells_68 : ml_j cX11_trunkTells 68 .goto 85 71 := ⟨17, by decide +kernel, by decide, rfl⟩
theorem dX11_trunkTells_71 : ml_d cX11_trunkTells 71 (.iload_n 2) 1 72 := ⟨by decide +kernel, rfl⟩
theorem dX11_trunkTells_72 : ml_d cX11_trunkTells 72 (.iconst 2) 1 73 := ⟨by decide +kernel, rfl⟩
theorem dX11_trunkTells_73 : ml_j cX11_trunkTells 73 (.if_icmp .ne) 80 76 := ⟨7, by decide +kernel, by decide, rfl⟩
theorem dX11_trunkTells_76 : ml_d cX11_trunkTells 76 (.iload_n 3) 1 77 := ⟨by decide +kernel, rfl⟩
theorem dX11_trunkTells_77 : ml_j cX11_trunkTells 77 .goto 85 80 := ⟨8, by decide +kernel, by decide, rfl⟩
theorem dX11_trunkTells_80 : ml_d cX11_trunkTells 80 (.aload_n 0) 1 81 := ⟨by decide +kernel, rfl⟩
theorem dX11_trunkTells_81 : ml_d cX11_trunkTells 81 (.iload_n 1) 1 82 := ⟨by decide +kernel, rfl⟩
theorem dX11_trunkTells_82 : ml_d cX11_trunkTells 82 (.invokevirtual 196) 3 85 := ⟨by decide +kernel, rfl⟩
theorem dX11_trunkTells_85 : ml_d cX11_trunkTells 85 (.ireturn) 1 86 := ⟨by decide +kernel, rfl⟩
def fX11_trunkTells_45 (k5 : Nat → Int32 → Int32 → Int32 → Int32 → ml_M → Option Int32) (l0 : Nat) (l1 : Int32) (l2 : Int32) (l4 : Int32) (t0 : Int32) (t1 : Int32) (m : ml_M) : Option Int32 :=
    ml_let (t1 ||| t0) fun x1447 =>
    k5 l0 l1 l2 x1447 (l4 + (1 : Int32)) m
theorem vX11_trunkTells_45 {E : ml_E} (hL : ml_eL E = 5) {rv : Int32} {m : ml_M} (hr : ∀ (pc pc' : Nat) (lv : List (Nat × ml_X)), ml_d cX11_trunkTells pc .ireturn 1 pc' → True → ml_V E "LostRoomModel" cX11_trunkTells 4 false m pc lv [ml_i rv]) {k5 : Nat → Int32 → Int32 → Int32 → Int32 → ml_M → Option Int32} (hk5 : ∀ (l0 : Nat) (l1 : Int32) (l2 : Int32) (l3 : Int32) (l4 : Int32), k5 l0 l1 l2 l3 l4 m = some rv → ml_V E "LostRoomModel" cX11_trunkTells 4 false m 5 [(0, ml_r l0), (1, ml_i l1), (2, ml_i l2), (3, ml_i l3), (4, ml_i l4)] []) : ∀ (l0 : Nat) (l1 : Int32) (l2 : Int32) (l4 : Int32) (t0 : Int32) (t1 : Int32), fX11_trunkTells_45 k5 l0 l1 l2 l4 t0 t1 m = some rv → ml_V E "LostRoomModel" cX11_trunkTells 4 false m 45 [(0, ml_r l0), (1, ml_i l1), (2, ml_i l2), (4, ml_i l4)] [ml_i t0, ml_i t1] := by
  intro l0 l1 l2 l4 t0 t1 h
  unfold fX11_trunkTells_45 at h
  exact ml_ior dX11_trunkTells_45 <| ml_lx (mk := ml_i) h fun x1447 h => ml_istore_n (lv' := [(3, ml_i x1447), (0, ml_r l0), (1, ml_i l1), (2, ml_i l2), (4, ml_i l4)]) dX11_trunkTells_46 (ml_hn hL rfl) rfl <| ml_iinc (lv' := [(4, ml_i (l4 + (1 : Int32))), (3, ml_i x1447), (0, ml_r l0), (1, ml_i l1), (2, ml_i l2)]) dX11_trunkTells_47 4 rfl (congrArg (l4 + ·) kc_i1) (ml_hn hL rfl) rfl <| ml_goto dX11_trunkTells_50 <| ml_V.sub [2, 3, 4, 1, 0] rfl (hk5 _ _ _ _ _ h)
def fX11_trunkTells_53 (l0 : Nat) (l1 : Int32) (l2 : Int32) (l3 : Int32) (m : ml_M) : Option Int32 :=
    if (2 : Int32) ≤ l2 then
    if l2 = (2 : Int32) then
    some l3
    else
    if (ml_K m l0).1 = 11 then
    ml_b1 (fX11_lyingMany l0 l1 m) fun r1450 =>
    some r1450
    else none
    else
    if (ml_K m l0).1 = 11 then
    ml_let (ml_R m l0 13) fun a1452 =>
    if ml_in m a1452 20 (((2 : Int32) * l1) + l2) then
    some (ml_I m a1452 (((2 : Int32) * l1) + l2).toNatClampNeg)
    else none
    else none
theorem vX11_trunkTells_53 {E : ml_E} (hL : ml_eL E = 5) {rv : Int32} {m : ml_M} (hr : ∀ (pc pc' : Nat) (lv : List (Nat × ml_X)), ml_d cX11_trunkTells pc .ireturn 1 pc' → True → ml_V E "LostRoomModel" cX11_trunkTells 4 false m pc lv [ml_i rv]) : ∀ (l0 : Nat) (l1 : Int32) (l2 : Int32) (l3 : Int32), fX11_trunkTells_53 l0 l1 l2 l3 m = some rv → ml_V E "LostRoomModel" cX11_trunkTells 4 false m 53 [(0, ml_r l0), (1, ml_i l1), (2, ml_i l2), (3, ml_i l3)] [] := by
  intro l0 l1 l2 l3 h
  unfold fX11_trunkTells_53 at h
  exact ml_iload_n dX11_trunkTells_53 2 rfl <| ml_iconst dX11_trunkTells_54 kc_i2 <| ml_icmp_ge dX11_trunkTells_55 h (fun _ h => ml_iload_n dX11_trunkTells_71 2 rfl <| ml_iconst dX11_trunkTells_72 kc_i2 <| ml_icmp_ne dX11_trunkTells_73 h (fun _ h => ml_aload_n dX11_trunkTells_80 0 rfl <| ml_iload_n dX11_trunkTells_81 1 rfl <| ml_ck_of h fun hc1449 h => ml_b1_of h fun r1450 hv1448 h => ml_callV dX11_trunkTells_82 wm_329 wb_230 hc1449 (sX11_lyingMany hv1448) rfl (Nat.le_of_ble_eq_true rfl) (Nat.le_of_ble_eq_true rfl) rfl <| ml_rp (mk := ml_i) hr dX11_trunkTells_85 (fun _ => trivial) h) (fun _ h => ml_iload_n dX11_trunkTells_76 3 rfl <| ml_goto dX11_trunkTells_77 <| ml_rp (mk := ml_i) hr dX11_trunkTells_85 (fun _ => trivial) h)) (fun _ h => ml_aload_n dX11_trunkTells_58 0 rfl <| ml_ck_of h fun hc1451 h => ml_getR dX11_trunkTells_59 wb_198 hc1451 <| ml_lx (mk := ml_r) h fun a1452 h => ml_iconst dX11_trunkTells_62 kc_i2 <| ml_iload_n dX11_trunkTells_63 1 rfl <| ml_imul dX11_trunkTells_64 <| ml_iload_n dX11_trunkTells_65 2 rfl <| ml_iadd dX11_trunkTells_66 <| ml_ck_of h fun hi1453 h => ml_iald dX11_trunkTells_67 hi1453 <| ml_goto dX11_trunkTells_68 <| ml_rp (mk := ml_i) hr dX11_trunkTells_85 (fun _ => trivial) h)
def fX11_trunkTells_5 : Nat → Nat → Int32 → Int32 → Int32 → Int32 → ml_M → Option Int32
  | 0, _, _, _, _, _, _ => none
  | fu + 1, l0, l1, l2, l3, l4, m =>
    if (ml_K m l0).1 = 11 then
    if (ml_I m l0 11) ≤ l4 then
    fX11_trunkTells_53 l0 l1 l2 l3 m
    else
    ml_let (ml_R m l0 14) fun a1455 =>
    if ml_in m a1455 20 ((2 : Int32) * l4) then
    if (ml_I m a1455 ((2 : Int32) * l4).toNatClampNeg) = l1 then
    ml_let (ml_R m l0 14) fun a1457 =>
    if ml_in m a1457 20 (((2 : Int32) * l4) + (1 : Int32)) then
    fX11_trunkTells_45 (fX11_trunkTells_5 fu) l0 l1 l2 l4 ((1 : Int32) <<< ((ml_I m a1457 (((2 : Int32) * l4) + (1 : Int32)).toNatClampNeg) &&& 31)) l3 m
    else none
    else
    fX11_trunkTells_45 (fX11_trunkTells_5 fu) l0 l1 l2 l4 (0 : Int32) l3 m
    else none
    else none
theorem vX11_trunkTells_5 {E : ml_E} (hL : ml_eL E = 5) {rv : Int32} {m : ml_M} (hr : ∀ (pc pc' : Nat) (lv : List (Nat × ml_X)), ml_d cX11_trunkTells pc .ireturn 1 pc' → True → ml_V E "LostRoomModel" cX11_trunkTells 4 false m pc lv [ml_i rv]) : ∀ (fu : Nat) (l0 : Nat) (l1 : Int32) (l2 : Int32) (l3 : Int32) (l4 : Int32), fX11_trunkTells_5 fu l0 l1 l2 l3 l4 m = some rv → ml_V E "LostRoomModel" cX11_trunkTells 4 false m 5 [(0, ml_r l0), (1, ml_i l1), (2, ml_i l2), (3, ml_i l3), (4, ml_i l4)] [] := by
  intro fu
  induction fu with
  | zero => intro l0 l1 l2 l3 l4 h; exact ml_none h
  | succ fu ih =>
    intro l0 l1 l2 l3 l4 h
    have hk5 := ih
    unfold fX11_trunkTells_5 at h
    exact ml_iload dX11_trunkTells_5 4 rfl <| ml_aload_n dX11_trunkTells_7 0 rfl <| ml_ck_of h fun hc1454 h => ml_getI dX11_trunkTells_8 wb_231 hc1454 <| ml_icmp_ge dX11_trunkTells_11 h (fun _ h => ml_V.sub [0, 1, 2, 3] rfl (vX11_trunkTells_53 hL hr  _ _ _ _ h)) (fun _ h => ml_iload_n dX11_trunkTells_14 3 rfl <| ml_aload_n dX11_trunkTells_15 0 rfl <| ml_getR dX11_trunkTells_16 wb_191 hc1454 <| ml_lx (mk := ml_r) h fun a1455 h => ml_iconst dX11_trunkTells_19 kc_i2 <| ml_iload dX11_trunkTells_20 4 rfl <| ml_imul dX11_trunkTells_22 <| ml_ck_of h fun hi1456 h => ml_iald dX11_trunkTells_23 hi1456 <| ml_iload_n dX11_trunkTells_24 1 rfl <| ml_icmp_ne dX11_trunkTells_25 h (fun _ h => ml_iconst dX11_trunkTells_44 kc_i0 <| ml_V.sub [0, 1, 2, 4] rfl (vX11_trunkTells_45 hL hr hk5 _ _ _ _ _ _ h)) (fun _ h => ml_iconst dX11_trunkTells_28 kc_i1 <| ml_aload_n dX11_trunkTells_29 0 rfl <| ml_getR dX11_trunkTells_30 wb_191 hc1454 <| ml_lx (mk := ml_r) h fun a1457 h => ml_iconst dX11_trunkTells_33 kc_i2 <| ml_iload dX11_trunkTells_34 4 rfl <| ml_imul dX11_trunkTells_36 <| ml_iconst dX11_trunkTells_37 kc_i1 <| ml_iadd dX11_trunkTells_38 <| ml_ck_of h fun hi1458 h => ml_iald dX11_trunkTells_39 hi1458 <| ml_ishl dX11_trunkTells_40 <| ml_goto dX11_trunkTells_41 <| ml_V.sub [0, 1, 2, 4] rfl (vX11_trunkTells_45 hL hr hk5 _ _ _ _ _ _ h)))
def fX11_trunkTells (l0 : Nat) (l1 : Int32) (l2 : Int32) (m : ml_M) : Option Int32 :=
    fX11_trunkTells_5 ml_fu l0 l1 l2 (0 : Int32) (0 : Int32) m
theorem wX11_trunkTells_0 {E : ml_E} (hL : ml_eL E = 5) {rv : Int32} {m : ml_M} (hr : ∀ (pc pc' : Nat) (lv : List (Nat × ml_X)), ml_d cX11_trunkTells pc .ireturn 1 pc' → True → ml_V E "LostRoomModel" cX11_trunkTells 4 false m pc lv [ml_i rv]) : ∀ (l0 : Nat) (l1 : Int32) (l2 : Int32), fX11_trunkTells l0 l1 l2 m = some rv → ml_V E "LostRoomModel" cX11_trunkTells 4 false m 0 [(0, ml_r l0), (1, ml_i l1), (2, ml_i l2)] [] := by
  intro l0 l1 l2 h
  unfold fX11_trunkTells at h
  exact ml_iconst dX11_trunkTells_0 kc_i0 <| ml_istore_n (lv' := [(3, ml_i (0 : Int32)), (0, ml_r l0), (1, ml_i l1), (2, ml_i l2)]) dX11_trunkTells_1 (ml_hn hL rfl) rfl <| ml_iconst dX11_trunkTells_2 kc_i0 <| ml_istore (lv' := [(4, ml_i (0 : Int32)), (3, ml_i (0 : Int32)), (0, ml_r l0), (1, ml_i l1), (2, ml_i l2)]) dX11_trunkTells_3 (ml_hn hL rfl) rfl <| ml_V.sub [2, 3, 4, 1, 0] rfl (vX11_trunkTells_5 hL hr  ml_fu _ _ _ _ _ h)
theorem sX11_trunkTells {l0 : Nat} {l1 : Int32} {l2 : Int32} {m : ml_M} {rv : Int32} (h : fX11_trunkTells l0 l1 l2 m = some rv) : ml_Sn yX11_trunkTells cX11_trunkTells 5 (some .int) 4 [ml_r l0, ml_i l1, ml_i l2] m (some (ml_i rv)) m :=
  ml_Sn_of (P := True) (ini := false) (by decide +kernel) (Nat.le_of_ble_eq_true rfl) (fun h => by cases h) (fun _ => ml_RkI rv) fun E hL hr => wX11_trunkTells_0 hL hr _ _ _ h
theorem dX11_trunk_0 : ml_d cX11_trunk 0 (.aload_n 0) 1 1 := ⟨by decide +kernel, rfl⟩
theorem dX11_trunk_1 : ml_d cX11_trunk 1 (.iload_n 1) 1 2 := ⟨by decide +kernel, rfl⟩
theorem dX11_trunk_2 : ml_d cX11_trunk 2 (.invokevirtual 199) 3 5 := ⟨by decide +kernel, rfl⟩
theorem dX11_trunk_5 : ml_j cX11_trunk 5 (.ifCond .eq) 31 8 := ⟨26, by decide +kernel, by decide, rfl⟩
theorem dX11_trunk_8 : ml_d cX11_trunk 8 (.iload_n 2) 1 9 := ⟨by decide +kernel, rfl⟩
theorem dX11_trunk_9 : ml_d cX11_trunk 9 (.iconst 0) 1 10 := ⟨by decide +kernel, rfl⟩
theorem dX11_trunk_10 : ml_d cX11_trunk 10 (.iconst 3) 1 11 := ⟨by decide +kernel, rfl⟩
theorem dX11_trunk_11 : ml_d cX11_trunk 11 (.invokestatic 100) 3 14 := ⟨by decide +kernel, rfl⟩
theorem dX11_trunk_14 : ml_j cX11_trunk 14 (.ifCond .eq) 31 17 := ⟨17, by decide +kernel, by decide, rfl⟩
theorem dX11_trunk_17 : ml_d cX11_trunk 17 (.aload_n 0) 1 18 := ⟨by decide +kernel, rfl⟩
theorem dX11_trunk_18 : ml_d cX11_trunk 18 (.aload_n 0) 1 19 := ⟨by decide +kernel, rfl⟩
theorem dX11_trunk_19 : ml_d cX11_trunk 19 (.iload_n 1) 1 20 := ⟨by decide +kernel, rfl⟩
theorem dX11_trunk_20 : ml_d cX11_trunk 20 (.iload_n 2) 1 21 := ⟨by decide +kernel, rfl⟩
theorem dX11_trunk_21 : ml_d cX11_trunk 21 (.invokevirtual 202) 3 24 := ⟨by decide +kernel, rfl⟩
theorem dX11_trunk_24 : ml_d cX11_trunk 24 (.iconst 1) 1 25 := ⟨by decide +kernel, rfl⟩
theorem dX11_trunk_25 : ml_d cX11_trunk 25 (.invokevirtual 123) 3 28 := ⟨by decide +kernel, rfl⟩
theorem dX11_trunk_28 : ml_j cX11_trunk 28 .goto 32 31 := ⟨4, by decide +kernel, by decide, rfl⟩
theorem dX11_trunk_31 : ml_d cX11_trunk 31 (.iconst (-1)) 1 32 := ⟨by decide +kernel, rfl⟩
theorem dX11_trunk_32 : ml_d cX11_trunk 32 (.ireturn) 1 33 := ⟨by decide +kernel, rfl⟩
def fX11_trunk (l0 : Nat) (l1 : Int32) (l2 : Int32) (m : ml_M) : Option (Int32 × ml_M) :=
    if (ml_K m l0).1 = 11 then
    ml_b1 (fX11_isTrunk l0 l1 m) fun r1461 =>
    if r1461 = 0 then
    some ((-1 : Int32), m)
    else
    ml_b1 (fX11_in l2 (0 : Int32) (3 : Int32) m) fun r1463 =>
    if r1463 = 0 then
    some ((-1 : Int32), m)
    else
    ml_b1 (fX11_trunkTells l0 l1 l2 m) fun r1465 =>
    ml_b2 (fX11_tells l0 r1465 (1 : Int32) m) fun r1467 m1468 =>
    some (r1467, m1468)
    else none
theorem wX11_trunk_0 {E : ml_E} (hL : ml_eL E = 3) {rv : Int32} {rm : ml_M} (hr : ∀ (pc pc' : Nat) (lv : List (Nat × ml_X)), ml_d cX11_trunk pc .ireturn 1 pc' → True → ml_V E "LostRoomModel" cX11_trunk 5 false rm pc lv [ml_i rv]) : ∀ (l0 : Nat) (l1 : Int32) (l2 : Int32) (m : ml_M), fX11_trunk l0 l1 l2 m = some (rv, rm) → ml_V E "LostRoomModel" cX11_trunk 5 false m 0 [(0, ml_r l0), (1, ml_i l1), (2, ml_i l2)] [] := by
  intro l0 l1 l2 m h
  unfold fX11_trunk at h
  exact ml_aload_n dX11_trunk_0 0 rfl <| ml_iload_n dX11_trunk_1 1 rfl <| ml_ck_of h fun hc1460 h => ml_b1_of h fun r1461 hv1459 h => ml_callV dX11_trunk_2 wm_333 wb_232 hc1460 (sX11_isTrunk hv1459) rfl (Nat.le_of_ble_eq_true rfl) (Nat.le_of_ble_eq_true rfl) rfl <| ml_if_eq dX11_trunk_5 h (fun _ h => ml_iconst dX11_trunk_31 kc_im1 <| ml_rI (mk := ml_i) hr dX11_trunk_32 (fun _ => trivial) h) (fun _ h => ml_iload_n dX11_trunk_8 2 rfl <| ml_iconst dX11_trunk_9 kc_i0 <| ml_iconst dX11_trunk_10 kc_i3 <| ml_b1_of h fun r1463 hv1462 h => ml_callS dX11_trunk_11 wm_136 wb_100 (sX11_in hv1462) rfl (Nat.le_of_ble_eq_true rfl) (Nat.le_of_ble_eq_true rfl) rfl <| ml_if_eq dX11_trunk_14 h (fun _ h => ml_iconst dX11_trunk_31 kc_im1 <| ml_rI (mk := ml_i) hr dX11_trunk_32 (fun _ => trivial) h) (fun _ h => ml_aload_n dX11_trunk_17 0 rfl <| ml_aload_n dX11_trunk_18 0 rfl <| ml_iload_n dX11_trunk_19 1 rfl <| ml_iload_n dX11_trunk_20 2 rfl <| ml_b1_of h fun r1465 hv1464 h => ml_callV dX11_trunk_21 wm_337 wb_233 hc1460 (sX11_trunkTells hv1464) rfl (Nat.le_of_ble_eq_true rfl) (Nat.le_of_ble_eq_true rfl) rfl <| ml_iconst dX11_trunk_24 kc_i1 <| ml_b2_of h fun r1467 m1468 hv1466 h => ml_callV dX11_trunk_25 wm_158 wb_110 hc1460 (sX11_tells hv1466) rfl (Nat.le_of_ble_eq_true rfl) (Nat.le_of_ble_eq_true rfl) rfl <| ml_goto dX11_trunk_28 <| ml_rI (mk := ml_i) hr dX11_trunk_32 (fun _ => trivial) h))
theorem sX11_trunk {l0 : Nat} {l1 : Int32} {l2 : Int32} {m : ml_M} {rv : Int32} {rm : ml_M} (h : fX11_trunk l0 l1 l2 m = some (rv, rm)) : ml_Sn yX11_trunk cX11_trunk 3 (some .int) 5 [ml_r l0, ml_i l1, ml_i l2] m (some (ml_i rv)) rm :=
  ml_Sn_of (P := True) (ini := false) (by decide +kernel) (Nat.le_of_ble_eq_true rfl) (fun h => by cases h) (fun _ => ml_RkI rv) fun E hL hr => wX11_trunk_0 hL hr _ _ _ _ h
theorem dX10_areYears_0 : ml_d cX10_areYears 0 (.iload_n 0) 1 1 := ⟨by decide +kernel, rfl⟩
theorem dX10_areYears_1 : ml_j cX10_areYears 1 (.ifCond .lt) 19 4 := ⟨18, by decide +kernel, by decide, rfl⟩
theorem dX10_areYears_4 : ml_d cX10_areYears 4 (.iload_n 0) 1 5 := ⟨by decide +kernel, rfl⟩
theorem dX10_areYears_5 : ml_d cX10_areYears 5 (.iload_n 1) 1 6 := ⟨by decide +kernel, rfl⟩
theorem dX10_areYears_6 : ml_j cX10_areYears 6 (.if_icmp .gt) 19 9 := ⟨13, by decide +kernel, by decide, rfl⟩
theorem dX10_areYears_9 : ml_d cX10_areYears 9 (.iload_n 1) 1 10 := ⟨by decide +kernel, rfl⟩
theorem dX10_areYears_10 : ml_d cX10_areYears 10 (.bipush 99) 2 12 := ⟨by decide +kernel, rfl⟩
theorem dX10_areYears_12 : ml_j cX10_areYears 12 (.if_icmp .gt) 19 15 := ⟨7, by decide +kernel, by decide, rfl⟩
theorem dX10_areYears_15 : ml_d cX10_areYears 15 (.iconst 1) 1 16 := ⟨by decide +kernel, rfl⟩
theorem dX10_areYears_16 : ml_j cX10_areYears 16 .goto 20 19 := ⟨4, by decide +kernel, by decide, rfl⟩
theorem dX10_areYears_19 : ml_d cX10_areYears 19 (.iconst 0) 1 20 := ⟨by decide +kernel, rfl⟩
theorem dX10_areYears_20 : ml_d cX10_areYears 20 (.ireturn) 1 21 := ⟨by decide +kernel, rfl⟩
def fX10_areYears (l0 : Int32) (l1 : Int32) (m : ml_M) : Option Int32 :=
    if l0 < 0 then
    some (0 : Int32)
    else
    if l1 < l0 then
    some (0 : Int32)
    else
    if (99 : Int32) < l1 then
    some (0 : Int32)
    else
    some (1 : Int32)
theorem wX10_areYears_0 {E : ml_E} (hL : ml_eL E = 2) {rv : Int32} {m : ml_M} (hr : ∀ (pc pc' : Nat) (lv : List (Nat × ml_X)), ml_d cX10_areYears pc .ireturn 1 pc' → (rv = 0 ∨ rv = 1) → ml_V E "LostRoom" cX10_areYears 2 false m pc lv [ml_i rv]) : ∀ (l0 : Int32) (l1 : Int32), fX10_areYears l0 l1 m = some rv → ml_V E "LostRoom" cX10_areYears 2 false m 0 [(0, ml_i l0), (1, ml_i l1)] [] := by
  intro l0 l1 h
  unfold fX10_areYears at h
  exact ml_iload_n dX10_areYears_0 0 rfl <| ml_if_lt dX10_areYears_1 h (fun _ h => ml_iconst dX10_areYears_19 kc_i0 <| ml_rp (mk := ml_i) hr dX10_areYears_20 (fun e => Or.inl e.symm) h) (fun _ h => ml_iload_n dX10_areYears_4 0 rfl <| ml_iload_n dX10_areYears_5 1 rfl <| ml_icmp_gt dX10_areYears_6 h (fun _ h => ml_iconst dX10_areYears_19 kc_i0 <| ml_rp (mk := ml_i) hr dX10_areYears_20 (fun e => Or.inl e.symm) h) (fun _ h => ml_iload_n dX10_areYears_9 1 rfl <| ml_bipush dX10_areYears_10 kc_b99 <| ml_icmp_gt dX10_areYears_12 h (fun _ h => ml_iconst dX10_areYears_19 kc_i0 <| ml_rp (mk := ml_i) hr dX10_areYears_20 (fun e => Or.inl e.symm) h) (fun _ h => ml_iconst dX10_areYears_15 kc_i1 <| ml_goto dX10_areYears_16 <| ml_rp (mk := ml_i) hr dX10_areYears_20 (fun e => Or.inr e.symm) h)))
theorem sX10_areYears {l0 : Int32} {l1 : Int32} {m : ml_M} {rv : Int32} (h : fX10_areYears l0 l1 m = some rv) : ml_Sn yX10_areYears cX10_areYears 2 (some .boolean) 2 [ml_i l0, ml_i l1] m (some (ml_i rv)) m :=
  ml_Sn_of (P := (rv = 0 ∨ rv = 1)) (ini := false) (by decide +kernel) (Nat.le_of_ble_eq_true rfl) (fun h => by cases h) (fun hz => ml_RkZ rv hz) fun E hL hr => wX10_areYears_0 hL hr _ _ h
theorem dX10_isKeyNumber_0 : ml_d cX10_isKeyNumber 0 (.iload_n 0) 1 1 := ⟨by decide +kernel, rfl⟩
theorem dX10_isKeyNumber_1 : ml_d cX10_isKeyNumber 1 (.sipush 1111) 3 4 := ⟨by decide +kernel, rfl⟩
theorem dX10_isKeyNumber_4 : ml_d cX10_isKeyNumber 4 (.sipush 5555) 3 7 := ⟨by decide +kernel, rfl⟩
theorem dX10_isKeyNumber_7 : ml_d cX10_isKeyNumber 7 (.invokestatic 138) 3 10 := ⟨by decide +kernel, rfl⟩
theorem dX10_isKeyNumber_10 : ml_j cX10_isKeyNumber 10 (.ifCond .ne) 15 13 := ⟨5, by decide +kernel, by decide, rfl⟩
theorem dX10_isKeyNumber_13 : ml_d cX10_isKeyNumber 13 (.iconst 0) 1 14 := ⟨by decide +kernel, rfl⟩
theorem dX10_isKeyNumber_14 : ml_d cX10_isKeyNumber 14 (.ireturn) 1 15 := ⟨by decide +kernel, rfl⟩
theorem dX10_isKeyNumber_15 : ml_d cX10_isKeyNumber 15 (.iload_n 0) 1 16 := ⟨by decide +kernel, rfl⟩
theorem dX10_isKeyNumber_16 : ml_d cX10_isKeyNumber 16 (.istore_n 1) 1 17 := ⟨by decide +kernel, rfl⟩
theorem dX10_isKeyNumber_17 : ml_d cX10_isKeyNumber 17 (.iload_n 1) 1 18 := ⟨by decide +kernel, rfl⟩
theorem dX10_isKeyNumber_18 : ml_j cX10_isKeyNumber 18 (.ifCond .le) 43 21 := ⟨25, by decide +kernel, by decide, rfl⟩
theorem dX10_isKeyNumber_21 : ml_d cX10_isKeyNumber 21 (.iload_n 1) 1 22 := ⟨by decide +kernel, rfl⟩
theorem dX10_isKeyNumber_22 : ml_d cX10_isKeyNumber 22 (.bipush 10) 2 24 := ⟨by decide +kernel, rfl⟩
theorem dX10_isKeyNumber_24 : ml_d cX10_isKeyNumber 24 (.irem) 1 25 := ⟨by decide +kernel, rfl⟩
theorem dX10_isKeyNumber_25 : ml_d cX10_isKeyNumber 25 (.iconst 1) 1 26 := ⟨by decide +kernel, rfl⟩
theorem dX10_isKeyNumber_26 : ml_d cX10_isKeyNumber 26 (.iconst 5) 1 27 := ⟨by decide +kernel, rfl⟩
theorem dX10_isKeyNumber_27 : ml_d cX10_isKeyNumber 27 (.invokestatic 138) 3 30 := ⟨by decide +kernel, rfl⟩
theorem dX10_isKeyNumber_30 : ml_j cX10_isKeyNumber 30 (.ifCond .ne) 35 33 := ⟨5, by decide +kernel, by decide, rfl⟩
theorem dX10_isKeyNumber_33 : ml_d cX10_isKeyNumber 33 (.iconst 0) 1 34 := ⟨by decide +kernel, rfl⟩
theorem dX10_isKeyNumber_34 : ml_d cX10_isKeyNumber 34 (.ireturn) 1 35 := ⟨by decide +kernel, rfl⟩
theorem dX10_isKeyNumber_35 : ml_d cX10_isKeyNumber 35 (.iload_n 1) 1 36 := ⟨by decide +kernel, rfl⟩
theorem dX10_isKeyNumber_36 : ml_d cX10_isKeyNumber 36 (.bipush 10) 2 38 := ⟨by decide +kernel, rfl⟩
theorem dX10_isKeyNumber_38 : ml_d cX10_isKeyNumber 38 (.idiv) 1 39 := ⟨by decide +kernel, rfl⟩
theorem dX10_isKeyNumber_39 : ml_d cX10_isKeyNumber 39 (.istore_n 1) 1 40 := ⟨by decide +kernel, rfl⟩
theorem dX10_isKeyNumber_40 : ml_j cX10_isKeyNumber 40 .goto 17 43 := ⟨(-23), by decide +kernel, by decide, rfl⟩
theorem dX10_isKeyNumber_43 : ml_d cX10_isKeyNumber 43 (.iconst 1) 1 44 := ⟨by decide +kernel, rfl⟩
theorem dX10_isKeyNumber_44 : ml_d cX10_isKeyNumber 44 (.ireturn) 1 45 := ⟨by decide +kernel, rfl⟩
def fX10_isKeyNumber_17 : Nat → Int32 → ml_M → Option Int32
  | 0, _, _ => none
  | fu + 1, l1, m =>
    if l1 ≤ 0 then
    some (1 : Int32)
    else
    ml_b1 (fX10_within (l1 - l1 / (10 : Int32) * (10 : Int32)) (1 : Int32) (5 : Int32) m) fun r1470 =>
    if r1470 = 0 then
    some (0 : Int32)
    else
    ml_let (l1 / (10 : Int32)) fun x1471 =>
    (fX10_isKeyNumber_17 fu) x1471 m
theorem vX10_isKeyNumber_17 {E : ml_E} (hL : ml_eL E = 2) {rv : Int32} {m : ml_M} (hr : ∀ (pc pc' : Nat) (lv : List (Nat × ml_X)), ml_d cX10_isKeyNumber pc .ireturn 1 pc' → (rv = 0 ∨ rv = 1) → ml_V E "LostRoom" cX10_isKeyNumber 3 false m pc lv [ml_i rv]) : ∀ (fu : Nat) (l1 : Int32), fX10_isKeyNumber_17 fu l1 m = some rv → ml_V E "LostRoom" cX10_isKeyNumber 3 false m 17 [(1, ml_i l1)] [] := by
  intro fu
  induction fu with
  | zero => intro l1 h; exact ml_none h
  | succ fu ih =>
    intro l1 h
    have hk17 := ih
    unfold fX10_isKeyNumber_17 at h
    exact ml_iload_n dX10_isKeyNumber_17 0 rfl <| ml_if_le dX10_isKeyNumber_18 h (fun _ h => ml_iconst dX10_isKeyNumber_43 kc_i1 <| ml_rp (mk := ml_i) hr dX10_isKeyNumber_44 (fun e => Or.inr e.symm) h) (fun _ h => ml_iload_n dX10_isKeyNumber_21 0 rfl <| ml_bipush dX10_isKeyNumber_22 kc_b10 <| ml_irem dX10_isKeyNumber_24 (by decide) <| ml_iconst dX10_isKeyNumber_25 kc_i1 <| ml_iconst dX10_isKeyNumber_26 kc_i5 <| ml_b1_of h fun r1470 hv1469 h => ml_callS dX10_isKeyNumber_27 wm_124 wb_94 (sX10_within hv1469) rfl (Nat.le_of_ble_eq_true rfl) (Nat.le_of_ble_eq_true rfl) rfl <| ml_if_ne dX10_isKeyNumber_30 h (fun _ h => ml_iload_n dX10_isKeyNumber_35 0 rfl <| ml_bipush dX10_isKeyNumber_36 kc_b10 <| ml_idiv dX10_isKeyNumber_38 (by decide) <| ml_lx (mk := ml_i) h fun x1471 h => ml_istore_n (lv' := [(1, ml_i x1471)]) dX10_isKeyNumber_39 (ml_hn hL rfl) rfl <| ml_goto dX10_isKeyNumber_40 <| ml_V.sub [0] rfl (hk17 _ h)) (fun _ h => ml_iconst dX10_isKeyNumber_33 kc_i0 <| ml_rp (mk := ml_i) hr dX10_isKeyNumber_34 (fun e => Or.inl e.symm) h))
def fX10_isKeyNumber (l0 : Int32) (m : ml_M) : Option Int32 :=
    ml_b1 (fX10_within l0 (1111 : Int32) (5555 : Int32) m) fun r1473 =>
    if r1473 = 0 then
    some (0 : Int32)
    else
    fX10_isKeyNumber_17 ml_fu l0 m
theorem wX10_isKeyNumber_0 {E : ml_E} (hL : ml_eL E = 2) {rv : Int32} {m : ml_M} (hr : ∀ (pc pc' : Nat) (lv : List (Nat × ml_X)), ml_d cX10_isKeyNumber pc .ireturn 1 pc' → (rv = 0 ∨ rv = 1) → ml_V E "LostRoom" cX10_isKeyNumber 3 false m pc lv [ml_i rv]) : ∀ (l0 : Int32), fX10_isKeyNumber l0 m = some rv → ml_V E "LostRoom" cX10_isKeyNumber 3 false m 0 [(0, ml_i l0)] [] := by
  intro l0 h
  unfold fX10_isKeyNumber at h
  exact ml_iload_n dX10_isKeyNumber_0 0 rfl <| ml_sipush dX10_isKeyNumber_1 kc_s1111 <| ml_sipush dX10_isKeyNumber_4 kc_s5555 <| ml_b1_of h fun r1473 hv1472 h => ml_callS dX10_isKeyNumber_7 wm_124 wb_94 (sX10_within hv1472) rfl (Nat.le_of_ble_eq_true rfl) (Nat.le_of_ble_eq_true rfl) rfl <| ml_if_ne dX10_isKeyNumber_10 h (fun _ h => ml_iload_n dX10_isKeyNumber_15 0 rfl <| ml_istore_n (lv' := [(1, ml_i l0), (0, ml_i l0)]) dX10_isKeyNumber_16 (ml_hn hL rfl) rfl <| ml_V.sub [0] rfl (vX10_isKeyNumber_17 hL hr  ml_fu _ h)) (fun _ h => ml_iconst dX10_isKeyNumber_13 kc_i0 <| ml_rp (mk := ml_i) hr dX10_isKeyNumber_14 (fun e => Or.inl e.symm) h)
theorem sX10_isKeyNumber {l0 : Int32} {m : ml_M} {rv : Int32} (h : fX10_isKeyNumber l0 m = some rv) : ml_Sn yX10_isKeyNumber cX10_isKeyNumber 2 (some .boolean) 3 [ml_i l0] m (some (ml_i rv)) m :=
  ml_Sn_of (P := (rv = 0 ∨ rv = 1)) (ini := false) (by decide +kernel) (Nat.le_of_ble_eq_true rfl) (fun h => by cases h) (fun hz => ml_RkZ rv hz) fun E hL hr => wX10_isKeyNumber_0 hL hr _ h
theorem dX10_numberOf_0 : ml_d cX10_numberOf 0 (.iload_n 0) 1 1 := ⟨by decide +kernel, rfl⟩
theorem dX10_numberOf_1 : decode cX10_numberOf 1 = .ok (.tableswitch 154 1 5 #[35, 51, 82, 105, 141], 35) := by decide +kernel
theorem dX10_numberOf_36 : ml_d cX10_numberOf 36 (.iload_n 1) 1 37 := ⟨by decide +kernel, rfl⟩
theorem dX10_numberOf_37 : ml_d cX10_numberOf 37 (.iconst 1) 1 38 := ⟨by decide +kernel, rfl⟩
theorem dX10_numberOf_38 : ml_d cX10_numberOf 38 (.bipush 9) 2 40 := ⟨by decide +kernel, rfl⟩
theorem dX10_numberOf_40 : ml_d cX10_numberOf 40 (.invokestatic 138) 3 43 := ⟨by decide +kernel, rfl⟩
theorem dX10_numberOf_43 : ml_j cX10_numberOf 43 (.ifCond .eq) 50 46 := ⟨7, by decide +kernel, by decide, rfl⟩
theorem dX10_numberOf_46 : ml_d cX10_numberOf 46 (.iload_n 1) 1 47 := ⟨by decide +kernel, rfl⟩
theorem dX10_numberOf_47 : ml_j cX10_numberOf 47 .goto 51 50 := ⟨4, by decide +kernel, by decide, rfl⟩
theorem dX10_numberOf_50 : ml_d cX10_numberOf 50 (.iconst (-1)) 1 51 := ⟨by decide +kernel, rfl⟩
theorem dX10_numberOf_51 : ml_d cX10_numberOf 51 (.ireturn) 1 52 := ⟨by decide +kernel, rfl⟩
theorem dX10_numberOf_52 : ml_d cX10_numberOf 52 (.iload_n 1) 1 53 := ⟨by decide +kernel, rfl⟩
theorem dX10_numberOf_53 : ml_d cX10_numberOf 53 (.iconst 0) 1 54 := ⟨by decide +kernel, rfl⟩
theorem dX10_numberOf_54 : ml_d cX10_numberOf 54 (.bipush 9) 2 56 := ⟨by decide +kernel, rfl⟩
theorem dX10_numberOf_56 : ml_d cX10_numberOf 56 (.invokestatic 138) 3 59 := ⟨by decide +kernel, rfl⟩
theorem dX10_numberOf_59 : ml_j cX10_numberOf 59 (.ifCond .eq) 81 62 := ⟨22, by decide +kernel, by decide, rfl⟩
theorem dX10_numberOf_62 : ml_d cX10_numberOf 62 (.iload_n 2) 1 63 := ⟨by decide +kernel, rfl⟩
theorem dX10_numberOf_63 : ml_d cX10_numberOf 63 (.iconst 1) 1 64 := ⟨by decide +kernel, rfl⟩
theorem dX10_numberOf_64 : ml_d cX10_numberOf 64 (.bipush 9) 2 66 := ⟨by decide +kernel, rfl⟩
theorem dX10_numberOf_66 : ml_d cX10_numberOf 66 (.invokestatic 138) 3 69 := ⟨by decide +kernel, rfl⟩
theorem dX10_numberOf_69 : ml_j cX10_numberOf 69 (.ifCond .eq) 81 72 := ⟨12, by decide +kernel, by decide, rfl⟩
theorem dX10_numberOf_72 : ml_d cX10_numberOf 72 (.bipush 10) 2 74 := ⟨by decide +kernel, rfl⟩
theorem dX10_numberOf_74 : ml_d cX10_numberOf 74 (.iload_n 1) 1 75 := ⟨by decide +kernel, rfl⟩
theorem dX10_numberOf_75 : ml_d cX10_numberOf 75 (.imul) 1 76 := ⟨by decide +kernel, rfl⟩
theorem dX10_numberOf_76 : ml_d cX10_numberOf 76 (.iload_n 2) 1 77 := ⟨by decide +kernel, rfl⟩
theorem dX10_numberOf_77 : ml_d cX10_numberOf 77 (.iadd) 1 78 := ⟨by decide +kernel, rfl⟩
theorem dX10_numberOf_78 : ml_j cX10_numberOf 78 .goto 82 81 := ⟨4, by decide +kernel, by decide, rfl⟩
theorem dX10_numberOf_81 : ml_d cX10_numberOf 81 (.iconst (-1)) 1 82 := ⟨by decide +kernel, rfl⟩
theorem dX10_numberOf_82 : ml_d cX10_numberOf 82 (.ireturn) 1 83 := ⟨by decide +kernel, rfl⟩
theorem dX10_numberOf_83 : ml_d cX10_numberOf 83 (.iload_n 1) 1 84 := ⟨by decide +kernel, rfl⟩
theorem dX10_numberOf_84 : ml_d cX10_numberOf 84 (.iconst 1) 1 85 := ⟨by decide +kernel, rfl⟩
theorem dX10_numberOf_85 : ml_d cX10_numberOf 85 (.bipush 99) 2 87 := ⟨by decide +kernel, rfl⟩
theorem dX10_numberOf_87 : ml_d cX10_numberOf 87 (.invokestatic 138) 3 90 := ⟨by decide +kernel, rfl⟩
theorem dX10_numberOf_90 : ml_j cX10_numberOf 90 (.ifCond .eq) 104 93 := ⟨14, by decide +kernel, by decide, rfl⟩
theorem dX10_numberOf_93 : ml_d cX10_numberOf 93 (.iload_n 1) 1 94 := ⟨by decide +kernel, rfl⟩
theorem dX10_numberOf_94 : ml_d cX10_numberOf 94 (.bipush 10) 2 96 := ⟨by decide +kernel, rfl⟩
theorem dX10_numberOf_96 : ml_d cX10_numberOf 96 (.irem) 1 97 := ⟨by decide +kernel, rfl⟩
theorem dX10_numberOf_97 : ml_j cX10_numberOf 97 (.ifCond .eq) 104 100 := ⟨7, by decide +kernel, by decide, rfl⟩
theorem dX10_numberOf_100 : ml_d cX10_numberOf 100 (.iload_n 1) 1 101 := ⟨by decide +kernel, rfl⟩
theorem dX10_numberOf_101 : ml_j cX10_numberOf 101 .goto 105 104 := ⟨4, by decide +kernel, by decide, rfl⟩
theorem dX10_numberOf_104 : ml_d cX10_numberOf 104 (.iconst (-1)) 1 105 := ⟨by decide +kernel, rfl⟩
theorem dX10_numberOf_105 : ml_d cX10_numberOf 105 (.ireturn) 1 106 := ⟨by decide +kernel, rfl⟩
theorem dX10_numberOf_106 : ml_d cX10_numberOf 106 (.iload_n 1) 1 107 := ⟨by decide +kernel, rfl⟩
theorem dX10_numberOf_107 : ml_d cX10_numberOf 107 (.iconst 1) 1 108 := ⟨by decide +kernel, rfl⟩
theorem dX10_numberOf_108 : ml_d cX10_numberOf 108 (.bipush 9) 2 110 := ⟨by decide +kernel, rfl⟩
theorem dX10_numberOf_110 : ml_d cX10_numberOf 110 (.invokestatic 138) 3 113 := ⟨by decide +kernel, rfl⟩
theorem dX10_numberOf_113 : ml_j cX10_numberOf 113 (.ifCond .eq) 140 116 := ⟨27, by decide +kernel, by decide, rfl⟩
theorem dX10_numberOf_116 : ml_d cX10_numberOf 116 (.iload_n 2) 1 117 := ⟨by decide +kernel, rfl⟩
theorem dX10_numberOf_117 : ml_d cX10_numberOf 117 (.iconst 1) 1 118 := ⟨by decide +kernel, rfl⟩
theorem dX10_numberOf_118 : ml_d cX10_numberOf 118 (.bipush 9) 2 120 := ⟨by decide +kernel, rfl⟩
theorem dX10_numberOf_120 : ml_d cX10_numberOf 120 (.invokestatic 138) 3 123 := ⟨by decide +kernel, rfl⟩
theorem dX10_numberOf_123 : ml_j cX10_numberOf 123 (.ifCond .eq) 140 126 := ⟨17, by decide +kernel, by decide, rfl⟩
theorem dX10_numberOf_126 : ml_d cX10_numberOf 126 (.iload_n 1) 1 127 := ⟨by decide +kernel, rfl⟩
theorem dX10_numberOf_127 : ml_d cX10_numberOf 127 (.iload_n 2) 1 128 := ⟨by decide +kernel, rfl⟩
theorem dX10_numberOf_128 : ml_j cX10_numberOf 128 (.if_icmp .eq) 140 131 := ⟨12, by decide +kernel, by decide, rfl⟩
theorem dX10_numberOf_131 : ml_d cX10_numberOf 131 (.bipush 10) 2 133 := ⟨by decide +kernel, rfl⟩
theorem dX10_numberOf_133 : ml_d cX10_numberOf 133 (.iload_n 1) 1 134 := ⟨by decide +kernel, rfl⟩
theorem dX10_numberOf_134 : ml_d cX10_numberOf 134 (.imul) 1 135 := ⟨by decide +kernel, rfl⟩
theorem dX10_numberOf_135 : ml_d cX10_numberOf 135 (.iload_n 2) 1 136 := ⟨by decide +kernel, rfl⟩
theorem dX10_numberOf_136 : ml_d cX10_numberOf 136 (.iadd) 1 137 := ⟨by decide +kernel, rfl⟩
theorem dX10_numberOf_137 : ml_j cX10_numberOf 137 .goto 141 140 := ⟨4, by decide +kernel, by decide, rfl⟩
theorem dX10_numberOf_140 : ml_d cX10_numberOf 140 (.iconst (-1)) 1 141 := ⟨by decide +kernel, rfl⟩
theorem dX10_numberOf_141 : ml_d cX10_numberOf 141 (.ireturn) 1 142 := ⟨by decide +kernel, rfl⟩
theorem dX10_numberOf_142 : ml_d cX10_numberOf 142 (.iload_n 1) 1 143 := ⟨by decide +kernel, rfl⟩
theorem dX10_numberOf_143 : ml_d cX10_numberOf 143 (.invokestatic 392) 3 146 := ⟨by decide +kernel, rfl⟩
theorem dX10_numberOf_146 : ml_j cX10_numberOf 146 (.ifCond .eq) 153 149 := ⟨7, by decide +kernel, by decide, rfl⟩
theorem dX10_numberOf_149 : ml_d cX10_numberOf 149 (.iload_n 1) 1 150 := ⟨by decide +kernel, rfl⟩
theorem dX10_numberOf_150 : ml_j cX10_numberOf 150 .goto 154 153 := ⟨4, by decide +kernel, by decide, rfl⟩
theorem dX10_numberOf_153 : ml_d cX10_numberOf 153 (.iconst (-1)) 1 154 := ⟨by decide +kernel, rfl⟩
theorem dX10_numberOf_154 : ml_d cX10_numberOf 154 (.ireturn) 1 155 := ⟨by decide +kernel, rfl⟩
theorem dX10_numberOf_155 : ml_d cX10_numberOf 155 (.iconst (-1)) 1 156 := ⟨by decide +kernel, rfl⟩
theorem dX10_numberOf_156 : ml_d cX10_numberOf 156 (.ireturn) 1 157 := ⟨by decide +kernel, rfl⟩
def fX10_numberOf (l0 : Int32) (l1 : Int32) (l2 : Int32) (m : ml_M) : Option Int32 :=
    if l0 = (1 : Int32) then
    ml_b1 (fX10_within l1 (1 : Int32) (9 : Int32) m) fun r1475 =>
    if r1475 = 0 then
    some (-1 : Int32)
    else
    some l1
    else if l0 = (2 : Int32) then
    ml_b1 (fX10_within l1 (0 : Int32) (9 : Int32) m) fun r1479 =>
    if r1479 = 0 then
    some (-1 : Int32)
    else
    ml_b1 (fX10_within l2 (1 : Int32) (9 : Int32) m) fun r1481 =>
    if r1481 = 0 then
    some (-1 : Int32)
    else
    some (((10 : Int32) * l1) + l2)
    else if l0 = (3 : Int32) then
    ml_b1 (fX10_within l1 (1 : Int32) (99 : Int32) m) fun r1485 =>
    if r1485 = 0 then
    some (-1 : Int32)
    else
    if (l1 - l1 / (10 : Int32) * (10 : Int32)) = 0 then
    some (-1 : Int32)
    else
    some l1
    else if l0 = (4 : Int32) then
    ml_b1 (fX10_within l1 (1 : Int32) (9 : Int32) m) fun r1489 =>
    if r1489 = 0 then
    some (-1 : Int32)
    else
    ml_b1 (fX10_within l2 (1 : Int32) (9 : Int32) m) fun r1491 =>
    if r1491 = 0 then
    some (-1 : Int32)
    else
    if l1 = l2 then
    some (-1 : Int32)
    else
    some (((10 : Int32) * l1) + l2)
    else if l0 = (5 : Int32) then
    ml_b1 (fX10_isKeyNumber l1 m) fun r1495 =>
    if r1495 = 0 then
    some (-1 : Int32)
    else
    some l1
    else some (-1 : Int32)
theorem wX10_numberOf_0 {E : ml_E} (hL : ml_eL E = 3) {rv : Int32} {m : ml_M} (hr : ∀ (pc pc' : Nat) (lv : List (Nat × ml_X)), ml_d cX10_numberOf pc .ireturn 1 pc' → True → ml_V E "LostRoom" cX10_numberOf 4 false m pc lv [ml_i rv]) : ∀ (l0 : Int32) (l1 : Int32) (l2 : Int32), fX10_numberOf l0 l1 l2 m = some rv → ml_V E "LostRoom" cX10_numberOf 4 false m 0 [(0, ml_i l0), (1, ml_i l1), (2, ml_i l2)] [] := by
  intro l0 l1 l2 h
  unfold fX10_numberOf at h
  exact ml_iload_n dX10_numberOf_0 0 rfl <| ml_sw_of h (fun hq1476 h => ml_swInC (off := 35) (1 : Int32) hq1476 dX10_numberOf_1 ⟨by decide, by decide, by decide⟩ <| ml_iload_n dX10_numberOf_36 1 rfl <| ml_iconst dX10_numberOf_37 kc_i1 <| ml_bipush dX10_numberOf_38 kc_b9 <| ml_b1_of h fun r1475 hv1474 h => ml_callS dX10_numberOf_40 wm_124 wb_94 (sX10_within hv1474) rfl (Nat.le_of_ble_eq_true rfl) (Nat.le_of_ble_eq_true rfl) rfl <| ml_if_eq dX10_numberOf_43 h (fun _ h => ml_iconst dX10_numberOf_50 kc_im1 <| ml_rp (mk := ml_i) hr dX10_numberOf_51 (fun _ => trivial) h) (fun _ h => ml_iload_n dX10_numberOf_46 1 rfl <| ml_goto dX10_numberOf_47 <| ml_rp (mk := ml_i) hr dX10_numberOf_51 (fun _ => trivial) h)) (fun hq1477 h => ml_sw_of h (fun hq1482 h => ml_swInC (off := 51) (2 : Int32) hq1482 dX10_numberOf_1 ⟨by decide, by decide, by decide⟩ <| ml_iload_n dX10_numberOf_52 1 rfl <| ml_iconst dX10_numberOf_53 kc_i0 <| ml_bipush dX10_numberOf_54 kc_b9 <| ml_b1_of h fun r1479 hv1478 h => ml_callS dX10_numberOf_56 wm_124 wb_94 (sX10_within hv1478) rfl (Nat.le_of_ble_eq_true rfl) (Nat.le_of_ble_eq_true rfl) rfl <| ml_if_eq dX10_numberOf_59 h (fun _ h => ml_iconst dX10_numberOf_81 kc_im1 <| ml_rp (mk := ml_i) hr dX10_numberOf_82 (fun _ => trivial) h) (fun _ h => ml_iload_n dX10_numberOf_62 2 rfl <| ml_iconst dX10_numberOf_63 kc_i1 <| ml_bipush dX10_numberOf_64 kc_b9 <| ml_b1_of h fun r1481 hv1480 h => ml_callS dX10_numberOf_66 wm_124 wb_94 (sX10_within hv1480) rfl (Nat.le_of_ble_eq_true rfl) (Nat.le_of_ble_eq_true rfl) rfl <| ml_if_eq dX10_numberOf_69 h (fun _ h => ml_iconst dX10_numberOf_81 kc_im1 <| ml_rp (mk := ml_i) hr dX10_numberOf_82 (fun _ => trivial) h) (fun _ h => ml_bipush dX10_numberOf_72 kc_b10 <| ml_iload_n dX10_numberOf_74 1 rfl <| ml_imul dX10_numberOf_75 <| ml_iload_n dX10_numberOf_76 2 rfl <| ml_iadd dX10_numberOf_77 <| ml_goto dX10_numberOf_78 <| ml_rp (mk := ml_i) hr dX10_numberOf_82 (fun _ => trivial) h))) (fun hq1483 h => ml_sw_of h (fun hq1486 h => ml_swInC (off := 82) (3 : Int32) hq1486 dX10_numberOf_1 ⟨by decide, by decide, by decide⟩ <| ml_iload_n dX10_numberOf_83 1 rfl <| ml_iconst dX10_numberOf_84 kc_i1 <| ml_bipush dX10_numberOf_85 kc_b99 <| ml_b1_of h fun r1485 hv1484 h => ml_callS dX10_numberOf_87 wm_124 wb_94 (sX10_within hv1484) rfl (Nat.le_of_ble_eq_true rfl) (Nat.le_of_ble_eq_true rfl) rfl <| ml_if_eq dX10_numberOf_90 h (fun _ h => ml_iconst dX10_numberOf_104 kc_im1 <| ml_rp (mk := ml_i) hr dX10_numberOf_105 (fun _ => trivial) h) (fun _ h => ml_iload_n dX10_numberOf_93 1 rfl <| ml_bipush dX10_numberOf_94 kc_b10 <| ml_irem dX10_numberOf_96 (by decide) <| ml_if_eq dX10_numberOf_97 h (fun _ h => ml_iconst dX10_numberOf_104 kc_im1 <| ml_rp (mk := ml_i) hr dX10_numberOf_105 (fun _ => trivial) h) (fun _ h => ml_iload_n dX10_numberOf_100 1 rfl <| ml_goto dX10_numberOf_101 <| ml_rp (mk := ml_i) hr dX10_numberOf_105 (fun _ => trivial) h))) (fun hq1487 h => ml_sw_of h (fun hq1492 h => ml_swInC (off := 105) (4 : Int32) hq1492 dX10_numberOf_1 ⟨by decide, by decide, by decide⟩ <| ml_iload_n dX10_numberOf_106 1 rfl <| ml_iconst dX10_numberOf_107 kc_i1 <| ml_bipush dX10_numberOf_108 kc_b9 <| ml_b1_of h fun r1489 hv1488 h => ml_callS dX10_numberOf_110 wm_124 wb_94 (sX10_within hv1488) rfl (Nat.le_of_ble_eq_true rfl) (Nat.le_of_ble_eq_true rfl) rfl <| ml_if_eq dX10_numberOf_113 h (fun _ h => ml_iconst dX10_numberOf_140 kc_im1 <| ml_rp (mk := ml_i) hr dX10_numberOf_141 (fun _ => trivial) h) (fun _ h => ml_iload_n dX10_numberOf_116 2 rfl <| ml_iconst dX10_numberOf_117 kc_i1 <| ml_bipush dX10_numberOf_118 kc_b9 <| ml_b1_of h fun r1491 hv1490 h => ml_callS dX10_numberOf_120 wm_124 wb_94 (sX10_within hv1490) rfl (Nat.le_of_ble_eq_true rfl) (Nat.le_of_ble_eq_true rfl) rfl <| ml_if_eq dX10_numberOf_123 h (fun _ h => ml_iconst dX10_numberOf_140 kc_im1 <| ml_rp (mk := ml_i) hr dX10_numberOf_141 (fun _ => trivial) h) (fun _ h => ml_iload_n dX10_numberOf_126 1 rfl <| ml_iload_n dX10_numberOf_127 2 rfl <| ml_icmp_eq dX10_numberOf_128 h (fun _ h => ml_iconst dX10_numberOf_140 kc_im1 <| ml_rp (mk := ml_i) hr dX10_numberOf_141 (fun _ => trivial) h) (fun _ h => ml_bipush dX10_numberOf_131 kc_b10 <| ml_iload_n dX10_numberOf_133 1 rfl <| ml_imul dX10_numberOf_134 <| ml_iload_n dX10_numberOf_135 2 rfl <| ml_iadd dX10_numberOf_136 <| ml_goto dX10_numberOf_137 <| ml_rp (mk := ml_i) hr dX10_numberOf_141 (fun _ => trivial) h)))) (fun hq1493 h => ml_sw_of h (fun hq1496 h => ml_swInC (off := 141) (5 : Int32) hq1496 dX10_numberOf_1 ⟨by decide, by decide, by decide⟩ <| ml_iload_n dX10_numberOf_142 1 rfl <| ml_b1_of h fun r1495 hv1494 h => ml_callS dX10_numberOf_143 wm_340 wb_234 (sX10_isKeyNumber hv1494) rfl (Nat.le_of_ble_eq_true rfl) (Nat.le_of_ble_eq_true rfl) rfl <| ml_if_eq dX10_numberOf_146 h (fun _ h => ml_iconst dX10_numberOf_153 kc_im1 <| ml_rp (mk := ml_i) hr dX10_numberOf_154 (fun _ => trivial) h) (fun _ h => ml_iload_n dX10_numberOf_149 1 rfl <| ml_goto dX10_numberOf_150 <| ml_rp (mk := ml_i) hr dX10_numberOf_154 (fun _ => trivial) h)) (fun hq1497 h => ml_swOut dX10_numberOf_1 (by have w0 := lv_neT hq1477 (show (1 : Int32).toInt = 1 from by decide); have w1 := lv_neT hq1483 (show (2 : Int32).toInt = 2 from by decide); have w2 := lv_neT hq1487 (show (3 : Int32).toInt = 3 from by decide); have w3 := lv_neT hq1493 (show (4 : Int32).toInt = 4 from by decide); have w4 := lv_neT hq1497 (show (5 : Int32).toInt = 5 from by decide); omega) (by decide) <| ml_iconst dX10_numberOf_155 kc_im1 <| ml_rp (mk := ml_i) hr dX10_numberOf_156 (fun _ => trivial) h)))))
theorem sX10_numberOf {l0 : Int32} {l1 : Int32} {l2 : Int32} {m : ml_M} {rv : Int32} (h : fX10_numberOf l0 l1 l2 m = some rv) : ml_Sn yX10_numberOf cX10_numberOf 3 (some .int) 4 [ml_i l0, ml_i l1, ml_i l2] m (some (ml_i rv)) m :=
  ml_Sn_of (P := True) (ini := false) (by decide +kernel) (Nat.le_of_ble_eq_true rfl) (fun h => by cases h) (fun _ => ml_RkI rv) fun E hL hr => wX10_numberOf_0 hL hr _ _ _ h
theorem dX8_init_0 : ml_d cX8_init 0 (.aload_n 0) 1 1 := ⟨by decide +kernel, rfl⟩
theorem dX8_init_1 : ml_d cX8_init 1 (.invokespecial 3) 3 4 := ⟨by decide +kernel, rfl⟩
theorem dX8_init_4 : ml_d cX8_init 4 (.aload_n 0) 1 5 := ⟨by decide +kernel, rfl⟩
theorem dX8_init_5 : ml_d cX8_init 5 (.bipush (-9)) 2 7 := ⟨by decide +kernel, rfl⟩
theorem dX8_init_7 : ml_d cX8_init 7 (.putfield 9) 3 10 := ⟨by decide +kernel, rfl⟩
theorem dX8_init_10 : ml_d cX8_init 10 (.aload_n 0) 1 11 := ⟨by decide +kernel, rfl⟩
theorem dX8_init_11 : ml_d cX8_init 11 (.iload_n 1) 1 12 := ⟨by decide +kernel, rfl⟩
theorem dX8_init_12 : ml_d cX8_init 12 (.putfield 15) 3 15 := ⟨by decide +kernel, rfl⟩
theorem dX8_init_15 : ml_d cX8_init 15 (.aload_n 0) 1 16 := ⟨by decide +kernel, rfl⟩
theorem dX8_init_16 : ml_d cX8_init 16 (.iload_n 2) 1 17 := ⟨by decide +kernel, rfl⟩
theorem dX8_init_17 : ml_d cX8_init 17 (.putfield 18) 3 20 := ⟨by decide +kernel, rfl⟩
theorem dX8_init_20 : ml_d cX8_init 20 (.aload_n 0) 1 21 := ⟨by decide +kernel, rfl⟩
theorem dX8_init_21 : ml_d cX8_init 21 (.iload_n 3) 1 22 := ⟨by decide +kernel, rfl⟩
theorem dX8_init_22 : ml_d cX8_init 22 (.putfield 21) 3 25 := ⟨by decide +kernel, rfl⟩
theorem dX8_init_25 : ml_d cX8_init 25 (.aload_n 0) 1 26 := ⟨by decide +kernel, rfl⟩
theorem dX8_init_26 : ml_d cX8_init 26 (.iload 4) 2 28 := ⟨by decide +kernel, rfl⟩
theorem dX8_init_28 : ml_d cX8_init 28 (.putfield 24) 3 31 := ⟨by decide +kernel, rfl⟩
theorem dX8_init_31 : ml_d cX8_init 31 (.aload_n 0) 1 32 := ⟨by decide +kernel, rfl⟩
theorem dX8_init_32 : ml_d cX8_init 32 (.iload 5) 2 34 := ⟨by decide +kernel, rfl⟩
theorem dX8_init_34 : ml_d cX8_init 34 (.putfield 27) 3 37 := ⟨by decide +kernel, rfl⟩
theorem dX8_init_37 : ml_d cX8_init 37 (.return_) 1 38 := ⟨by decide +kernel, rfl⟩
def fX8_init (l0 : Nat) (l1 : Int32) (l2 : Int32) (l3 : Int32) (l4 : Int32) (l5 : Int32) (m : ml_M) : Option ml_M :=
    if l0 ≠ 0 then
    if (ml_K m l0).1 = 8 then
    ml_let (ml_sI m l0 6 (-9 : Int32)) fun m1500 =>
    ml_let (ml_sI m1500 l0 0 l1) fun m1502 =>
    ml_let (ml_sI m1502 l0 1 l2) fun m1504 =>
    ml_let (ml_sI m1504 l0 2 l3) fun m1506 =>
    ml_let (ml_sI m1506 l0 3 l4) fun m1508 =>
    ml_let (ml_sI m1508 l0 4 l5) fun m1510 =>
    some m1510
    else none
    else none
theorem wX8_init_0 {E : ml_E} (hL : ml_eL E = 6) {rm : ml_M} (hr : ∀ (pc pc' : Nat) (lv : List (Nat × ml_X)), ml_d cX8_init pc .return_ 1 pc' → True → ml_V E "LostRoom$Thing" cX8_init 2 true rm pc lv []) : ∀ (l0 : Nat) (l1 : Int32) (l2 : Int32) (l3 : Int32) (l4 : Int32) (l5 : Int32) (m : ml_M), fX8_init l0 l1 l2 l3 l4 l5 m = some rm → ml_V E "LostRoom$Thing" cX8_init 2 true m 0 [(0, ml_r l0), (1, ml_i l1), (2, ml_i l2), (3, ml_i l3), (4, ml_i l4), (5, ml_i l5)] [] := by
  intro l0 l1 l2 l3 l4 l5 m h
  unfold fX8_init at h
  exact ml_aload_n dX8_init_0 0 rfl <| ml_ck_of h fun hz1498 h => ml_objInit dX8_init_1 wb_235 (Nat.le_of_ble_eq_true rfl) (Nat.le_of_ble_eq_true rfl) hz1498 <| ml_aload_n dX8_init_4 0 rfl <| ml_bipush dX8_init_5 kc_bm9 <| ml_ck_of h fun hc1499 h => ml_putI dX8_init_7 wb_236 hc1499 <| ml_lt (m := m) rfl h fun m1500 em1501 h => ml_aload_n dX8_init_10 0 rfl <| ml_iload_n dX8_init_11 1 rfl <| ml_putI dX8_init_12 wb_237 (ml_kk em1501 hc1499) <| ml_lt (m := m1500) rfl h fun m1502 em1503 h => ml_aload_n dX8_init_15 0 rfl <| ml_iload_n dX8_init_16 2 rfl <| ml_putI dX8_init_17 wb_238 (ml_kk em1503 (ml_kk em1501 hc1499)) <| ml_lt (m := m1502) rfl h fun m1504 em1505 h => ml_aload_n dX8_init_20 0 rfl <| ml_iload_n dX8_init_21 3 rfl <| ml_putI dX8_init_22 wb_239 (ml_kk em1505 (ml_kk em1503 (ml_kk em1501 hc1499))) <| ml_lt (m := m1504) rfl h fun m1506 em1507 h => ml_aload_n dX8_init_25 0 rfl <| ml_iload dX8_init_26 4 rfl <| ml_putI dX8_init_28 wb_240 (ml_kk em1507 (ml_kk em1505 (ml_kk em1503 (ml_kk em1501 hc1499)))) <| ml_lt (m := m1506) rfl h fun m1508 em1509 h => ml_aload_n dX8_init_31 0 rfl <| ml_iload dX8_init_32 5 rfl <| ml_putI dX8_init_34 wb_241 (ml_kk em1509 (ml_kk em1507 (ml_kk em1505 (ml_kk em1503 (ml_kk em1501 hc1499))))) <| ml_lt (m := m1508) rfl h fun m1510 em1511 h => ml_rv hr dX8_init_37 trivial h
theorem sX8_init {l0 : Nat} {l1 : Int32} {l2 : Int32} {l3 : Int32} {l4 : Int32} {l5 : Int32} {m : ml_M} {rm : ml_M} (h : fX8_init l0 l1 l2 l3 l4 l5 m = some rm) : ml_Sn yX8_init cX8_init 6 none 2 [ml_r l0, ml_i l1, ml_i l2, ml_i l3, ml_i l4, ml_i l5] m none rm :=
  ml_Sn_of (P := True) (ini := true) (by decide +kernel) (Nat.le_of_ble_eq_true rfl) (fun _ => rfl) (fun _ => ml_RkV) fun E hL hr => wX8_init_0 hL hr _ _ _ _ _ _ _ h
theorem dX8_suitsAsLetter_0 : ml_d cX8_suitsAsLetter 0 (.aload_n 0) 1 1 := ⟨by decide +kernel, rfl⟩
theorem dX8_suitsAsLetter_1 : ml_d cX8_suitsAsLetter 1 (.getfield 24) 3 4 := ⟨by decide +kernel, rfl⟩
theorem dX8_suitsAsLetter_4 : ml_d cX8_suitsAsLetter 4 (.bipush 10) 2 6 := ⟨by decide +kernel, rfl⟩
theorem dX8_suitsAsLetter_6 : ml_d cX8_suitsAsLetter 6 (.idiv) 1 7 := ⟨by decide +kernel, rfl⟩
theorem dX8_suitsAsLetter_7 : ml_d cX8_suitsAsLetter 7 (.istore_n 2) 1 8 := ⟨by decide +kernel, rfl⟩
theorem dX8_suitsAsLetter_8 : ml_d cX8_suitsAsLetter 8 (.iload_n 2) 1 9 := ⟨by decide +kernel, rfl⟩
theorem dX8_suitsAsLetter_9 : ml_j cX8_suitsAsLetter 9 (.ifCond .eq) 20 12 := ⟨11, by decide +kernel, by decide, rfl⟩
theorem dX8_suitsAsLetter_12 : ml_d cX8_suitsAsLetter 12 (.iload_n 2) 1 13 := ⟨by decide +kernel, rfl⟩
theorem dX8_suitsAsLetter_13 : ml_d cX8_suitsAsLetter 13 (.aload_n 1) 1 14 := ⟨by decide +kernel, rfl⟩
theorem dX8_suitsAsLetter_14 : ml_d cX8_suitsAsLetter 14 (.getfield 47) 3 17 := ⟨by decide +kernel, rfl⟩
theorem dX8_suitsAsLetter_17 : ml_j cX8_suitsAsLetter 17 (.if_icmp .ne) 38 20 := ⟨21, by decide +kernel, by decide, rfl⟩
theorem dX8_suitsAsLetter_20 : ml_d cX8_suitsAsLetter 20 (.aload_n 0) 1 21 := ⟨by decide +kernel, rfl⟩
theorem dX8_suitsAsLetter_21 : ml_d cX8_suitsAsLetter 21 (.getfield 24) 3 24 := ⟨by decide +kernel, rfl⟩
theorem dX8_suitsAsLetter_24 : ml_d cX8_suitsAsLetter 24 (.bipush 10) 2 26 := ⟨by decide +kernel, rfl⟩
theorem dX8_suitsAsLetter_26 : ml_d cX8_suitsAsLetter 26 (.irem) 1 27 := ⟨by decide +kernel, rfl⟩
theorem dX8_suitsAsLetter_27 : ml_d cX8_suitsAsLetter 27 (.aload_n 1) 1 28 := ⟨by decide +kernel, rfl⟩
theorem dX8_suitsAsLetter_28 : ml_d cX8_suitsAsLetter 28 (.getfield 50) 3 31 := ⟨by decide +kernel, rfl⟩
theorem dX8_suitsAsLetter_31 : ml_j cX8_suitsAsLetter 31 (.if_icmp .eq) 38 34 := ⟨7, by decide +kernel, by decide, rfl⟩
theorem dX8_suitsAsLetter_34 : ml_d cX8_suitsAsLetter 34 (.iconst 1) 1 35 := ⟨by decide +kernel, rfl⟩
theorem dX8_suitsAsLetter_35 : ml_j cX8_suitsAsLetter 35 .goto 39 38 := ⟨4, by decide +kernel, by decide, rfl⟩
theorem dX8_suitsAsLetter_38 : ml_d cX8_suitsAsLetter 38 (.iconst 0) 1 39 := ⟨by decide +kernel, rfl⟩
theorem dX8_suitsAsLetter_39 : ml_d cX8_suitsAsLetter 39 (.ireturn) 1 40 := ⟨by decide +kernel, rfl⟩
def fX8_suitsAsLetter_20 (l0 : Nat) (l1 : Nat) (m : ml_M) : Option Int32 :=
    if (ml_K m l0).1 = 8 then
    if (ml_K m l1).1 = 6 then
    if ((ml_I m l0 3) - (ml_I m l0 3) / (10 : Int32) * (10 : Int32)) = (ml_I m l1 4) then
    some (0 : Int32)
    else
    some (1 : Int32)
    else none
    else none
theorem vX8_suitsAsLetter_20 {E : ml_E} (hL : ml_eL E = 3) {rv : Int32} {m : ml_M} (hr : ∀ (pc pc' : Nat) (lv : List (Nat × ml_X)), ml_d cX8_suitsAsLetter pc .ireturn 1 pc' → (rv = 0 ∨ rv = 1) → ml_V E "LostRoom$Thing" cX8_suitsAsLetter 2 false m pc lv [ml_i rv]) : ∀ (l0 : Nat) (l1 : Nat), fX8_suitsAsLetter_20 l0 l1 m = some rv → ml_V E "LostRoom$Thing" cX8_suitsAsLetter 2 false m 20 [(0, ml_r l0), (1, ml_r l1)] [] := by
  intro l0 l1 h
  unfold fX8_suitsAsLetter_20 at h
  exact ml_aload_n dX8_suitsAsLetter_20 0 rfl <| ml_ck_of h fun hc1512 h => ml_getI dX8_suitsAsLetter_21 wb_242 hc1512 <| ml_bipush dX8_suitsAsLetter_24 kc_b10 <| ml_irem dX8_suitsAsLetter_26 (by decide) <| ml_aload_n dX8_suitsAsLetter_27 1 rfl <| ml_ck_of h fun hc1513 h => ml_getI dX8_suitsAsLetter_28 wb_243 hc1513 <| ml_icmp_eq dX8_suitsAsLetter_31 h (fun _ h => ml_iconst dX8_suitsAsLetter_38 kc_i0 <| ml_rp (mk := ml_i) hr dX8_suitsAsLetter_39 (fun e => Or.inl e.symm) h) (fun _ h => ml_iconst dX8_suitsAsLetter_34 kc_i1 <| ml_goto dX8_suitsAsLetter_35 <| ml_rp (mk := ml_i) hr dX8_suitsAsLetter_39 (fun e => Or.inr e.symm) h)
def fX8_suitsAsLetter (l0 : Nat) (l1 : Nat) (m : ml_M) : Option Int32 :=
    if (ml_K m l0).1 = 8 then
    ml_let ((ml_I m l0 3) / (10 : Int32)) fun x1515 =>
    if x1515 = 0 then
    fX8_suitsAsLetter_20 l0 l1 m
    else
    if (ml_K m l1).1 = 6 then
    if x1515 = (ml_I m l1 3) then
    fX8_suitsAsLetter_20 l0 l1 m
    else
    some (0 : Int32)
    else none
    else none
theorem wX8_suitsAsLetter_0 {E : ml_E} (hL : ml_eL E = 3) {rv : Int32} {m : ml_M} (hr : ∀ (pc pc' : Nat) (lv : List (Nat × ml_X)), ml_d cX8_suitsAsLetter pc .ireturn 1 pc' → (rv = 0 ∨ rv = 1) → ml_V E "LostRoom$Thing" cX8_suitsAsLetter 2 false m pc lv [ml_i rv]) : ∀ (l0 : Nat) (l1 : Nat), fX8_suitsAsLetter l0 l1 m = some rv → ml_V E "LostRoom$Thing" cX8_suitsAsLetter 2 false m 0 [(0, ml_r l0), (1, ml_r l1)] [] := by
  intro l0 l1 h
  unfold fX8_suitsAsLetter at h
  exact ml_aload_n dX8_suitsAsLetter_0 0 rfl <| ml_ck_of h fun hc1514 h => ml_getI dX8_suitsAsLetter_1 wb_242 hc1514 <| ml_bipush dX8_suitsAsLetter_4 kc_b10 <| ml_idiv dX8_suitsAsLetter_6 (by decide) <| ml_lx (mk := ml_i) h fun x1515 h => ml_istore_n (lv' := [(2, ml_i x1515), (0, ml_r l0), (1, ml_r l1)]) dX8_suitsAsLetter_7 (ml_hn hL rfl) rfl <| ml_iload_n dX8_suitsAsLetter_8 0 rfl <| ml_if_eq dX8_suitsAsLetter_9 h (fun _ h => ml_V.sub [1, 2] rfl (vX8_suitsAsLetter_20 hL hr  _ _ h)) (fun _ h => ml_iload_n dX8_suitsAsLetter_12 0 rfl <| ml_aload_n dX8_suitsAsLetter_13 2 rfl <| ml_ck_of h fun hc1516 h => ml_getI dX8_suitsAsLetter_14 wb_244 hc1516 <| ml_icmp_ne dX8_suitsAsLetter_17 h (fun _ h => ml_iconst dX8_suitsAsLetter_38 kc_i0 <| ml_rp (mk := ml_i) hr dX8_suitsAsLetter_39 (fun e => Or.inl e.symm) h) (fun _ h => ml_V.sub [1, 2] rfl (vX8_suitsAsLetter_20 hL hr  _ _ h)))
theorem sX8_suitsAsLetter {l0 : Nat} {l1 : Nat} {m : ml_M} {rv : Int32} (h : fX8_suitsAsLetter l0 l1 m = some rv) : ml_Sn yX8_suitsAsLetter cX8_suitsAsLetter 3 (some .boolean) 2 [ml_r l0, ml_r l1] m (some (ml_i rv)) m :=
  ml_Sn_of (P := (rv = 0 ∨ rv = 1)) (ini := false) (by decide +kernel) (Nat.le_of_ble_eq_true rfl) (fun h => by cases h) (fun hz => ml_RkZ rv hz) fun E hL hr => wX8_suitsAsLetter_0 hL hr _ _ h
theorem dX8_suits_0 : ml_d cX8_suits 0 (.aload_n 0) 1 1 := ⟨by decide +kernel, rfl⟩
theorem dX8_suits_1 : ml_d cX8_suits 1 (.getfield 21) 3 4 := ⟨by decide +kernel, rfl⟩
theorem dX8_suits_4 : ml_d cX8_suits 4 (.aload_n 1) 1 5 := ⟨by decide +kernel, rfl⟩
theorem dX8_suits_5 : ml_d cX8_suits 5 (.getfield 30) 3 8 := ⟨by decide +kernel, rfl⟩
theorem dX8_suits_8 : ml_j cX8_suits 8 (.if_icmp .lt) 22 11 := ⟨14, by decide +kernel, by decide, rfl⟩
theorem dX8_suits_11 : ml_d cX8_suits 11 (.aload_n 0) 1 12 := ⟨by decide +kernel, rfl⟩
theorem dX8_suits_12 : ml_d cX8_suits 12 (.getfield 18) 3 15 := ⟨by decide +kernel, rfl⟩
theorem dX8_suits_15 : ml_d cX8_suits 15 (.aload_n 1) 1 16 := ⟨by decide +kernel, rfl⟩
theorem dX8_suits_16 : ml_d cX8_suits 16 (.getfield 33) 3 19 := ⟨by decide +kernel, rfl⟩
theorem dX8_suits_19 : ml_j cX8_suits 19 (.if_icmp .le) 24 22 := ⟨5, by decide +kernel, by decide, rfl⟩
theorem dX8_suits_22 : ml_d cX8_suits 22 (.iconst 0) 1 23 := ⟨by decide +kernel, rfl⟩
theorem dX8_suits_23 : ml_d cX8_suits 23 (.ireturn) 1 24 := ⟨by decide +kernel, rfl⟩
theorem dX8_suits_24 : ml_d cX8_suits 24 (.aload_n 0) 1 25 := ⟨by decide +kernel, rfl⟩
theorem dX8_suits_25 : ml_d cX8_suits 25 (.getfield 15) 3 28 := ⟨by decide +kernel, rfl⟩
theorem dX8_suits_28 : decode cX8_suits 28 = .ok (.tableswitch 116 1 4 #[32, 54, 60, 82], 32) := by decide +kernel
theorem dX8_suits_60 : ml_d cX8_suits 60 (.aload_n 0) 1 61 := ⟨by decide +kernel, rfl⟩
theorem dX8_suits_61 : ml_d cX8_suits 61 (.getfield 24) 3 64 := ⟨by decide +kernel, rfl⟩
theorem dX8_suits_64 : ml_d cX8_suits 64 (.aload_n 1) 1 65 := ⟨by decide +kernel, rfl⟩
theorem dX8_suits_65 : ml_d cX8_suits 65 (.getfield 34) 3 68 := ⟨by decide +kernel, rfl⟩
theorem dX8_suits_68 : ml_d cX8_suits 68 (.isub) 1 69 := ⟨by decide +kernel, rfl⟩
theorem dX8_suits_69 : ml_d cX8_suits 69 (.invokestatic 37) 3 72 := ⟨by decide +kernel, rfl⟩
theorem dX8_suits_72 : ml_d cX8_suits 72 (.iconst 1) 1 73 := ⟨by decide +kernel, rfl⟩
theorem dX8_suits_73 : ml_j cX8_suits 73 (.if_icmp .gt) 80 76 := ⟨7, by decide +kernel, by decide, rfl⟩
theorem dX8_suits_76 : ml_d cX8_suits 76 (.iconst 1) 1 77 := ⟨by decide +kernel, rfl⟩
theorem dX8_suits_77 : ml_j cX8_suits 77 .goto 81 80 := ⟨4, by decide +kernel, by decide, rfl⟩
theorem dX8_suits_80 : ml_d cX8_suits 80 (.iconst 0) 1 81 := ⟨by decide +kernel, rfl⟩
theorem dX8_suits_81 : ml_d cX8_suits 81 (.ireturn) 1 82 := ⟨by decide +kernel, rfl⟩
theorem dX8_suits_82 : ml_d cX8_suits 82 (.aload_n 0) 1 83 := ⟨by decide +kernel, rfl⟩
theorem dX8_suits_83 : ml_d cX8_suits 83 (.aload_n 1) 1 84 := ⟨by decide +kernel, rfl⟩
theorem dX8_suits_84 : ml_d cX8_suits 84 (.invokevirtual 43) 3 87 := ⟨by decide +kernel, rfl⟩
theorem dX8_suits_87 : ml_d cX8_suits 87 (.ireturn) 1 88 := ⟨by decide +kernel, rfl⟩
theorem dX8_suits_88 : ml_d cX8_suits 88 (.iload_n 2) 1 89 := ⟨by decide +kernel, rfl⟩
theorem dX8_suits_89 : ml_d cX8_suits 89 (.aload_n 0) 1 90 := ⟨by decide +kernel, rfl⟩
theorem dX8_suits_90 : ml_d cX8_suits 90 (.getfield 27) 3 93 := ⟨by decide +kernel, rfl⟩
theorem dX8_suits_93 : ml_j cX8_suits 93 (.if_icmp .ne) 108 96 := ⟨15, by decide +kernel, by decide, rfl⟩
theorem dX8_suits_96 : ml_d cX8_suits 96 (.aload_n 0) 1 97 := ⟨by decide +kernel, rfl⟩
theorem dX8_suits_97 : ml_d cX8_suits 97 (.aload_n 1) 1 98 := ⟨by decide +kernel, rfl⟩
theorem dX8_suits_98 : ml_d cX8_suits 98 (.invokevirtual 43) 3 101 := ⟨by decide +kernel, rfl⟩
theorem dX8_suits_101 : ml_j cX8_suits 101 (.ifCond .eq) 108 104 := ⟨7, by decide +kernel, by decide, rfl⟩
theorem dX8_suits_104 : ml_d cX8_suits 104 (.iconst 1) 1 105 := ⟨by decide +kernel, rfl⟩
theorem dX8_suits_105 : ml_j cX8_suits 105 .goto 109 108 := ⟨4, by decide +kernel, by decide, rfl⟩
theorem dX8_suits_108 : ml_d cX8_suits 108 (.iconst 0) 1 109 := ⟨by decide +kernel, rfl⟩
theorem dX8_suits_109 : ml_d cX8_suits 109 (.ireturn) 1 110 := ⟨by decide +kernel, rfl⟩
theorem dX8_suits_110 : ml_d cX8_suits 110 (.aload_n 0) 1 111 := ⟨by decide +kernel, rfl⟩
theorem dX8_suits_111 : ml_d cX8_suits 111 (.getfield 24) 3 114 := ⟨by decide +kernel, rfl⟩
theorem dX8_suits_114 : ml_d cX8_suits 114 (.bipush 10) 2 116 := ⟨by decide +kernel, rfl⟩
theorem dX8_suits_116 : ml_d cX8_suits 116 (.idiv) 1 117 := ⟨by decide +kernel, rfl⟩
theorem dX8_suits_117 : ml_d cX8_suits 117 (.aload_n 1) 1 118 := ⟨by decide +kernel, rfl⟩
theorem dX8_suits_118 : ml_d cX8_suits 118 (.getfield 47) 3 121 := ⟨by decide +kernel, rfl⟩
theorem dX8_suits_121 : ml_j cX8_suits 121 (.if_icmp .eq) 138 124 := ⟨17, by decide +kernel, by decide, rfl⟩
theorem dX8_suits_124 : ml_d cX8_suits 124 (.aload_n 0) 1 125 := ⟨by decide +kernel, rfl⟩
theorem dX8_suits_125 : ml_d cX8_suits 125 (.getfield 24) 3 128 := ⟨by decide +kernel, rfl⟩
theorem dX8_suits_128 : ml_d cX8_suits 128 (.bipush 10) 2 130 := ⟨by decide +kernel, rfl⟩
theorem dX8_suits_130 : ml_d cX8_suits 130 (.irem) 1 131 := ⟨by decide +kernel, rfl⟩
theorem dX8_suits_131 : ml_d cX8_suits 131 (.aload_n 1) 1 132 := ⟨by decide +kernel, rfl⟩
theorem dX8_suits_132 : ml_d cX8_suits 132 (.getfield 47) 3 135 := ⟨by decide +kernel, rfl⟩
theorem dX8_suits_135 : ml_j cX8_suits 135 (.if_icmp .ne) 142 138 := ⟨7, by decide +kernel, by decide, rfl⟩
theorem dX8_suits_138 : ml_d cX8_suits 138 (.iconst 1) 1 139 := ⟨by decide +kernel, rfl⟩
theorem dX8_suits_139 : ml_j cX8_suits 139 .goto 143 142 := ⟨4, by decide +kernel, by decide, rfl⟩
theorem dX8_suits_142 : ml_d cX8_suits 142 (.iconst 0) 1 143 := ⟨by decide +kernel, rfl⟩
theorem dX8_suits_143 : ml_d cX8_suits 143 (.ireturn) 1 144 := ⟨by decide +kernel, rfl⟩
theorem dX8_suits_144 : ml_d cX8_suits 144 (.iconst 1) 1 145 := ⟨by decide +kernel, rfl⟩
theorem dX8_suits_145 : ml_d cX8_suits 145 (.ireturn) 1 146 := ⟨by decide +kernel, rfl⟩
def fX8_suits_138 (m : ml_M) : Option Int32 :=
    some (1 : Int32)
theorem vX8_suits_138 {E : ml_E} (hL : ml_eL E = 3) {rv : Int32} {m : ml_M} (hr : ∀ (pc pc' : Nat) (lv : List (Nat × ml_X)), ml_d cX8_suits pc .ireturn 1 pc' → (rv = 0 ∨ rv = 1) → ml_V E "LostRoom$Thing" cX8_suits 3 false m pc lv [ml_i rv]) : fX8_suits_138  m = some rv → ml_V E "LostRoom$Thing" cX8_suits 3 false m 138 [] [] := by
  intro  h
  unfold fX8_suits_138 at h
  exact ml_iconst dX8_suits_138 kc_i1 <| ml_goto dX8_suits_139 <| ml_rp (mk := ml_i) hr dX8_suits_143 (fun e => Or.inr e.symm) h
def fX8_suits (l0 : Nat) (l1 : Nat) (l2 : Int32) (m : ml_M) : Option Int32 :=
    if (ml_K m l0).1 = 8 then
    if (ml_K m l1).1 = 6 then
    if (ml_I m l0 2) < (ml_I m l1 0) then
    some (0 : Int32)
    else
    if (ml_I m l0 1) ≤ (ml_I m l1 1) then
    if (ml_I m l0 0) = (1 : Int32) then
    if (1 : Int32) < (if 0 ≤ ((ml_I m l0 3) - (ml_I m l1 2)) then ((ml_I m l0 3) - (ml_I m l1 2)) else 0 - ((ml_I m l0 3) - (ml_I m l1 2))) then
    some (0 : Int32)
    else
    some (1 : Int32)
    else if (ml_I m l0 0) = (2 : Int32) then
    ml_b1 (fX8_suitsAsLetter l0 l1 m) fun r1522 =>
    if r1522 = 0 ∨ r1522 = 1 then some r1522 else none
    else if (ml_I m l0 0) = (3 : Int32) then
    if l2 = (ml_I m l0 4) then
    ml_b1 (fX8_suitsAsLetter l0 l1 m) fun r1527 =>
    if r1527 = 0 then
    some (0 : Int32)
    else
    some (1 : Int32)
    else
    some (0 : Int32)
    else if (ml_I m l0 0) = (4 : Int32) then
    if ((ml_I m l0 3) / (10 : Int32)) = (ml_I m l1 3) then
    fX8_suits_138 m
    else
    if ((ml_I m l0 3) - (ml_I m l0 3) / (10 : Int32) * (10 : Int32)) = (ml_I m l1 3) then
    fX8_suits_138 m
    else
    some (0 : Int32)
    else some (1 : Int32)
    else
    some (0 : Int32)
    else none
    else none
theorem wX8_suits_0 {E : ml_E} (hL : ml_eL E = 3) {rv : Int32} {m : ml_M} (hr : ∀ (pc pc' : Nat) (lv : List (Nat × ml_X)), ml_d cX8_suits pc .ireturn 1 pc' → (rv = 0 ∨ rv = 1) → ml_V E "LostRoom$Thing" cX8_suits 3 false m pc lv [ml_i rv]) : ∀ (l0 : Nat) (l1 : Nat) (l2 : Int32), fX8_suits l0 l1 l2 m = some rv → ml_V E "LostRoom$Thing" cX8_suits 3 false m 0 [(0, ml_r l0), (1, ml_r l1), (2, ml_i l2)] [] := by
  intro l0 l1 l2 h
  unfold fX8_suits at h
  exact ml_aload_n dX8_suits_0 0 rfl <| ml_ck_of h fun hc1517 h => ml_getI dX8_suits_1 wb_245 hc1517 <| ml_aload_n dX8_suits_4 1 rfl <| ml_ck_of h fun hc1518 h => ml_getI dX8_suits_5 wb_246 hc1518 <| ml_icmp_lt dX8_suits_8 h (fun _ h => ml_iconst dX8_suits_22 kc_i0 <| ml_rp (mk := ml_i) hr dX8_suits_23 (fun e => Or.inl e.symm) h) (fun _ h => ml_aload_n dX8_suits_11 0 rfl <| ml_getI dX8_suits_12 wb_247 hc1517 <| ml_aload_n dX8_suits_15 1 rfl <| ml_getI dX8_suits_16 wb_248 hc1518 <| ml_icmp_le dX8_suits_19 h (fun _ h => ml_aload_n dX8_suits_24 0 rfl <| ml_getI dX8_suits_25 wb_249 hc1517 <| ml_sw_of h (fun hq1519 h => ml_swInC (off := 32) (1 : Int32) hq1519 dX8_suits_28 ⟨by decide, by decide, by decide⟩ <| ml_aload_n dX8_suits_60 0 rfl <| ml_getI dX8_suits_61 wb_242 hc1517 <| ml_aload_n dX8_suits_64 1 rfl <| ml_getI dX8_suits_65 wb_250 hc1518 <| ml_isub dX8_suits_68 <| ml_mabs dX8_suits_69 wb_251 (Nat.le_of_ble_eq_true rfl) (Nat.le_of_ble_eq_true rfl) <| ml_iconst dX8_suits_72 kc_i1 <| ml_icmp_gt dX8_suits_73 h (fun _ h => ml_iconst dX8_suits_80 kc_i0 <| ml_rp (mk := ml_i) hr dX8_suits_81 (fun e => Or.inl e.symm) h) (fun _ h => ml_iconst dX8_suits_76 kc_i1 <| ml_goto dX8_suits_77 <| ml_rp (mk := ml_i) hr dX8_suits_81 (fun e => Or.inr e.symm) h)) (fun hq1520 h => ml_sw_of h (fun hq1524 h => ml_swInC (off := 54) (2 : Int32) hq1524 dX8_suits_28 ⟨by decide, by decide, by decide⟩ <| ml_aload_n dX8_suits_82 0 rfl <| ml_aload_n dX8_suits_83 1 rfl <| ml_b1_of h fun r1522 hv1521 h => ml_callV dX8_suits_84 wm_360 wb_252 hc1517 (sX8_suitsAsLetter hv1521) rfl (Nat.le_of_ble_eq_true rfl) (Nat.le_of_ble_eq_true rfl) rfl <| ml_ck_of h fun hz1523 h => ml_rp (mk := ml_i) hr dX8_suits_87 (fun e => e ▸ hz1523) h) (fun hq1525 h => ml_sw_of h (fun hq1528 h => ml_swInC (off := 60) (3 : Int32) hq1528 dX8_suits_28 ⟨by decide, by decide, by decide⟩ <| ml_iload_n dX8_suits_88 2 rfl <| ml_aload_n dX8_suits_89 0 rfl <| ml_getI dX8_suits_90 wb_253 hc1517 <| ml_icmp_ne dX8_suits_93 h (fun _ h => ml_iconst dX8_suits_108 kc_i0 <| ml_rp (mk := ml_i) hr dX8_suits_109 (fun e => Or.inl e.symm) h) (fun _ h => ml_aload_n dX8_suits_96 0 rfl <| ml_aload_n dX8_suits_97 1 rfl <| ml_b1_of h fun r1527 hv1526 h => ml_callV dX8_suits_98 wm_360 wb_252 hc1517 (sX8_suitsAsLetter hv1526) rfl (Nat.le_of_ble_eq_true rfl) (Nat.le_of_ble_eq_true rfl) rfl <| ml_if_eq dX8_suits_101 h (fun _ h => ml_iconst dX8_suits_108 kc_i0 <| ml_rp (mk := ml_i) hr dX8_suits_109 (fun e => Or.inl e.symm) h) (fun _ h => ml_iconst dX8_suits_104 kc_i1 <| ml_goto dX8_suits_105 <| ml_rp (mk := ml_i) hr dX8_suits_109 (fun e => Or.inr e.symm) h))) (fun hq1529 h => ml_sw_of h (fun hq1530 h => ml_swInC (off := 82) (4 : Int32) hq1530 dX8_suits_28 ⟨by decide, by decide, by decide⟩ <| ml_aload_n dX8_suits_110 0 rfl <| ml_getI dX8_suits_111 wb_242 hc1517 <| ml_bipush dX8_suits_114 kc_b10 <| ml_idiv dX8_suits_116 (by decide) <| ml_aload_n dX8_suits_117 1 rfl <| ml_getI dX8_suits_118 wb_244 hc1518 <| ml_icmp_eq dX8_suits_121 h (fun _ h => ml_V.sub [] rfl (vX8_suits_138 hL hr  h)) (fun _ h => ml_aload_n dX8_suits_124 0 rfl <| ml_getI dX8_suits_125 wb_242 hc1517 <| ml_bipush dX8_suits_128 kc_b10 <| ml_irem dX8_suits_130 (by decide) <| ml_aload_n dX8_suits_131 1 rfl <| ml_getI dX8_suits_132 wb_244 hc1518 <| ml_icmp_ne dX8_suits_135 h (fun _ h => ml_iconst dX8_suits_142 kc_i0 <| ml_rp (mk := ml_i) hr dX8_suits_143 (fun e => Or.inl e.symm) h) (fun _ h => ml_V.sub [] rfl (vX8_suits_138 hL hr  h)))) (fun hq1531 h => ml_swOut dX8_suits_28 (by have w0 := lv_neT hq1520 (show (1 : Int32).toInt = 1 from by decide); have w1 := lv_neT hq1525 (show (2 : Int32).toInt = 2 from by decide); have w2 := lv_neT hq1529 (show (3 : Int32).toInt = 3 from by decide); have w3 := lv_neT hq1531 (show (4 : Int32).toInt = 4 from by decide); omega) (by decide) <| ml_iconst dX8_suits_144 kc_i1 <| ml_rp (mk := ml_i) hr dX8_suits_145 (fun e => Or.inr e.symm) h))))) (fun _ h => ml_iconst dX8_suits_22 kc_i0 <| ml_rp (mk := ml_i) hr dX8_suits_23 (fun e => Or.inl e.symm) h))
theorem sX8_suits {l0 : Nat} {l1 : Nat} {l2 : Int32} {m : ml_M} {rv : Int32} (h : fX8_suits l0 l1 l2 m = some rv) : ml_Sn yX8_suits cX8_suits 3 (some .boolean) 3 [ml_r l0, ml_r l1, ml_i l2] m (some (ml_i rv)) m :=
  ml_Sn_of (P := (rv = 0 ∨ rv = 1)) (ini := false) (by decide +kernel) (Nat.le_of_ble_eq_true rfl) (fun h => by cases h) (fun hz => ml_RkZ rv hz) fun E hL hr => wX8_suits_0 hL hr _ _ _ h
theorem dX10_ownersOf_0 : ml_d cX10_ownersOf 0 (.iconst 0) 1 1 := ⟨by decide +kernel, rfl⟩
theorem dX10_ownersOf_1 : ml_d cX10_ownersOf 1 (.istore_n 2) 1 2 := ⟨by decide +kernel, rfl⟩
theorem dX10_ownersOf_2 : ml_d cX10_ownersOf 2 (.iconst 0) 1 3 := ⟨by decide +kernel, rfl⟩
theorem dX10_ownersOf_3 : ml_d cX10_ownersOf 3 (.istore_n 3) 1 4 := ⟨by decide +kernel, rfl⟩
theorem dX10_ownersOf_4 : ml_d cX10_ownersOf 4 (.iload_n 3) 1 5 := ⟨by decide +kernel, rfl⟩
theorem dX10_ownersOf_5 : ml_d cX10_ownersOf 5 (.aload_n 0) 1 6 := ⟨by decide +kernel, rfl⟩
theorem dX10_ownersOf_6 : ml_d cX10_ownersOf 6 (.getfield 26) 3 9 := ⟨by decide +kernel, rfl⟩
theorem dX10_ownersOf_9 : ml_d cX10_ownersOf 9 (.getfield 193) 3 12 := ⟨by decide +kernel, rfl⟩
theorem dX10_ownersOf_12 : ml_j cX10_ownersOf 12 (.if_icmp .ge) 44 15 := ⟨32, by decide +kernel, by decide, rfl⟩
theorem dX10_ownersOf_15 : ml_d cX10_ownersOf 15 (.aload_n 1) 1 16 := ⟨by decide +kernel, rfl⟩
theorem dX10_ownersOf_16 : ml_d cX10_ownersOf 16 (.aload_n 0) 1 17 := ⟨by decide +kernel, rfl⟩
theorem dX10_ownersOf_17 : ml_d cX10_ownersOf 17 (.getfield 26) 3 20 := ⟨by decide +kernel, rfl⟩
theorem dX10_ownersOf_20 : ml_d cX10_ownersOf 20 (.getfield 360) 3 23 := ⟨by decide +kernel, rfl⟩
theorem dX10_ownersOf_23 : ml_d cX10_ownersOf 23 (.iload_n 3) 1 24 := ⟨by decide +kernel, rfl⟩
theorem dX10_ownersOf_24 : ml_d cX10_ownersOf 24 (.aaload) 1 25 := ⟨by decide +kernel, rfl⟩
theorem dX10_ownersOf_25 : ml_d cX10_ownersOf 25 (.iload_n 3) 1 26 := ⟨by decide +kernel, rfl⟩
theorem dX10_ownersOf_26 : ml_d cX10_ownersOf 26 (.invokevirtual 395) 3 29 := ⟨by decide +kernel, rfl⟩
theorem dX10_ownersOf_29 : ml_j cX10_ownersOf 29 (.ifCond .eq) 38 32 := ⟨9, by decide +kernel, by decide, rfl⟩
theorem dX10_ownersOf_32 : ml_d cX10_ownersOf 32 (.iload_n 2) 1 33 := ⟨by decide +kernel, rfl⟩
theorem dX10_ownersOf_33 : ml_d cX10_ownersOf 33 (.iconst 1) 1 34 := ⟨by decide +kernel, rfl⟩
theorem dX10_ownersOf_34 : ml_d cX10_ownersOf 34 (.iload_n 3) 1 35 := ⟨by decide +kernel, rfl⟩
theorem dX10_ownersOf_35 : ml_d cX10_ownersOf 35 (.ishl) 1 36 := ⟨by decide +kernel, rfl⟩
theorem dX10_ownersOf_36 : ml_d cX10_ownersOf 36 (.ior) 1 37 := ⟨by decide +kernel, rfl⟩
theorem dX10_ownersOf_37 : ml_d cX10_ownersOf 37 (.istore_n 2) 1 38 := ⟨by decide +kernel, rfl⟩
theorem dX10_ownersOf_38 : ml_d cX10_ownersOf 38 (.iinc 3 1) 3 41 := ⟨by decide +kernel, rfl⟩
theorem dX10_ownersOf_41 : ml_j cX10_ownersOf 41 .goto 4 44 := ⟨(-37), by decide +kernel, by decide, rfl⟩
theorem dX10_ownersOf_44 : ml_d cX10_ownersOf 44 (.iload_n 2) 1 45 := ⟨by decide +kernel, rfl⟩
theorem dX10_ownersOf_45 : ml_d cX10_ownersOf 45 (.ireturn) 1 46 := ⟨by decide +kernel, rfl⟩
def fX10_ownersOf_38 (k4 : Nat → Nat → Int32 → Int32 → ml_M → Option Int32) (l0 : Nat) (l1 : Nat) (l2 : Int32) (l3 : Int32) (m : ml_M) : Option Int32 :=
    k4 l0 l1 l2 (l3 + (1 : Int32)) m
theorem vX10_ownersOf_38 {E : ml_E} (hL : ml_eL E = 4) {rv : Int32} {m : ml_M} (hr : ∀ (pc pc' : Nat) (lv : List (Nat × ml_X)), ml_d cX10_ownersOf pc .ireturn 1 pc' → True → ml_V E "LostRoom" cX10_ownersOf 4 false m pc lv [ml_i rv]) {k4 : Nat → Nat → Int32 → Int32 → ml_M → Option Int32} (hk4 : ∀ (l0 : Nat) (l1 : Nat) (l2 : Int32) (l3 : Int32), k4 l0 l1 l2 l3 m = some rv → ml_V E "LostRoom" cX10_ownersOf 4 false m 4 [(0, ml_r l0), (1, ml_r l1), (2, ml_i l2), (3, ml_i l3)] []) : ∀ (l0 : Nat) (l1 : Nat) (l2 : Int32) (l3 : Int32), fX10_ownersOf_38 k4 l0 l1 l2 l3 m = some rv → ml_V E "LostRoom" cX10_ownersOf 4 false m 38 [(0, ml_r l0), (1, ml_r l1), (2, ml_i l2), (3, ml_i l3)] [] := by
  intro l0 l1 l2 l3 h
  unfold fX10_ownersOf_38 at h
  exact ml_iinc (lv' := [(3, ml_i (l3 + (1 : Int32))), (0, ml_r l0), (1, ml_r l1), (2, ml_i l2)]) dX10_ownersOf_38 3 rfl (congrArg (l3 + ·) kc_i1) (ml_hn hL rfl) rfl <| ml_goto dX10_ownersOf_41 <| ml_V.sub [1, 2, 3, 0] rfl (hk4 _ _ _ _ h)
def fX10_ownersOf_4 : Nat → Nat → Nat → Int32 → Int32 → ml_M → Option Int32
  | 0, _, _, _, _, _ => none
  | fu + 1, l0, l1, l2, l3, m =>
    if (ml_K m l0).1 = 10 then
    ml_let (ml_R m l0 2) fun a1533 =>
    if (ml_K m a1533).1 = 1 then
    if (ml_I m a1533 2) ≤ l3 then
    some l2
    else
    ml_let (ml_R m l0 2) fun a1535 =>
    if (ml_K m a1535).1 = 1 then
    ml_let (ml_R m a1535 0) fun a1537 =>
    if ml_in m a1537 28 l3 then
    ml_let (ml_R m a1537 l3.toNatClampNeg) fun a1539 =>
    if (ml_K m l1).1 = 8 then
    ml_b1 (fX8_suits l1 a1539 l3 m) fun r1542 =>
    if r1542 = 0 then
    fX10_ownersOf_38 (fX10_ownersOf_4 fu) l0 l1 l2 l3 m
    else
    ml_let (l2 ||| ((1 : Int32) <<< (l3 &&& 31))) fun x1543 =>
    fX10_ownersOf_38 (fX10_ownersOf_4 fu) l0 l1 x1543 l3 m
    else none
    else none
    else none
    else none
    else none
theorem vX10_ownersOf_4 {E : ml_E} (hL : ml_eL E = 4) {rv : Int32} {m : ml_M} (hr : ∀ (pc pc' : Nat) (lv : List (Nat × ml_X)), ml_d cX10_ownersOf pc .ireturn 1 pc' → True → ml_V E "LostRoom" cX10_ownersOf 4 false m pc lv [ml_i rv]) : ∀ (fu : Nat) (l0 : Nat) (l1 : Nat) (l2 : Int32) (l3 : Int32), fX10_ownersOf_4 fu l0 l1 l2 l3 m = some rv → ml_V E "LostRoom" cX10_ownersOf 4 false m 4 [(0, ml_r l0), (1, ml_r l1), (2, ml_i l2), (3, ml_i l3)] [] := by
  intro fu
  induction fu with
  | zero => intro l0 l1 l2 l3 h; exact ml_none h
  | succ fu ih =>
    intro l0 l1 l2 l3 h
    have hk4 := ih
    unfold fX10_ownersOf_4 at h
    exact ml_iload_n dX10_ownersOf_4 3 rfl <| ml_aload_n dX10_ownersOf_5 0 rfl <| ml_ck_of h fun hc1532 h => ml_getR dX10_ownersOf_6 wb_189 hc1532 <| ml_lx (mk := ml_r) h fun a1533 h => ml_ck_of h fun hc1534 h => ml_getI dX10_ownersOf_9 wb_206 hc1534 <| ml_icmp_ge dX10_ownersOf_12 h (fun _ h => ml_iload_n dX10_ownersOf_44 2 rfl <| ml_rp (mk := ml_i) hr dX10_ownersOf_45 (fun _ => trivial) h) (fun _ h => ml_aload_n dX10_ownersOf_15 1 rfl <| ml_aload_n dX10_ownersOf_16 0 rfl <| ml_getR dX10_ownersOf_17 wb_189 hc1532 <| ml_lx (mk := ml_r) h fun a1535 h => ml_ck_of h fun hc1536 h => ml_getR dX10_ownersOf_20 wb_207 hc1536 <| ml_lx (mk := ml_r) h fun a1537 h => ml_iload_n dX10_ownersOf_23 3 rfl <| ml_ck_of h fun hi1538 h => ml_aald (kd := 28) dX10_ownersOf_24 (by decide) hi1538 <| ml_lx (mk := ml_r) h fun a1539 h => ml_iload_n dX10_ownersOf_25 3 rfl <| ml_ck_of h fun hc1541 h => ml_b1_of h fun r1542 hv1540 h => ml_callV dX10_ownersOf_26 wm_364 wb_254 hc1541 (sX8_suits hv1540) rfl (Nat.le_of_ble_eq_true rfl) (Nat.le_of_ble_eq_true rfl) rfl <| ml_if_eq dX10_ownersOf_29 h (fun _ h => ml_V.sub [0, 1, 2, 3] rfl (vX10_ownersOf_38 hL hr hk4 _ _ _ _ h)) (fun _ h => ml_iload_n dX10_ownersOf_32 2 rfl <| ml_iconst dX10_ownersOf_33 kc_i1 <| ml_iload_n dX10_ownersOf_34 3 rfl <| ml_ishl dX10_ownersOf_35 <| ml_ior dX10_ownersOf_36 <| ml_lx (mk := ml_i) h fun x1543 h => ml_istore_n (lv' := [(2, ml_i x1543), (0, ml_r l0), (1, ml_r l1), (3, ml_i l3)]) dX10_ownersOf_37 (ml_hn hL rfl) rfl <| ml_V.sub [1, 2, 0, 3] rfl (vX10_ownersOf_38 hL hr hk4 _ _ _ _ h)))
def fX10_ownersOf (l0 : Nat) (l1 : Nat) (m : ml_M) : Option Int32 :=
    fX10_ownersOf_4 ml_fu l0 l1 (0 : Int32) (0 : Int32) m
theorem wX10_ownersOf_0 {E : ml_E} (hL : ml_eL E = 4) {rv : Int32} {m : ml_M} (hr : ∀ (pc pc' : Nat) (lv : List (Nat × ml_X)), ml_d cX10_ownersOf pc .ireturn 1 pc' → True → ml_V E "LostRoom" cX10_ownersOf 4 false m pc lv [ml_i rv]) : ∀ (l0 : Nat) (l1 : Nat), fX10_ownersOf l0 l1 m = some rv → ml_V E "LostRoom" cX10_ownersOf 4 false m 0 [(0, ml_r l0), (1, ml_r l1)] [] := by
  intro l0 l1 h
  unfold fX10_ownersOf at h
  exact ml_iconst dX10_ownersOf_0 kc_i0 <| ml_istore_n (lv' := [(2, ml_i (0 : Int32)), (0, ml_r l0), (1, ml_r l1)]) dX10_ownersOf_1 (ml_hn hL rfl) rfl <| ml_iconst dX10_ownersOf_2 kc_i0 <| ml_istore_n (lv' := [(3, ml_i (0 : Int32)), (2, ml_i (0 : Int32)), (0, ml_r l0), (1, ml_r l1)]) dX10_ownersOf_3 (ml_hn hL rfl) rfl <| ml_V.sub [2, 3, 1, 0] rfl (vX10_ownersOf_4 hL hr  ml_fu _ _ _ _ h)
theorem sX10_ownersOf {l0 : Nat} {l1 : Nat} {m : ml_M} {rv : Int32} (h : fX10_ownersOf l0 l1 m = some rv) : ml_Sn yX10_ownersOf cX10_ownersOf 4 (some .int) 4 [ml_r l0, ml_r l1] m (some (ml_i rv)) m :=
  ml_Sn_of (P := True) (ini := false) (by decide +kernel) (Nat.le_of_ble_eq_true rfl) (fun h => by cases h) (fun _ => ml_RkI rv) fun E hL hr => wX10_ownersOf_0 hL hr _ _ h
theorem dX10_thing_0 : ml_d cX10_thing 0 (.iload_n 2) 1 1 := ⟨by decide +kernel, rfl⟩
theorem dX10_thing_1 : ml_d cX10_thing 1 (.iload_n 3) 1 2 := ⟨by decide +kernel, rfl⟩
theorem dX10_thing_2 : ml_d cX10_thing 2 (.invokestatic 154) 3 5 := ⟨by decide +kernel, rfl⟩
theorem dX10_thing_5 : ml_j cX10_thing 5 (.ifCond .ne) 10 8 := ⟨5, by decide +kernel, by decide, rfl⟩
theorem dX10_thing_8 : ml_d cX10_thing 8 (.iconst (-1)) 1 9 := ⟨by decide +kernel, rfl⟩
theorem dX10_thing_9 : ml_d cX10_thing 9 (.ireturn) 1 10 := ⟨by decide +kernel, rfl⟩
theorem dX10_thing_10 : ml_d cX10_thing 10 (.iload_n 1) 1 11 := ⟨by decide +kernel, rfl⟩
theorem dX10_thing_11 : ml_d cX10_thing 11 (.iload 4) 2 13 := ⟨by decide +kernel, rfl⟩
theorem dX10_thing_13 : ml_d cX10_thing 13 (.iload 5) 2 15 := ⟨by decide +kernel, rfl⟩
theorem dX10_thing_15 : ml_d cX10_thing 15 (.invokestatic 158) 3 18 := ⟨by decide +kernel, rfl⟩
theorem dX10_thing_18 : ml_d cX10_thing 18 (.istore 6) 2 20 := ⟨by decide +kernel, rfl⟩
theorem dX10_thing_20 : ml_d cX10_thing 20 (.iload 6) 2 22 := ⟨by decide +kernel, rfl⟩
theorem dX10_thing_22 : ml_d cX10_thing 22 (.iconst (-1)) 1 23 := ⟨by decide +kernel, rfl⟩
theorem dX10_thing_23 : ml_j cX10_thing 23 (.if_icmp .ne) 28 26 := ⟨5, by decide +kernel, by decide, rfl⟩
theorem dX10_thing_26 : ml_d cX10_thing 26 (.iconst (-1)) 1 27 := ⟨by decide +kernel, rfl⟩
theorem dX10_thing_27 : ml_d cX10_thing 27 (.ireturn) 1 28 := ⟨by decide +kernel, rfl⟩
theorem dX10_thing_28 : ml_d cX10_thing 28 (.iload_n 1) 1 29 := ⟨by decide +kernel, rfl⟩
theorem dX10_thing_29 : ml_d cX10_thing 29 (.iconst 3) 1 30 := ⟨by decide +kernel, rfl⟩
theorem dX10_thing_30 : ml_j cX10_thing 30 (.if_icmp .ne) 44 33 := ⟨14, by decide +kernel, by decide, rfl⟩
theorem dX10_thing_33 : ml_d cX10_thing 33 (.aload_n 0) 1 34 := ⟨by decide +kernel, rfl⟩
theorem dX10_thing_34 : ml_d cX10_thing 34 (.iload 5) 2 36 := ⟨by decide +kernel, rfl⟩
theorem dX10_thing_36 : ml_d cX10_thing 36 (.invokevirtual 141) 3 39 := ⟨by decide +kernel, rfl⟩
theorem dX10_thing_39 : ml_j cX10_thing 39 (.ifCond .ne) 44 42 := ⟨5, by decide +kernel, by decide, rfl⟩
theorem dX10_thing_42 : ml_d cX10_thing 42 (.iconst (-1)) 1 43 := ⟨by decide +kernel, rfl⟩
theorem dX10_thing_43 : ml_d cX10_thing 43 (.ireturn) 1 44 := ⟨by decide +kernel, rfl⟩
theorem dX10_thing_44 : ml_d cX10_thing 44 (.aload_n 0) 1 45 := ⟨by decide +kernel, rfl⟩
theorem dX10_thing_45 : ml_d cX10_thing 45 (.getfield 118) 3 48 := ⟨by decide +kernel, rfl⟩
theorem dX10_thing_48 : ml_d cX10_thing 48 (.bipush 20) 2 50 := ⟨by decide +kernel, rfl⟩
theorem dX10_thing_50 : ml_j cX10_thing 50 (.if_icmp .lt) 56 53 := ⟨6, by decide +kernel, by decide, rfl⟩
theorem dX10_thing_53 : ml_d cX10_thing 53 (.bipush (-2)) 2 55 := ⟨by decide +kernel, rfl⟩
theorem dX10_thing_55 : ml_d cX10_thing 55 (.ireturn) 1 56 := ⟨by decide +kernel, rfl⟩
theorem dX10_thing_56 : ml_d cX10_thing 56 (.new 34) 3 59 := ⟨by decide +kernel, rfl⟩
theorem dX10_thing_59 : ml_d cX10_thing 59 (.dup) 1 60 := ⟨by decide +kernel, rfl⟩
theorem dX10_thing_60 : ml_d cX10_thing 60 (.iload_n 1) 1 61 := ⟨by decide +kernel, rfl⟩
theorem dX10_thing_61 : ml_d cX10_thing 61 (.iload_n 2) 1 62 := ⟨by decide +kernel, rfl⟩
theorem dX10_thing_62 : ml_d cX10_thing 62 (.iload_n 3) 1 63 := ⟨by decide +kernel, rfl⟩
theorem dX10_thing_63 : ml_d cX10_thing 63 (.iload 6) 2 65 := ⟨by decide +kernel, rfl⟩
theorem dX10_thing_65 : ml_d cX10_thing 65 (.iload_n 1) 1 66 := ⟨by decide +kernel, rfl⟩
theorem dX10_thing_66 : ml_d cX10_thing 66 (.iconst 3) 1 67 := ⟨by decide +kernel, rfl⟩
theorem dX10_thing_67 : ml_j cX10_thing 67 (.if_icmp .ne) 75 70 := ⟨8, by decide +kernel, by decide, rfl⟩
theorem dX10_thing_70 : ml_d cX10_thing 70 (.iload 5) 2 72 := ⟨by decide +kernel, rfl⟩
theorem dX10_thing_72 : ml_j cX10_thing 72 .goto 77 75 := ⟨5, by decide +kernel, by decide, rfl⟩
theorem dX10_thing_75 : ml_d cX10_thing 75 (.bipush (-9)) 2 77 := ⟨by decide +kernel, rfl⟩
theorem dX10_thing_77 : ml_d cX10_thing 77 (.invokespecial 162) 3 80 := ⟨by decide +kernel, rfl⟩
theorem dX10_thing_80 : ml_d cX10_thing 80 (.astore 7) 2 82 := ⟨by decide +kernel, rfl⟩
theorem dX10_thing_82 : ml_d cX10_thing 82 (.aload 7) 2 84 := ⟨by decide +kernel, rfl⟩
theorem dX10_thing_84 : ml_d cX10_thing 84 (.aload_n 0) 1 85 := ⟨by decide +kernel, rfl⟩
theorem dX10_thing_85 : ml_d cX10_thing 85 (.aload 7) 2 87 := ⟨by decide +kernel, rfl⟩
theorem dX10_thing_87 : ml_d cX10_thing 87 (.invokevirtual 165) 3 90 := ⟨by decide +kernel, rfl⟩
theorem dX10_thing_90 : ml_d cX10_thing 90 (.putfield 169) 3 93 := ⟨by decide +kernel, rfl⟩
theorem dX10_thing_93 : ml_d cX10_thing 93 (.aload_n 0) 1 94 := ⟨by decide +kernel, rfl⟩
theorem dX10_thing_94 : ml_d cX10_thing 94 (.getfield 36) 3 97 := ⟨by decide +kernel, rfl⟩
theorem dX10_thing_97 : ml_d cX10_thing 97 (.aload_n 0) 1 98 := ⟨by decide +kernel, rfl⟩
theorem dX10_thing_98 : ml_d cX10_thing 98 (.getfield 118) 3 101 := ⟨by decide +kernel, rfl⟩
theorem dX10_thing_101 : ml_d cX10_thing 101 (.aload 7) 2 103 := ⟨by decide +kernel, rfl⟩
theorem dX10_thing_103 : ml_d cX10_thing 103 (.aastore) 1 104 := ⟨by decide +kernel, rfl⟩
theorem dX10_thing_104 : ml_d cX10_thing 104 (.aload_n 0) 1 105 := ⟨by decide +kernel, rfl⟩
theorem dX10_thing_105 : ml_d cX10_thing 105 (.getfield 61) 3 108 := ⟨by decide +kernel, rfl⟩
theorem dX10_thing_108 : ml_d cX10_thing 108 (.iconst 1) 1 109 := ⟨by decide +kernel, rfl⟩
theorem dX10_thing_109 : ml_d cX10_thing 109 (.putfield 130) 3 112 := ⟨by decide +kernel, rfl⟩
theorem dX10_thing_112 : ml_d cX10_thing 112 (.aload_n 0) 1 113 := ⟨by decide +kernel, rfl⟩
theorem dX10_thing_113 : ml_d cX10_thing 113 (.dup) 1 114 := ⟨by decide +kernel, rfl⟩
theorem dX10_thing_114 : ml_d cX10_thing 114 (.getfield 118) 3 117 := ⟨by decide +kernel, rfl⟩
theorem dX10_thing_117 : ml_d cX10_thing 117 (.dup_x1) 1 118 := ⟨by decide +kernel, rfl⟩
theorem dX10_thing_118 : ml_d cX10_thing 118 (.iconst 1) 1 119 := ⟨by decide +kernel, rfl⟩
theorem dX10_thing_119 : ml_d cX10_thing 119 (.iadd) 1 120 := ⟨by decide +kernel, rfl⟩
theorem dX10_thing_120 : ml_d cX10_thing 120 (.putfield 118) 3 123 := ⟨by decide +kernel, rfl⟩
theorem dX10_thing_123 : ml_d cX10_thing 123 (.ireturn) 1 124 := ⟨by decide +kernel, rfl⟩
def fX10_thing_77 (l0 : Nat) (t0 : Int32) (t1 : Int32) (t2 : Int32) (t3 : Int32) (t4 : Int32) (t5 : Nat) (t6 : Nat) (m : ml_M) : Option (Int32 × ml_M) :=
    if t5 ≠ 0 then
    ml_b1 (fX8_init t5 t4 t3 t2 t1 t0 m) fun m1546 =>
    if (ml_K m1546 l0).1 = 10 then
    ml_b1 (fX10_ownersOf l0 t6 m1546) fun r1549 =>
    if (ml_K m1546 t6).1 = 8 then
    ml_let (ml_sI m1546 t6 5 r1549) fun m1551 =>
    ml_let (ml_R m1551 l0 4) fun a1553 =>
    if ml_in m1551 a1553 29 (ml_I m1551 l0 5) then
    ml_let (ml_sR m1551 a1553 (ml_I m1551 l0 5).toNatClampNeg t6) fun m1555 =>
    ml_let (ml_R m1555 l0 12) fun a1557 =>
    if (ml_K m1555 a1557).1 = 7 then
    ml_let (ml_sI m1555 a1557 0 (1 : Int32)) fun m1559 =>
    ml_let (ml_sI m1559 l0 5 ((ml_I m1559 l0 5) + (1 : Int32))) fun m1561 =>
    some ((ml_I m1559 l0 5), m1561)
    else none
    else none
    else none
    else none
    else none
theorem vX10_thing_77 {E : ml_E} (hL : ml_eL E = 8) {rv : Int32} {rm : ml_M} (hr : ∀ (pc pc' : Nat) (lv : List (Nat × ml_X)), ml_d cX10_thing pc .ireturn 1 pc' → True → ml_V E "LostRoom" cX10_thing 5 false rm pc lv [ml_i rv]) : ∀ (l0 : Nat) (t0 : Int32) (t1 : Int32) (t2 : Int32) (t3 : Int32) (t4 : Int32) (t5 : Nat) (t6 : Nat) (m : ml_M), fX10_thing_77 l0 t0 t1 t2 t3 t4 t5 t6 m = some (rv, rm) → ml_V E "LostRoom" cX10_thing 5 false m 77 [(0, ml_r l0)] [ml_i t0, ml_i t1, ml_i t2, ml_i t3, ml_i t4, ml_r t5, ml_r t6] := by
  intro l0 t0 t1 t2 t3 t4 t5 t6 m h
  unfold fX10_thing_77 at h
  exact ml_ck_of h fun hz1545 h => ml_b1_of h fun m1546 hv1544 h => ml_callI dX10_thing_77 wm_367 wb_255 hz1545 (sX8_init hv1544) rfl (Nat.le_of_ble_eq_true rfl) (Nat.le_of_ble_eq_true rfl) rfl <| ml_astore (lv' := [(7, ml_r t6), (0, ml_r l0)]) dX10_thing_80 (ml_hn hL rfl) rfl <| ml_aload dX10_thing_82 0 rfl <| ml_aload_n dX10_thing_84 1 rfl <| ml_aload dX10_thing_85 0 rfl <| ml_ck_of h fun hc1548 h => ml_b1_of h fun r1549 hv1547 h => ml_callV dX10_thing_87 wm_371 wb_256 hc1548 (sX10_ownersOf hv1547) rfl (Nat.le_of_ble_eq_true rfl) (Nat.le_of_ble_eq_true rfl) rfl <| ml_ck_of h fun hc1550 h => ml_putI dX10_thing_90 wb_257 hc1550 <| ml_lt (m := m1546) rfl h fun m1551 em1552 h => ml_aload_n dX10_thing_93 1 rfl <| ml_getR dX10_thing_94 wb_218 (ml_kk em1552 hc1548) <| ml_lx (mk := ml_r) h fun a1553 h => ml_aload_n dX10_thing_97 1 rfl <| ml_getI dX10_thing_98 wb_217 (ml_kk em1552 hc1548) <| ml_aload dX10_thing_101 0 rfl <| ml_ck_of h fun hi1554 h => ml_aast (kd := 29) (ci := 8) dX10_thing_103 (by decide) hi1554 (ml_kk em1552 hc1550) <| ml_lt (m := m1551) rfl h fun m1555 em1556 h => ml_aload_n dX10_thing_104 1 rfl <| ml_getR dX10_thing_105 wb_185 (ml_kk em1556 (ml_kk em1552 hc1548)) <| ml_lx (mk := ml_r) h fun a1557 h => ml_iconst dX10_thing_108 kc_i1 <| ml_ck_of h fun hc1558 h => ml_putZ dX10_thing_109 wb_186 hc1558 (Or.inr rfl) <| ml_lt (m := m1555) rfl h fun m1559 em1560 h => ml_aload_n dX10_thing_112 1 rfl <| ml_dup dX10_thing_113 rfl <| ml_getI dX10_thing_114 wb_217 (ml_kk em1560 (ml_kk em1556 (ml_kk em1552 hc1548))) <| ml_dup_x1 dX10_thing_117 rfl rfl <| ml_iconst dX10_thing_118 kc_i1 <| ml_iadd dX10_thing_119 <| ml_putI dX10_thing_120 wb_181 (ml_kk em1560 (ml_kk em1556 (ml_kk em1552 hc1548))) <| ml_lt (m := m1559) rfl h fun m1561 em1562 h => ml_rI (mk := ml_i) hr dX10_thing_123 (fun _ => trivial) h
def fX10_thing_44 (l0 : Nat) (l1 : Int32) (l2 : Int32) (l3 : Int32) (l5 : Int32) (l6 : Int32) (m : ml_M) : Option (Int32 × ml_M) :=
    if (ml_K m l0).1 = 10 then
    if (ml_I m l0 5) < (20 : Int32) then
    ml_let (ml_n m + 1) fun a1564 =>
    ml_let (ml_al m 8 0 8) fun m1565 =>
    if l1 = (3 : Int32) then
    fX10_thing_77 l0 l5 l6 l3 l2 l1 a1564 a1564 m1565
    else
    fX10_thing_77 l0 (-9 : Int32) l6 l3 l2 l1 a1564 a1564 m1565
    else
    some ((-2 : Int32), m)
    else none
theorem vX10_thing_44 {E : ml_E} (hL : ml_eL E = 8) {rv : Int32} {rm : ml_M} (hr : ∀ (pc pc' : Nat) (lv : List (Nat × ml_X)), ml_d cX10_thing pc .ireturn 1 pc' → True → ml_V E "LostRoom" cX10_thing 5 false rm pc lv [ml_i rv]) : ∀ (l0 : Nat) (l1 : Int32) (l2 : Int32) (l3 : Int32) (l5 : Int32) (l6 : Int32) (m : ml_M), fX10_thing_44 l0 l1 l2 l3 l5 l6 m = some (rv, rm) → ml_V E "LostRoom" cX10_thing 5 false m 44 [(0, ml_r l0), (1, ml_i l1), (2, ml_i l2), (3, ml_i l3), (5, ml_i l5), (6, ml_i l6)] [] := by
  intro l0 l1 l2 l3 l5 l6 m h
  unfold fX10_thing_44 at h
  exact ml_aload_n dX10_thing_44 0 rfl <| ml_ck_of h fun hc1563 h => ml_getI dX10_thing_45 wb_217 hc1563 <| ml_bipush dX10_thing_48 kc_b20 <| ml_icmp_lt dX10_thing_50 h (fun _ h => ml_newOs dX10_thing_56 wb_258 h fun a1564 m1565 hn1566 hc1567 h => ml_dup dX10_thing_59 rfl <| ml_iload_n dX10_thing_60 1 rfl <| ml_iload_n dX10_thing_61 2 rfl <| ml_iload_n dX10_thing_62 3 rfl <| ml_iload dX10_thing_63 5 rfl <| ml_iload_n dX10_thing_65 1 rfl <| ml_iconst dX10_thing_66 kc_i3 <| ml_icmp_ne dX10_thing_67 h (fun _ h => ml_bipush dX10_thing_75 kc_bm9 <| ml_V.sub [0] rfl (vX10_thing_77 hL hr  _ _ _ _ _ _ _ _ _ h)) (fun _ h => ml_iload dX10_thing_70 4 rfl <| ml_goto dX10_thing_72 <| ml_V.sub [0] rfl (vX10_thing_77 hL hr  _ _ _ _ _ _ _ _ _ h))) (fun _ h => ml_bipush dX10_thing_53 kc_bm2 <| ml_rI (mk := ml_i) hr dX10_thing_55 (fun _ => trivial) h)
def fX10_thing (l0 : Nat) (l1 : Int32) (l2 : Int32) (l3 : Int32) (l4 : Int32) (l5 : Int32) (m : ml_M) : Option (Int32 × ml_M) :=
    ml_b1 (fX10_areYears l2 l3 m) fun r1569 =>
    if r1569 = 0 then
    some ((-1 : Int32), m)
    else
    ml_b1 (fX10_numberOf l1 l4 l5 m) fun r1571 =>
    if r1571 = (-1 : Int32) then
    some ((-1 : Int32), m)
    else
    if l1 = (3 : Int32) then
    if (ml_K m l0).1 = 10 then
    ml_b1 (fX10_isLodger l0 l5 m) fun r1574 =>
    if r1574 = 0 then
    some ((-1 : Int32), m)
    else
    fX10_thing_44 l0 l1 l2 l3 l5 r1571 m
    else none
    else
    fX10_thing_44 l0 l1 l2 l3 l5 r1571 m
theorem wX10_thing_0 {E : ml_E} (hL : ml_eL E = 8) {rv : Int32} {rm : ml_M} (hr : ∀ (pc pc' : Nat) (lv : List (Nat × ml_X)), ml_d cX10_thing pc .ireturn 1 pc' → True → ml_V E "LostRoom" cX10_thing 5 false rm pc lv [ml_i rv]) : ∀ (l0 : Nat) (l1 : Int32) (l2 : Int32) (l3 : Int32) (l4 : Int32) (l5 : Int32) (m : ml_M), fX10_thing l0 l1 l2 l3 l4 l5 m = some (rv, rm) → ml_V E "LostRoom" cX10_thing 5 false m 0 [(0, ml_r l0), (1, ml_i l1), (2, ml_i l2), (3, ml_i l3), (4, ml_i l4), (5, ml_i l5)] [] := by
  intro l0 l1 l2 l3 l4 l5 m h
  unfold fX10_thing at h
  exact ml_iload_n dX10_thing_0 2 rfl <| ml_iload_n dX10_thing_1 3 rfl <| ml_b1_of h fun r1569 hv1568 h => ml_callS dX10_thing_2 wm_376 wb_259 (sX10_areYears hv1568) rfl (Nat.le_of_ble_eq_true rfl) (Nat.le_of_ble_eq_true rfl) rfl <| ml_if_ne dX10_thing_5 h (fun _ h => ml_iload_n dX10_thing_10 1 rfl <| ml_iload dX10_thing_11 4 rfl <| ml_iload dX10_thing_13 5 rfl <| ml_b1_of h fun r1571 hv1570 h => ml_callS dX10_thing_15 wm_379 wb_260 (sX10_numberOf hv1570) rfl (Nat.le_of_ble_eq_true rfl) (Nat.le_of_ble_eq_true rfl) rfl <| ml_istore (lv' := [(6, ml_i r1571), (0, ml_r l0), (1, ml_i l1), (2, ml_i l2), (3, ml_i l3), (4, ml_i l4), (5, ml_i l5)]) dX10_thing_18 (ml_hn hL rfl) rfl <| ml_iload dX10_thing_20 0 rfl <| ml_iconst dX10_thing_22 kc_im1 <| ml_icmp_ne dX10_thing_23 h (fun _ h => ml_iload_n dX10_thing_28 2 rfl <| ml_iconst dX10_thing_29 kc_i3 <| ml_icmp_ne dX10_thing_30 h (fun _ h => ml_V.sub [1, 2, 3, 4, 6, 0] rfl (vX10_thing_44 hL hr  _ _ _ _ _ _ _ h)) (fun _ h => ml_aload_n dX10_thing_33 1 rfl <| ml_iload dX10_thing_34 6 rfl <| ml_ck_of h fun hc1573 h => ml_b1_of h fun r1574 hv1572 h => ml_callV dX10_thing_36 wm_296 wb_213 hc1573 (sX10_isLodger hv1572) rfl (Nat.le_of_ble_eq_true rfl) (Nat.le_of_ble_eq_true rfl) rfl <| ml_if_ne dX10_thing_39 h (fun _ h => ml_V.sub [1, 2, 3, 4, 6, 0] rfl (vX10_thing_44 hL hr  _ _ _ _ _ _ _ h)) (fun _ h => ml_iconst dX10_thing_42 kc_im1 <| ml_rI (mk := ml_i) hr dX10_thing_43 (fun _ => trivial) h))) (fun _ h => ml_iconst dX10_thing_26 kc_im1 <| ml_rI (mk := ml_i) hr dX10_thing_27 (fun _ => trivial) h)) (fun _ h => ml_iconst dX10_thing_8 kc_im1 <| ml_rI (mk := ml_i) hr dX10_thing_9 (fun _ => trivial) h)
theorem sX10_thing {l0 : Nat} {l1 : Int32} {l2 : Int32} {l3 : Int32} {l4 : Int32} {l5 : Int32} {m : ml_M} {rv : Int32} {rm : ml_M} (h : fX10_thing l0 l1 l2 l3 l4 l5 m = some (rv, rm)) : ml_Sn yX10_thing cX10_thing 8 (some .int) 5 [ml_r l0, ml_i l1, ml_i l2, ml_i l3, ml_i l4, ml_i l5] m (some (ml_i rv)) rm :=
  ml_Sn_of (P := True) (ini := false) (by decide +kernel) (Nat.le_of_ble_eq_true rfl) (fun h => by cases h) (fun _ => ml_RkI rv) fun E hL hr => wX10_thing_0 hL hr _ _ _ _ _ _ _ h
theorem dX11_isYears_0 : ml_d cX11_isYears 0 (.iload_n 0) 1 1 := ⟨by decide +kernel, rfl⟩
theorem dX11_isYears_1 : ml_d cX11_isYears 1 (.iconst 0) 1 2 := ⟨by decide +kernel, rfl⟩
theorem dX11_isYears_2 : ml_d cX11_isYears 2 (.bipush 99) 2 4 := ⟨by decide +kernel, rfl⟩
theorem dX11_isYears_4 : ml_d cX11_isYears 4 (.invokestatic 100) 3 7 := ⟨by decide +kernel, rfl⟩
theorem dX11_isYears_7 : ml_j cX11_isYears 7 (.ifCond .eq) 24 10 := ⟨17, by decide +kernel, by decide, rfl⟩
theorem dX11_isYears_10 : ml_d cX11_isYears 10 (.iload_n 1) 1 11 := ⟨by decide +kernel, rfl⟩
theorem dX11_isYears_11 : ml_d cX11_isYears 11 (.iload_n 0) 1 12 := ⟨by decide +kernel, rfl⟩
theorem dX11_isYears_12 : ml_d cX11_isYears 12 (.bipush 99) 2 14 := ⟨by decide +kernel, rfl⟩
theorem dX11_isYears_14 : ml_d cX11_isYears 14 (.invokestatic 100) 3 17 := ⟨by decide +kernel, rfl⟩
theorem dX11_isYears_17 : ml_j cX11_isYears 17 (.ifCond .eq) 24 20 := ⟨7, by decide +kernel, by decide, rfl⟩
theorem dX11_isYears_20 : ml_d cX11_isYears 20 (.iconst 1) 1 21 := ⟨by decide +kernel, rfl⟩
theorem dX11_isYears_21 : ml_j cX11_isYears 21 .goto 25 24 := ⟨4, by decide +kernel, by decide, rfl⟩
theorem dX11_isYears_24 : ml_d cX11_isYears 24 (.iconst 0) 1 25 := ⟨by decide +kernel, rfl⟩
theorem dX11_isYears_25 : ml_d cX11_isYears 25 (.ireturn) 1 26 := ⟨by decide +kernel, rfl⟩
def fX11_isYears (l0 : Int32) (l1 : Int32) (m : ml_M) : Option Int32 :=
    ml_b1 (fX11_in l0 (0 : Int32) (99 : Int32) m) fun r1576 =>
    if r1576 = 0 then
    some (0 : Int32)
    else
    ml_b1 (fX11_in l1 l0 (99 : Int32) m) fun r1578 =>
    if r1578 = 0 then
    some (0 : Int32)
    else
    some (1 : Int32)
theorem wX11_isYears_0 {E : ml_E} (hL : ml_eL E = 2) {rv : Int32} {m : ml_M} (hr : ∀ (pc pc' : Nat) (lv : List (Nat × ml_X)), ml_d cX11_isYears pc .ireturn 1 pc' → (rv = 0 ∨ rv = 1) → ml_V E "LostRoomModel" cX11_isYears 3 false m pc lv [ml_i rv]) : ∀ (l0 : Int32) (l1 : Int32), fX11_isYears l0 l1 m = some rv → ml_V E "LostRoomModel" cX11_isYears 3 false m 0 [(0, ml_i l0), (1, ml_i l1)] [] := by
  intro l0 l1 h
  unfold fX11_isYears at h
  exact ml_iload_n dX11_isYears_0 0 rfl <| ml_iconst dX11_isYears_1 kc_i0 <| ml_bipush dX11_isYears_2 kc_b99 <| ml_b1_of h fun r1576 hv1575 h => ml_callS dX11_isYears_4 wm_136 wb_100 (sX11_in hv1575) rfl (Nat.le_of_ble_eq_true rfl) (Nat.le_of_ble_eq_true rfl) rfl <| ml_if_eq dX11_isYears_7 h (fun _ h => ml_iconst dX11_isYears_24 kc_i0 <| ml_rp (mk := ml_i) hr dX11_isYears_25 (fun e => Or.inl e.symm) h) (fun _ h => ml_iload_n dX11_isYears_10 1 rfl <| ml_iload_n dX11_isYears_11 0 rfl <| ml_bipush dX11_isYears_12 kc_b99 <| ml_b1_of h fun r1578 hv1577 h => ml_callS dX11_isYears_14 wm_136 wb_100 (sX11_in hv1577) rfl (Nat.le_of_ble_eq_true rfl) (Nat.le_of_ble_eq_true rfl) rfl <| ml_if_eq dX11_isYears_17 h (fun _ h => ml_iconst dX11_isYears_24 kc_i0 <| ml_rp (mk := ml_i) hr dX11_isYears_25 (fun e => Or.inl e.symm) h) (fun _ h => ml_iconst dX11_isYears_20 kc_i1 <| ml_goto dX11_isYears_21 <| ml_rp (mk := ml_i) hr dX11_isYears_25 (fun e => Or.inr e.symm) h))
theorem sX11_isYears {l0 : Int32} {l1 : Int32} {m : ml_M} {rv : Int32} (h : fX11_isYears l0 l1 m = some rv) : ml_Sn yX11_isYears cX11_isYears 2 (some .boolean) 3 [ml_i l0, ml_i l1] m (some (ml_i rv)) m :=
  ml_Sn_of (P := (rv = 0 ∨ rv = 1)) (ini := false) (by decide +kernel) (Nat.le_of_ble_eq_true rfl) (fun h => by cases h) (fun hz => ml_RkZ rv hz) fun E hL hr => wX11_isYears_0 hL hr _ _ h
theorem dX11_isKey_0 : ml_d cX11_isKey 0 (.iload_n 0) 1 1 := ⟨by decide +kernel, rfl⟩
theorem dX11_isKey_1 : ml_d cX11_isKey 1 (.sipush 1111) 3 4 := ⟨by decide +kernel, rfl⟩
theorem dX11_isKey_4 : ml_d cX11_isKey 4 (.sipush 5555) 3 7 := ⟨by decide +kernel, rfl⟩
theorem dX11_isKey_7 : ml_d cX11_isKey 7 (.invokestatic 100) 3 10 := ⟨by decide +kernel, rfl⟩
theorem dX11_isKey_10 : ml_d cX11_isKey 10 (.istore_n 1) 1 11 := ⟨by decide +kernel, rfl⟩
theorem dX11_isKey_11 : ml_d cX11_isKey 11 (.iload_n 0) 1 12 := ⟨by decide +kernel, rfl⟩
theorem dX11_isKey_12 : ml_d cX11_isKey 12 (.istore_n 2) 1 13 := ⟨by decide +kernel, rfl⟩
theorem dX11_isKey_13 : ml_d cX11_isKey 13 (.iload_n 1) 1 14 := ⟨by decide +kernel, rfl⟩
theorem dX11_isKey_14 : ml_j cX11_isKey 14 (.ifCond .eq) 39 17 := ⟨25, by decide +kernel, by decide, rfl⟩
theorem dX11_isKey_17 : ml_d cX11_isKey 17 (.iload_n 2) 1 18 := ⟨by decide +kernel, rfl⟩
theorem dX11_isKey_18 : ml_j cX11_isKey 18 (.ifCond .le) 39 21 := ⟨21, by decide +kernel, by decide, rfl⟩
theorem dX11_isKey_21 : ml_d cX11_isKey 21 (.iload_n 2) 1 22 := ⟨by decide +kernel, rfl⟩
theorem dX11_isKey_22 : ml_d cX11_isKey 22 (.bipush 10) 2 24 := ⟨by decide +kernel, rfl⟩
theorem dX11_isKey_24 : ml_d cX11_isKey 24 (.irem) 1 25 := ⟨by decide +kernel, rfl⟩
theorem dX11_isKey_25 : ml_d cX11_isKey 25 (.iconst 1) 1 26 := ⟨by decide +kernel, rfl⟩
theorem dX11_isKey_26 : ml_d cX11_isKey 26 (.iconst 5) 1 27 := ⟨by decide +kernel, rfl⟩
theorem dX11_isKey_27 : ml_d cX11_isKey 27 (.invokestatic 100) 3 30 := ⟨by decide +kernel, rfl⟩
theorem dX11_isKey_30 : ml_d cX11_isKey 30 (.istore_n 1) 1 31 := ⟨by decide +kernel, rfl⟩
theorem dX11_isKey_31 : ml_d cX11_isKey 31 (.iload_n 2) 1 32 := ⟨by decide +kernel, rfl⟩
theorem dX11_isKey_32 : ml_d cX11_isKey 32 (.bipush 10) 2 34 := ⟨by decide +kernel, rfl⟩
theorem dX11_isKey_34 : ml_d cX11_isKey 34 (.idiv) 1 35 := ⟨by decide +kernel, rfl⟩
theorem dX11_isKey_35 : ml_d cX11_isKey 35 (.istore_n 2) 1 36 := ⟨by decide +kernel, rfl⟩
theorem dX11_isKey_36 : ml_j cX11_isKey 36 .goto 13 39 := ⟨(-23), by decide +kernel, by decide, rfl⟩
theorem dX11_isKey_39 : ml_d cX11_isKey 39 (.iload_n 1) 1 40 := ⟨by decide +kernel, rfl⟩
theorem dX11_isKey_40 : ml_d cX11_isKey 40 (.ireturn) 1 41 := ⟨by decide +kernel, rfl⟩
def fX11_isKey_13 : Nat → Int32 → Int32 → ml_M → Option Int32
  | 0, _, _, _ => none
  | fu + 1, l1, l2, m =>
    if l1 = 0 then
    if l1 = 0 ∨ l1 = 1 then some l1 else none
    else
    if l2 ≤ 0 then
    if l1 = 0 ∨ l1 = 1 then some l1 else none
    else
    ml_b1 (fX11_in (l2 - l2 / (10 : Int32) * (10 : Int32)) (1 : Int32) (5 : Int32) m) fun r1582 =>
    ml_let (l2 / (10 : Int32)) fun x1583 =>
    (fX11_isKey_13 fu) r1582 x1583 m
theorem vX11_isKey_13 {E : ml_E} (hL : ml_eL E = 3) {rv : Int32} {m : ml_M} (hr : ∀ (pc pc' : Nat) (lv : List (Nat × ml_X)), ml_d cX11_isKey pc .ireturn 1 pc' → (rv = 0 ∨ rv = 1) → ml_V E "LostRoomModel" cX11_isKey 3 false m pc lv [ml_i rv]) : ∀ (fu : Nat) (l1 : Int32) (l2 : Int32), fX11_isKey_13 fu l1 l2 m = some rv → ml_V E "LostRoomModel" cX11_isKey 3 false m 13 [(1, ml_i l1), (2, ml_i l2)] [] := by
  intro fu
  induction fu with
  | zero => intro l1 l2 h; exact ml_none h
  | succ fu ih =>
    intro l1 l2 h
    have hk13 := ih
    unfold fX11_isKey_13 at h
    exact ml_iload_n dX11_isKey_13 0 rfl <| ml_if_eq dX11_isKey_14 h (fun _ h => ml_iload_n dX11_isKey_39 0 rfl <| ml_ck_of h fun hz1579 h => ml_rp (mk := ml_i) hr dX11_isKey_40 (fun e => e ▸ hz1579) h) (fun _ h => ml_iload_n dX11_isKey_17 1 rfl <| ml_if_le dX11_isKey_18 h (fun _ h => ml_iload_n dX11_isKey_39 0 rfl <| ml_ck_of h fun hz1580 h => ml_rp (mk := ml_i) hr dX11_isKey_40 (fun e => e ▸ hz1580) h) (fun _ h => ml_iload_n dX11_isKey_21 1 rfl <| ml_bipush dX11_isKey_22 kc_b10 <| ml_irem dX11_isKey_24 (by decide) <| ml_iconst dX11_isKey_25 kc_i1 <| ml_iconst dX11_isKey_26 kc_i5 <| ml_b1_of h fun r1582 hv1581 h => ml_callS dX11_isKey_27 wm_136 wb_100 (sX11_in hv1581) rfl (Nat.le_of_ble_eq_true rfl) (Nat.le_of_ble_eq_true rfl) rfl <| ml_istore_n (lv' := [(1, ml_i r1582), (2, ml_i l2)]) dX11_isKey_30 (ml_hn hL rfl) rfl <| ml_iload_n dX11_isKey_31 1 rfl <| ml_bipush dX11_isKey_32 kc_b10 <| ml_idiv dX11_isKey_34 (by decide) <| ml_lx (mk := ml_i) h fun x1583 h => ml_istore_n (lv' := [(2, ml_i x1583), (1, ml_i r1582)]) dX11_isKey_35 (ml_hn hL rfl) rfl <| ml_goto dX11_isKey_36 <| ml_V.sub [1, 0] rfl (hk13 _ _ h)))
def fX11_isKey (l0 : Int32) (m : ml_M) : Option Int32 :=
    ml_b1 (fX11_in l0 (1111 : Int32) (5555 : Int32) m) fun r1585 =>
    fX11_isKey_13 ml_fu r1585 l0 m
theorem wX11_isKey_0 {E : ml_E} (hL : ml_eL E = 3) {rv : Int32} {m : ml_M} (hr : ∀ (pc pc' : Nat) (lv : List (Nat × ml_X)), ml_d cX11_isKey pc .ireturn 1 pc' → (rv = 0 ∨ rv = 1) → ml_V E "LostRoomModel" cX11_isKey 3 false m pc lv [ml_i rv]) : ∀ (l0 : Int32), fX11_isKey l0 m = some rv → ml_V E "LostRoomModel" cX11_isKey 3 false m 0 [(0, ml_i l0)] [] := by
  intro l0 h
  unfold fX11_isKey at h
  exact ml_iload_n dX11_isKey_0 0 rfl <| ml_sipush dX11_isKey_1 kc_s1111 <| ml_sipush dX11_isKey_4 kc_s5555 <| ml_b1_of h fun r1585 hv1584 h => ml_callS dX11_isKey_7 wm_136 wb_100 (sX11_in hv1584) rfl (Nat.le_of_ble_eq_true rfl) (Nat.le_of_ble_eq_true rfl) rfl <| ml_istore_n (lv' := [(1, ml_i r1585), (0, ml_i l0)]) dX11_isKey_10 (ml_hn hL rfl) rfl <| ml_iload_n dX11_isKey_11 1 rfl <| ml_istore_n (lv' := [(2, ml_i l0), (1, ml_i r1585), (0, ml_i l0)]) dX11_isKey_12 (ml_hn hL rfl) rfl <| ml_V.sub [1, 0] rfl (vX11_isKey_13 hL hr  ml_fu _ _ h)
theorem sX11_isKey {l0 : Int32} {m : ml_M} {rv : Int32} (h : fX11_isKey l0 m = some rv) : ml_Sn yX11_isKey cX11_isKey 3 (some .boolean) 3 [ml_i l0] m (some (ml_i rv)) m :=
  ml_Sn_of (P := (rv = 0 ∨ rv = 1)) (ini := false) (by decide +kernel) (Nat.le_of_ble_eq_true rfl) (fun h => by cases h) (fun hz => ml_RkZ rv hz) fun E hL hr => wX11_isKey_0 hL hr _ h
theorem dX11_isThingTold_0 : ml_d cX11_isThingTold 0 (.iload_n 1) 1 1 := ⟨by decide +kernel, rfl⟩
theorem dX11_isThingTold_1 : decode cX11_isThingTold 1 = .ok (.tableswitch 136 1 5 #[35, 43, 69, 100, 131], 35) := by decide +kernel
theorem dX11_isThingTold_36 : ml_d cX11_isThingTold 36 (.iload_n 2) 1 37 := ⟨by decide +kernel, rfl⟩
theorem dX11_isThingTold_37 : ml_d cX11_isThingTold 37 (.iconst 1) 1 38 := ⟨by decide +kernel, rfl⟩
theorem dX11_isThingTold_38 : ml_d cX11_isThingTold 38 (.bipush 9) 2 40 := ⟨by decide +kernel, rfl⟩
theorem dX11_isThingTold_40 : ml_d cX11_isThingTold 40 (.invokestatic 100) 3 43 := ⟨by decide +kernel, rfl⟩
theorem dX11_isThingTold_43 : ml_d cX11_isThingTold 43 (.ireturn) 1 44 := ⟨by decide +kernel, rfl⟩
theorem dX11_isThingTold_44 : ml_d cX11_isThingTold 44 (.iload_n 2) 1 45 := ⟨by decide +kernel, rfl⟩
theorem dX11_isThingTold_45 : ml_d cX11_isThingTold 45 (.iconst 0) 1 46 := ⟨by decide +kernel, rfl⟩
theorem dX11_isThingTold_46 : ml_d cX11_isThingTold 46 (.bipush 9) 2 48 := ⟨by decide +kernel, rfl⟩
theorem dX11_isThingTold_48 : ml_d cX11_isThingTold 48 (.invokestatic 100) 3 51 := ⟨by decide +kernel, rfl⟩
theorem dX11_isThingTold_51 : ml_j cX11_isThingTold 51 (.ifCond .eq) 68 54 := ⟨17, by decide +kernel, by decide, rfl⟩
theorem dX11_isThingTold_54 : ml_d cX11_isThingTold 54 (.iload_n 3) 1 55 := ⟨by decide +kernel, rfl⟩
theorem dX11_isThingTold_55 : ml_d cX11_isThingTold 55 (.iconst 1) 1 56 := ⟨by decide +kernel, rfl⟩
theorem dX11_isThingTold_56 : ml_d cX11_isThingTold 56 (.bipush 9) 2 58 := ⟨by decide +kernel, rfl⟩
theorem dX11_isThingTold_58 : ml_d cX11_isThingTold 58 (.invokestatic 100) 3 61 := ⟨by decide +kernel, rfl⟩
theorem dX11_isThingTold_61 : ml_j cX11_isThingTold 61 (.ifCond .eq) 68 64 := ⟨7, by decide +kernel, by decide, rfl⟩
theorem dX11_isThingTold_64 : ml_d cX11_isThingTold 64 (.iconst 1) 1 65 := ⟨by decide +kernel, rfl⟩
theorem dX11_isThingTold_65 : ml_j cX11_isThingTold 65 .goto 69 68 := ⟨4, by decide +kernel, by decide, rfl⟩
theorem dX11_isThingTold_68 : ml_d cX11_isThingTold 68 (.iconst 0) 1 69 := ⟨by decide +kernel, rfl⟩
theorem dX11_isThingTold_69 : ml_d cX11_isThingTold 69 (.ireturn) 1 70 := ⟨by decide +kernel, rfl⟩
theorem dX11_isThingTold_70 : ml_d cX11_isThingTold 70 (.iload_n 2) 1 71 := ⟨by decide +kernel, rfl⟩
theorem dX11_isThingTold_71 : ml_d cX11_isThingTold 71 (.iconst 0) 1 72 := ⟨by decide +kernel, rfl⟩
theorem dX11_isThingTold_72 : ml_d cX11_isThingTold 72 (.bipush 99) 2 74 := ⟨by decide +kernel, rfl⟩
theorem dX11_isThingTold_74 : ml_d cX11_isThingTold 74 (.invokestatic 100) 3 77 := ⟨by decide +kernel, rfl⟩
theorem dX11_isThingTold_77 : ml_j cX11_isThingTold 77 (.ifCond .eq) 99 80 := ⟨22, by decide +kernel, by decide, rfl⟩
theorem dX11_isThingTold_80 : ml_d cX11_isThingTold 80 (.iload_n 2) 1 81 := ⟨by decide +kernel, rfl⟩
theorem dX11_isThingTold_81 : ml_d cX11_isThingTold 81 (.bipush 10) 2 83 := ⟨by decide +kernel, rfl⟩
theorem dX11_isThingTold_83 : ml_d cX11_isThingTold 83 (.irem) 1 84 := ⟨by decide +kernel, rfl⟩
theorem dX11_isThingTold_84 : ml_j cX11_isThingTold 84 (.ifCond .le) 99 87 := ⟨15, by decide +kernel, by decide, rfl⟩
theorem dX11_isThingTold_87 : ml_d cX11_isThingTold 87 (.aload_n 0) 1 88 := ⟨by decide +kernel, rfl⟩
theorem dX11_isThingTold_88 : ml_d cX11_isThingTold 88 (.iload_n 3) 1 89 := ⟨by decide +kernel, rfl⟩
theorem dX11_isThingTold_89 : ml_d cX11_isThingTold 89 (.invokevirtual 193) 3 92 := ⟨by decide +kernel, rfl⟩
theorem dX11_isThingTold_92 : ml_j cX11_isThingTold 92 (.ifCond .eq) 99 95 := ⟨7, by decide +kernel, by decide, rfl⟩
theorem dX11_isThingTold_95 : ml_d cX11_isThingTold 95 (.iconst 1) 1 96 := ⟨by decide +kernel, rfl⟩
theorem dX11_isThingTold_96 : ml_j cX11_isThingTold 96 .goto 100 99 := ⟨4, by decide +kernel, by decide, rfl⟩
theorem dX11_isThingTold_99 : ml_d cX11_isThingTold 99 (.iconst 0) 1 100 := ⟨by decide +kernel, rfl⟩
theorem dX11_isThingTold_100 : ml_d cX11_isThingTold 100 (.ireturn) 1 101 := ⟨by decide +kernel, rfl⟩
theorem dX11_isThingTold_101 : ml_d cX11_isThingTold 101 (.iload_n 2) 1 102 := ⟨by decide +kernel, rfl⟩
theorem dX11_isThingTold_102 : ml_d cX11_isThingTold 102 (.iconst 1) 1 103 := ⟨by decide +kernel, rfl⟩
theorem dX11_isThingTold_103 : ml_d cX11_isThingTold 103 (.bipush 9) 2 105 := ⟨by decide +kernel, rfl⟩
theorem dX11_isThingTold_105 : ml_d cX11_isThingTold 105 (.invokestatic 100) 3 108 := ⟨by decide +kernel, rfl⟩
theorem dX11_isThingTold_108 : ml_j cX11_isThingTold 108 (.ifCond .eq) 130 111 := ⟨22, by decide +kernel, by decide, rfl⟩
theorem dX11_isThingTold_111 : ml_d cX11_isThingTold 111 (.iload_n 3) 1 112 := ⟨by decide +kernel, rfl⟩
theorem dX11_isThingTold_112 : ml_d cX11_isThingTold 112 (.iconst 1) 1 113 := ⟨by decide +kernel, rfl⟩
theorem dX11_isThingTold_113 : ml_d cX11_isThingTold 113 (.bipush 9) 2 115 := ⟨by decide +kernel, rfl⟩
theorem dX11_isThingTold_115 : ml_d cX11_isThingTold 115 (.invokestatic 100) 3 118 := ⟨by decide +kernel, rfl⟩
theorem dX11_isThingTold_118 : ml_j cX11_isThingTold 118 (.ifCond .eq) 130 121 := ⟨12, by decide +kernel, by decide, rfl⟩
theorem dX11_isThingTold_121 : ml_d cX11_isThingTold 121 (.iload_n 2) 1 122 := ⟨by decide +kernel, rfl⟩
theorem dX11_isThingTold_122 : ml_d cX11_isThingTold 122 (.iload_n 3) 1 123 := ⟨by decide +kernel, rfl⟩
theorem dX11_isThingTold_123 : ml_j cX11_isThingTold 123 (.if_icmp .eq) 130 126 := ⟨7, by decide +kernel, by decide, rfl⟩
theorem dX11_isThingTold_126 : ml_d cX11_isThingTold 126 (.iconst 1) 1 127 := ⟨by decide +kernel, rfl⟩
theorem dX11_isThingTold_127 : ml_j cX11_isThingTold 127 .goto 131 130 := ⟨4, by decide +kernel, by decide, rfl⟩
theorem dX11_isThingTold_130 : ml_d cX11_isThingTold 130 (.iconst 0) 1 131 := ⟨by decide +kernel, rfl⟩
theorem dX11_isThingTold_131 : ml_d cX11_isThingTold 131 (.ireturn) 1 132 := ⟨by decide +kernel, rfl⟩
theorem dX11_isThingTold_132 : ml_d cX11_isThingTold 132 (.iload_n 2) 1 133 := ⟨by decide +kernel, rfl⟩
theorem dX11_isThingTold_133 : ml_d cX11_isThingTold 133 (.invokestatic 208) 3 136 := ⟨by decide +kernel, rfl⟩
theorem dX11_isThingTold_136 : ml_d cX11_isThingTold 136 (.ireturn) 1 137 := ⟨by decide +kernel, rfl⟩
theorem dX11_isThingTold_137 : ml_d cX11_isThingTold 137 (.iconst 0) 1 138 := ⟨by decide +kernel, rfl⟩
theorem dX11_isThingTold_138 : ml_d cX11_isThingTold 138 (.ireturn) 1 139 := ⟨by decide +kernel, rfl⟩
def fX11_isThingTold (l0 : Nat) (l1 : Int32) (l2 : Int32) (l3 : Int32) (m : ml_M) : Option Int32 :=
    if l1 = (1 : Int32) then
    ml_b1 (fX11_in l2 (1 : Int32) (9 : Int32) m) fun r1587 =>
    if r1587 = 0 ∨ r1587 = 1 then some r1587 else none
    else if l1 = (2 : Int32) then
    ml_b1 (fX11_in l2 (0 : Int32) (9 : Int32) m) fun r1592 =>
    if r1592 = 0 then
    some (0 : Int32)
    else
    ml_b1 (fX11_in l3 (1 : Int32) (9 : Int32) m) fun r1594 =>
    if r1594 = 0 then
    some (0 : Int32)
    else
    some (1 : Int32)
    else if l1 = (3 : Int32) then
    ml_b1 (fX11_in l2 (0 : Int32) (99 : Int32) m) fun r1598 =>
    if r1598 = 0 then
    some (0 : Int32)
    else
    if (l2 - l2 / (10 : Int32) * (10 : Int32)) ≤ 0 then
    some (0 : Int32)
    else
    if (ml_K m l0).1 = 11 then
    ml_b1 (fX11_isLodger l0 l3 m) fun r1601 =>
    if r1601 = 0 then
    some (0 : Int32)
    else
    some (1 : Int32)
    else none
    else if l1 = (4 : Int32) then
    ml_b1 (fX11_in l2 (1 : Int32) (9 : Int32) m) fun r1605 =>
    if r1605 = 0 then
    some (0 : Int32)
    else
    ml_b1 (fX11_in l3 (1 : Int32) (9 : Int32) m) fun r1607 =>
    if r1607 = 0 then
    some (0 : Int32)
    else
    if l2 = l3 then
    some (0 : Int32)
    else
    some (1 : Int32)
    else if l1 = (5 : Int32) then
    ml_b1 (fX11_isKey l2 m) fun r1611 =>
    if r1611 = 0 ∨ r1611 = 1 then some r1611 else none
    else some (0 : Int32)
theorem wX11_isThingTold_0 {E : ml_E} (hL : ml_eL E = 4) {rv : Int32} {m : ml_M} (hr : ∀ (pc pc' : Nat) (lv : List (Nat × ml_X)), ml_d cX11_isThingTold pc .ireturn 1 pc' → (rv = 0 ∨ rv = 1) → ml_V E "LostRoomModel" cX11_isThingTold 4 false m pc lv [ml_i rv]) : ∀ (l0 : Nat) (l1 : Int32) (l2 : Int32) (l3 : Int32), fX11_isThingTold l0 l1 l2 l3 m = some rv → ml_V E "LostRoomModel" cX11_isThingTold 4 false m 0 [(0, ml_r l0), (1, ml_i l1), (2, ml_i l2), (3, ml_i l3)] [] := by
  intro l0 l1 l2 l3 h
  unfold fX11_isThingTold at h
  exact ml_iload_n dX11_isThingTold_0 1 rfl <| ml_sw_of h (fun hq1589 h => ml_swInC (off := 35) (1 : Int32) hq1589 dX11_isThingTold_1 ⟨by decide, by decide, by decide⟩ <| ml_iload_n dX11_isThingTold_36 2 rfl <| ml_iconst dX11_isThingTold_37 kc_i1 <| ml_bipush dX11_isThingTold_38 kc_b9 <| ml_b1_of h fun r1587 hv1586 h => ml_callS dX11_isThingTold_40 wm_136 wb_100 (sX11_in hv1586) rfl (Nat.le_of_ble_eq_true rfl) (Nat.le_of_ble_eq_true rfl) rfl <| ml_ck_of h fun hz1588 h => ml_rp (mk := ml_i) hr dX11_isThingTold_43 (fun e => e ▸ hz1588) h) (fun hq1590 h => ml_sw_of h (fun hq1595 h => ml_swInC (off := 43) (2 : Int32) hq1595 dX11_isThingTold_1 ⟨by decide, by decide, by decide⟩ <| ml_iload_n dX11_isThingTold_44 2 rfl <| ml_iconst dX11_isThingTold_45 kc_i0 <| ml_bipush dX11_isThingTold_46 kc_b9 <| ml_b1_of h fun r1592 hv1591 h => ml_callS dX11_isThingTold_48 wm_136 wb_100 (sX11_in hv1591) rfl (Nat.le_of_ble_eq_true rfl) (Nat.le_of_ble_eq_true rfl) rfl <| ml_if_eq dX11_isThingTold_51 h (fun _ h => ml_iconst dX11_isThingTold_68 kc_i0 <| ml_rp (mk := ml_i) hr dX11_isThingTold_69 (fun e => Or.inl e.symm) h) (fun _ h => ml_iload_n dX11_isThingTold_54 3 rfl <| ml_iconst dX11_isThingTold_55 kc_i1 <| ml_bipush dX11_isThingTold_56 kc_b9 <| ml_b1_of h fun r1594 hv1593 h => ml_callS dX11_isThingTold_58 wm_136 wb_100 (sX11_in hv1593) rfl (Nat.le_of_ble_eq_true rfl) (Nat.le_of_ble_eq_true rfl) rfl <| ml_if_eq dX11_isThingTold_61 h (fun _ h => ml_iconst dX11_isThingTold_68 kc_i0 <| ml_rp (mk := ml_i) hr dX11_isThingTold_69 (fun e => Or.inl e.symm) h) (fun _ h => ml_iconst dX11_isThingTold_64 kc_i1 <| ml_goto dX11_isThingTold_65 <| ml_rp (mk := ml_i) hr dX11_isThingTold_69 (fun e => Or.inr e.symm) h))) (fun hq1596 h => ml_sw_of h (fun hq1602 h => ml_swInC (off := 69) (3 : Int32) hq1602 dX11_isThingTold_1 ⟨by decide, by decide, by decide⟩ <| ml_iload_n dX11_isThingTold_70 2 rfl <| ml_iconst dX11_isThingTold_71 kc_i0 <| ml_bipush dX11_isThingTold_72 kc_b99 <| ml_b1_of h fun r1598 hv1597 h => ml_callS dX11_isThingTold_74 wm_136 wb_100 (sX11_in hv1597) rfl (Nat.le_of_ble_eq_true rfl) (Nat.le_of_ble_eq_true rfl) rfl <| ml_if_eq dX11_isThingTold_77 h (fun _ h => ml_iconst dX11_isThingTold_99 kc_i0 <| ml_rp (mk := ml_i) hr dX11_isThingTold_100 (fun e => Or.inl e.symm) h) (fun _ h => ml_iload_n dX11_isThingTold_80 2 rfl <| ml_bipush dX11_isThingTold_81 kc_b10 <| ml_irem dX11_isThingTold_83 (by decide) <| ml_if_le dX11_isThingTold_84 h (fun _ h => ml_iconst dX11_isThingTold_99 kc_i0 <| ml_rp (mk := ml_i) hr dX11_isThingTold_100 (fun e => Or.inl e.symm) h) (fun _ h => ml_aload_n dX11_isThingTold_87 0 rfl <| ml_iload_n dX11_isThingTold_88 3 rfl <| ml_ck_of h fun hc1600 h => ml_b1_of h fun r1601 hv1599 h => ml_callV dX11_isThingTold_89 wm_304 wb_216 hc1600 (sX11_isLodger hv1599) rfl (Nat.le_of_ble_eq_true rfl) (Nat.le_of_ble_eq_true rfl) rfl <| ml_if_eq dX11_isThingTold_92 h (fun _ h => ml_iconst dX11_isThingTold_99 kc_i0 <| ml_rp (mk := ml_i) hr dX11_isThingTold_100 (fun e => Or.inl e.symm) h) (fun _ h => ml_iconst dX11_isThingTold_95 kc_i1 <| ml_goto dX11_isThingTold_96 <| ml_rp (mk := ml_i) hr dX11_isThingTold_100 (fun e => Or.inr e.symm) h)))) (fun hq1603 h => ml_sw_of h (fun hq1608 h => ml_swInC (off := 100) (4 : Int32) hq1608 dX11_isThingTold_1 ⟨by decide, by decide, by decide⟩ <| ml_iload_n dX11_isThingTold_101 2 rfl <| ml_iconst dX11_isThingTold_102 kc_i1 <| ml_bipush dX11_isThingTold_103 kc_b9 <| ml_b1_of h fun r1605 hv1604 h => ml_callS dX11_isThingTold_105 wm_136 wb_100 (sX11_in hv1604) rfl (Nat.le_of_ble_eq_true rfl) (Nat.le_of_ble_eq_true rfl) rfl <| ml_if_eq dX11_isThingTold_108 h (fun _ h => ml_iconst dX11_isThingTold_130 kc_i0 <| ml_rp (mk := ml_i) hr dX11_isThingTold_131 (fun e => Or.inl e.symm) h) (fun _ h => ml_iload_n dX11_isThingTold_111 3 rfl <| ml_iconst dX11_isThingTold_112 kc_i1 <| ml_bipush dX11_isThingTold_113 kc_b9 <| ml_b1_of h fun r1607 hv1606 h => ml_callS dX11_isThingTold_115 wm_136 wb_100 (sX11_in hv1606) rfl (Nat.le_of_ble_eq_true rfl) (Nat.le_of_ble_eq_true rfl) rfl <| ml_if_eq dX11_isThingTold_118 h (fun _ h => ml_iconst dX11_isThingTold_130 kc_i0 <| ml_rp (mk := ml_i) hr dX11_isThingTold_131 (fun e => Or.inl e.symm) h) (fun _ h => ml_iload_n dX11_isThingTold_121 2 rfl <| ml_iload_n dX11_isThingTold_122 3 rfl <| ml_icmp_eq dX11_isThingTold_123 h (fun _ h => ml_iconst dX11_isThingTold_130 kc_i0 <| ml_rp (mk := ml_i) hr dX11_isThingTold_131 (fun e => Or.inl e.symm) h) (fun _ h => ml_iconst dX11_isThingTold_126 kc_i1 <| ml_goto dX11_isThingTold_127 <| ml_rp (mk := ml_i) hr dX11_isThingTold_131 (fun e => Or.inr e.symm) h)))) (fun hq1609 h => ml_sw_of h (fun hq1613 h => ml_swInC (off := 131) (5 : Int32) hq1613 dX11_isThingTold_1 ⟨by decide, by decide, by decide⟩ <| ml_iload_n dX11_isThingTold_132 2 rfl <| ml_b1_of h fun r1611 hv1610 h => ml_callS dX11_isThingTold_133 wm_382 wb_261 (sX11_isKey hv1610) rfl (Nat.le_of_ble_eq_true rfl) (Nat.le_of_ble_eq_true rfl) rfl <| ml_ck_of h fun hz1612 h => ml_rp (mk := ml_i) hr dX11_isThingTold_136 (fun e => e ▸ hz1612) h) (fun hq1614 h => ml_swOut dX11_isThingTold_1 (by have w0 := lv_neT hq1590 (show (1 : Int32).toInt = 1 from by decide); have w1 := lv_neT hq1596 (show (2 : Int32).toInt = 2 from by decide); have w2 := lv_neT hq1603 (show (3 : Int32).toInt = 3 from by decide); have w3 := lv_neT hq1609 (show (4 : Int32).toInt = 4 from by decide); have w4 := lv_neT hq1614 (show (5 : Int32).toInt = 5 from by decide); omega) (by decide) <| ml_iconst dX11_isThingTold_137 kc_i0 <| ml_rp (mk := ml_i) hr dX11_isThingTold_138 (fun e => Or.inl e.symm) h)))))
theorem sX11_isThingTold {l0 : Nat} {l1 : Int32} {l2 : Int32} {l3 : Int32} {m : ml_M} {rv : Int32} (h : fX11_isThingTold l0 l1 l2 l3 m = some rv) : ml_Sn yX11_isThingTold cX11_isThingTold 4 (some .boolean) 4 [ml_r l0, ml_i l1, ml_i l2, ml_i l3] m (some (ml_i rv)) m :=
  ml_Sn_of (P := (rv = 0 ∨ rv = 1)) (ini := false) (by decide +kernel) (Nat.le_of_ble_eq_true rfl) (fun h => by cases h) (fun hz => ml_RkZ rv hz) fun E hL hr => wX11_isThingTold_0 hL hr _ _ _ _ h

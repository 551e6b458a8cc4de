/-! printed by wip/whole/emit.py out of the claim's own listing -/
theorem dX3_isOne_0 : ml_d cX3_isOne 0 (.aload_n 0) 1 1 := ⟨by decide +kernel, rfl⟩
theorem dX3_isOne_1 : ml_d cX3_isOne 1 (.invokevirtual 47) 3 4 := ⟨by decide +kernel, rfl⟩
theorem dX3_isOne_4 : ml_d cX3_isOne 4 (.aload_n 0) 1 5 := ⟨by decide +kernel, rfl⟩
theorem dX3_isOne_5 : ml_d cX3_isOne 5 (.getfield 44) 3 8 := ⟨by decide +kernel, rfl⟩
theorem dX3_isOne_8 : ml_j cX3_isOne 8 (.ifCond .eq) 27 11 := ⟨19, by decide +kernel, by decide, rfl⟩
theorem dX3_isOne_11 : ml_d cX3_isOne 11 (.aload_n 0) 1 12 := ⟨by decide +kernel, rfl⟩
theorem dX3_isOne_12 : ml_d cX3_isOne 12 (.getfield 21) 3 15 := ⟨by decide +kernel, rfl⟩
theorem dX3_isOne_15 : ml_d cX3_isOne 15 (.iconst 1) 1 16 := ⟨by decide +kernel, rfl⟩
theorem dX3_isOne_16 : ml_d cX3_isOne 16 (.aload_n 0) 1 17 := ⟨by decide +kernel, rfl⟩
theorem dX3_isOne_17 : ml_d cX3_isOne 17 (.getfield 44) 3 20 := ⟨by decide +kernel, rfl⟩
theorem dX3_isOne_20 : ml_d cX3_isOne 20 (.ishl) 1 21 := ⟨by decide +kernel, rfl⟩
theorem dX3_isOne_21 : ml_d cX3_isOne 21 (.iconst 1) 1 22 := ⟨by decide +kernel, rfl⟩
theorem dX3_isOne_22 : ml_d cX3_isOne 22 (.isub) 1 23 := ⟨by decide +kernel, rfl⟩
theorem dX3_isOne_23 : ml_d cX3_isOne 23 (.iaload) 1 24 := ⟨by decide +kernel, rfl⟩
theorem dX3_isOne_24 : ml_j cX3_isOne 24 (.ifCond .eq) 31 27 := ⟨7, by decide +kernel, by decide, rfl⟩
theorem dX3_isOne_27 : ml_d cX3_isOne 27 (.iconst 1) 1 28 := ⟨by decide +kernel, rfl⟩
theorem dX3_isOne_28 : ml_j cX3_isOne 28 .goto 32 31 := ⟨4, by decide +kernel, by decide, rfl⟩
theorem dX3_isOne_31 : ml_d cX3_isOne 31 (.iconst 0) 1 32 := ⟨by decide +kernel, rfl⟩
theorem dX3_isOne_32 : ml_d cX3_isOne 32 (.ireturn) 1 33 := ⟨by decide +kernel, rfl⟩
def fX3_isOne_27 (m : ml_M) : Option (Int32 × ml_M) :=
    some ((1 : Int32), m)
theorem vX3_isOne_27 {E : ml_E} (hL : ml_eL E = 1) {rv : Int32} {rm : ml_M} (hr : ∀ (pc pc' : Nat) (lv : List (Nat × ml_X)), ml_d cX3_isOne pc .ireturn 1 pc' → (rv = 0 ∨ rv = 1) → ml_V E "LostRoom$Journeys" cX3_isOne 4 false rm pc lv [ml_i rv]) : ∀  (m : ml_M), fX3_isOne_27  m = some (rv, rm) → ml_V E "LostRoom$Journeys" cX3_isOne 4 false m 27 [] [] := by
  intro  m h
  unfold fX3_isOne_27 at h
  exact ml_iconst dX3_isOne_27 kc_i1 <| ml_goto dX3_isOne_28 <| ml_rI (mk := ml_i) hr dX3_isOne_32 (fun e => Or.inr e.symm) h
def fX3_isOne (l0 : Nat) (m : ml_M) : Option (Int32 × ml_M) :=
    if (ml_K m l0).1 = 3 then
    ml_b1 (fX3_findLasts l0 m) fun m3565 =>
    if (ml_K m3565 l0).1 = 3 then
    if (ml_I m3565 l0 1) = 0 then
    fX3_isOne_27 m3565
    else
    ml_let (ml_R m3565 l0 3) fun a3567 =>
    if ml_in m3565 a3567 20 (((1 : Int32) <<< ((ml_I m3565 l0 1) &&& 31)) - (1 : Int32)) then
    if (ml_I m3565 a3567 (((1 : Int32) <<< ((ml_I m3565 l0 1) &&& 31)) - (1 : Int32)).toNatClampNeg) = 0 then
    some ((0 : Int32), m3565)
    else
    fX3_isOne_27 m3565
    else none
    else none
    else none
theorem wX3_isOne_0 {E : ml_E} (hL : ml_eL E = 1) {rv : Int32} {rm : ml_M} (hr : ∀ (pc pc' : Nat) (lv : List (Nat × ml_X)), ml_d cX3_isOne pc .ireturn 1 pc' → (rv = 0 ∨ rv = 1) → ml_V E "LostRoom$Journeys" cX3_isOne 4 false rm pc lv [ml_i rv]) : ∀ (l0 : Nat) (m : ml_M), fX3_isOne l0 m = some (rv, rm) → ml_V E "LostRoom$Journeys" cX3_isOne 4 false m 0 [(0, ml_r l0)] [] := by
  intro l0 m h
  unfold fX3_isOne at h
  exact ml_aload_n dX3_isOne_0 0 rfl <| ml_ck_of h fun hc3564 h => ml_b1_of h fun m3565 hv3563 h => ml_callV dX3_isOne_1 wm_746 wb_452 hc3564 (sX3_findLasts hv3563) rfl (Nat.le_of_ble_eq_true rfl) (Nat.le_of_ble_eq_true rfl) rfl <| ml_aload_n dX3_isOne_4 0 rfl <| ml_ck_of h fun hc3566 h => ml_getI dX3_isOne_5 wb_441 hc3566 <| ml_if_eq dX3_isOne_8 h (fun _ h => ml_V.sub [] rfl (vX3_isOne_27 hL hr  _ h)) (fun _ h => ml_aload_n dX3_isOne_11 0 rfl <| ml_getR dX3_isOne_12 wb_446 hc3566 <| ml_lx (mk := ml_r) h fun a3567 h => ml_iconst dX3_isOne_15 kc_i1 <| ml_aload_n dX3_isOne_16 0 rfl <| ml_getI dX3_isOne_17 wb_441 hc3566 <| ml_ishl dX3_isOne_20 <| ml_iconst dX3_isOne_21 kc_i1 <| ml_isub dX3_isOne_22 <| ml_ck_of h fun hi3568 h => ml_iald dX3_isOne_23 hi3568 <| ml_if_eq dX3_isOne_24 h (fun _ h => ml_iconst dX3_isOne_31 kc_i0 <| ml_rI (mk := ml_i) hr dX3_isOne_32 (fun e => Or.inl e.symm) h) (fun _ h => ml_V.sub [] rfl (vX3_isOne_27 hL hr  _ h)))
theorem sX3_isOne {l0 : Nat} {m : ml_M} {rv : Int32} {rm : ml_M} (h : fX3_isOne l0 m = some (rv, rm)) : ml_Sn yX3_isOne cX3_isOne 1 (some .boolean) 4 [ml_r l0] m (some (ml_i rv)) rm :=
  ml_Sn_of (P := (rv = 0 ∨ rv = 1)) (ini := false) (by decide +kernel) (Nat.le_of_ble_eq_true rfl) (fun h => by cases h) (fun hz => ml_RkZ rv hz) fun E hL hr => wX3_isOne_0 hL hr _ _ h
theorem dX10_journey_0 : ml_d cX10_journey 0 (.iload_n 1) 1 1 := ⟨by decide +kernel, rfl⟩
theorem dX10_journey_1 : ml_d cX10_journey 1 (.iconst 0) 1 2 := ⟨by decide +kernel, rfl⟩
theorem dX10_journey_2 : ml_d cX10_journey 2 (.iconst 1) 1 3 := ⟨by decide +kernel, rfl⟩
theorem dX10_journey_3 : ml_d cX10_journey 3 (.aload_n 0) 1 4 := ⟨by decide +kernel, rfl⟩
theorem dX10_journey_4 : ml_d cX10_journey 4 (.getfield 118) 3 7 := ⟨by decide +kernel, rfl⟩
theorem dX10_journey_7 : ml_d cX10_journey 7 (.ishl) 1 8 := ⟨by decide +kernel, rfl⟩
theorem dX10_journey_8 : ml_d cX10_journey 8 (.iconst 1) 1 9 := ⟨by decide +kernel, rfl⟩
theorem dX10_journey_9 : ml_d cX10_journey 9 (.isub) 1 10 := ⟨by decide +kernel, rfl⟩
theorem dX10_journey_10 : ml_d cX10_journey 10 (.invokestatic 138) 3 13 := ⟨by decide +kernel, rfl⟩
theorem dX10_journey_13 : ml_j cX10_journey 13 (.ifCond .ne) 18 16 := ⟨5, by decide +kernel, by decide, rfl⟩
theorem dX10_journey_16 : ml_d cX10_journey 16 (.iconst (-1)) 1 17 := ⟨by decide +kernel, rfl⟩
theorem dX10_journey_17 : ml_d cX10_journey 17 (.ireturn) 1 18 := ⟨by decide +kernel, rfl⟩
theorem dX10_journey_18 : ml_d cX10_journey 18 (.aload_n 0) 1 19 := ⟨by decide +kernel, rfl⟩
theorem dX10_journey_19 : ml_d cX10_journey 19 (.getfield 75) 3 22 := ⟨by decide +kernel, rfl⟩
theorem dX10_journey_22 : ml_d cX10_journey 22 (.aload_n 0) 1 23 := ⟨by decide +kernel, rfl⟩
theorem dX10_journey_23 : ml_d cX10_journey 23 (.getfield 36) 3 26 := ⟨by decide +kernel, rfl⟩
theorem dX10_journey_26 : ml_d cX10_journey 26 (.aload_n 0) 1 27 := ⟨by decide +kernel, rfl⟩
theorem dX10_journey_27 : ml_d cX10_journey 27 (.getfield 118) 3 30 := ⟨by decide +kernel, rfl⟩
theorem dX10_journey_30 : ml_d cX10_journey 30 (.iload_n 1) 1 31 := ⟨by decide +kernel, rfl⟩
theorem dX10_journey_31 : ml_d cX10_journey 31 (.invokevirtual 297) 3 34 := ⟨by decide +kernel, rfl⟩
theorem dX10_journey_34 : ml_d cX10_journey 34 (.istore_n 2) 1 35 := ⟨by decide +kernel, rfl⟩
theorem dX10_journey_35 : ml_d cX10_journey 35 (.iload_n 2) 1 36 := ⟨by decide +kernel, rfl⟩
theorem dX10_journey_36 : ml_d cX10_journey 36 (.bipush 10) 2 38 := ⟨by decide +kernel, rfl⟩
theorem dX10_journey_38 : ml_j cX10_journey 38 (.if_icmp .le) 44 41 := ⟨6, by decide +kernel, by decide, rfl⟩
theorem dX10_journey_41 : ml_d cX10_journey 41 (.bipush (-6)) 2 43 := ⟨by decide +kernel, rfl⟩
theorem dX10_journey_43 : ml_d cX10_journey 43 (.ireturn) 1 44 := ⟨by decide +kernel, rfl⟩
theorem dX10_journey_44 : ml_d cX10_journey 44 (.aload_n 0) 1 45 := ⟨by decide +kernel, rfl⟩
theorem dX10_journey_45 : ml_d cX10_journey 45 (.getfield 75) 3 48 := ⟨by decide +kernel, rfl⟩
theorem dX10_journey_48 : ml_d cX10_journey 48 (.invokevirtual 304) 3 51 := ⟨by decide +kernel, rfl⟩
theorem dX10_journey_51 : ml_j cX10_journey 51 (.ifCond .eq) 58 54 := ⟨7, by decide +kernel, by decide, rfl⟩
theorem dX10_journey_54 : ml_d cX10_journey 54 (.iconst 1) 1 55 := ⟨by decide +kernel, rfl⟩
theorem dX10_journey_55 : ml_j cX10_journey 55 .goto 59 58 := ⟨4, by decide +kernel, by decide, rfl⟩
theorem dX10_journey_58 : ml_d cX10_journey 58 (.iconst 0) 1 59 := ⟨by decide +kernel, rfl⟩
theorem dX10_journey_59 : ml_d cX10_journey 59 (.ireturn) 1 60 := ⟨by decide +kernel, rfl⟩
def fX10_journey (l0 : Nat) (l1 : Int32) (m : ml_M) : Option (Int32 × ml_M) :=
    if (ml_K m l0).1 = 10 then
    ml_b1 (fX10_within l1 (0 : Int32) (((1 : Int32) <<< ((ml_I m l0 5) &&& 31)) - (1 : Int32)) m) fun r3571 =>
    if r3571 = 0 then
    some ((-1 : Int32), m)
    else
    ml_let (ml_R m l0 14) fun a3572 =>
    ml_let (ml_R m l0 4) fun a3573 =>
    if (ml_K m a3572).1 = 3 then
    ml_b2 (fX3_gather a3572 a3573 (ml_I m l0 5) l1 m) fun r3576 m3577 =>
    if r3576 ≤ (10 : Int32) then
    if (ml_K m3577 l0).1 = 10 then
    ml_let (ml_R m3577 l0 14) fun a3579 =>
    if (ml_K m3577 a3579).1 = 3 then
    ml_b2 (fX3_isOne a3579 m3577) fun r3582 m3583 =>
    if r3582 = 0 then
    some ((0 : Int32), m3583)
    else
    some ((1 : Int32), m3583)
    else none
    else none
    else
    some ((-6 : Int32), m3577)
    else none
    else none
theorem wX10_journey_0 {E : ml_E} (hL : ml_eL E = 3) {rv : Int32} {rm : ml_M} (hr : ∀ (pc pc' : Nat) (lv : List (Nat × ml_X)), ml_d cX10_journey pc .ireturn 1 pc' → True → ml_V E "LostRoom" cX10_journey 5 false rm pc lv [ml_i rv]) : ∀ (l0 : Nat) (l1 : Int32) (m : ml_M), fX10_journey l0 l1 m = some (rv, rm) → ml_V E "LostRoom" cX10_journey 5 false m 0 [(0, ml_r l0), (1, ml_i l1)] [] := by
  intro l0 l1 m h
  unfold fX10_journey at h
  exact ml_iload_n dX10_journey_0 1 rfl <| ml_iconst dX10_journey_1 kc_i0 <| ml_iconst dX10_journey_2 kc_i1 <| ml_aload_n dX10_journey_3 0 rfl <| ml_ck_of h fun hc3569 h => ml_getI dX10_journey_4 wb_217 hc3569 <| ml_ishl dX10_journey_7 <| ml_iconst dX10_journey_8 kc_i1 <| ml_isub dX10_journey_9 <| ml_b1_of h fun r3571 hv3570 h => ml_callS dX10_journey_10 wm_124 wb_94 (sX10_within hv3570) rfl (Nat.le_of_ble_eq_true rfl) (Nat.le_of_ble_eq_true rfl) rfl <| ml_if_ne dX10_journey_13 h (fun _ h => ml_aload_n dX10_journey_18 0 rfl <| ml_getR dX10_journey_19 wb_453 hc3569 <| ml_lx (mk := ml_r) h fun a3572 h => ml_aload_n dX10_journey_22 0 rfl <| ml_getR dX10_journey_23 wb_218 hc3569 <| ml_lx (mk := ml_r) h fun a3573 h => ml_aload_n dX10_journey_26 0 rfl <| ml_getI dX10_journey_27 wb_217 hc3569 <| ml_iload_n dX10_journey_30 1 rfl <| ml_ck_of h fun hc3575 h => ml_b2_of h fun r3576 m3577 hv3574 h => ml_callV dX10_journey_31 wm_750 wb_454 hc3575 (sX3_gather hv3574) rfl (Nat.le_of_ble_eq_true rfl) (Nat.le_of_ble_eq_true rfl) rfl <| ml_istore_n (lv' := [(2, ml_i r3576), (0, ml_r l0), (1, ml_i l1)]) dX10_journey_34 (ml_hn hL rfl) rfl <| ml_iload_n dX10_journey_35 0 rfl <| ml_bipush dX10_journey_36 kc_b10 <| ml_icmp_le dX10_journey_38 h (fun _ h => ml_aload_n dX10_journey_44 1 rfl <| ml_ck_of h fun hc3578 h => ml_getR dX10_journey_45 wb_453 hc3578 <| ml_lx (mk := ml_r) h fun a3579 h => ml_ck_of h fun hc3581 h => ml_b2_of h fun r3582 m3583 hv3580 h => ml_callV dX10_journey_48 wm_771 wb_465 hc3581 (sX3_isOne hv3580) rfl (Nat.le_of_ble_eq_true rfl) (Nat.le_of_ble_eq_true rfl) rfl <| ml_if_eq dX10_journey_51 h (fun _ h => ml_iconst dX10_journey_58 kc_i0 <| ml_rI (mk := ml_i) hr dX10_journey_59 (fun _ => trivial) h) (fun _ h => ml_iconst dX10_journey_54 kc_i1 <| ml_goto dX10_journey_55 <| ml_rI (mk := ml_i) hr dX10_journey_59 (fun _ => trivial) h)) (fun _ h => ml_bipush dX10_journey_41 kc_bm6 <| ml_rI (mk := ml_i) hr dX10_journey_43 (fun _ => trivial) h)) (fun _ h => ml_iconst dX10_journey_16 kc_im1 <| ml_rI (mk := ml_i) hr dX10_journey_17 (fun _ => trivial) h)
theorem sX10_journey {l0 : Nat} {l1 : Int32} {m : ml_M} {rv : Int32} {rm : ml_M} (h : fX10_journey l0 l1 m = some (rv, rm)) : ml_Sn yX10_journey cX10_journey 3 (some .int) 5 [ml_r l0, ml_i l1] m (some (ml_i rv)) rm :=
  ml_Sn_of (P := True) (ini := false) (by decide +kernel) (Nat.le_of_ble_eq_true rfl) (fun h => by cases h) (fun _ => ml_RkI rv) fun E hL hr => wX10_journey_0 hL hr _ _ _ h
theorem dX11_journey_0 : ml_d cX11_journey 0 (.iload_n 1) 1 1 := ⟨by decide +kernel, rfl⟩
theorem dX11_journey_1 : ml_d cX11_journey 1 (.iconst 0) 1 2 := ⟨by decide +kernel, rfl⟩
theorem dX11_journey_2 : ml_d cX11_journey 2 (.iconst 1) 1 3 := ⟨by decide +kernel, rfl⟩
theorem dX11_journey_3 : ml_d cX11_journey 3 (.aload_n 0) 1 4 := ⟨by decide +kernel, rfl⟩
theorem dX11_journey_4 : ml_d cX11_journey 4 (.getfield 181) 3 7 := ⟨by decide +kernel, rfl⟩
theorem dX11_journey_7 : ml_d cX11_journey 7 (.ishl) 1 8 := ⟨by decide +kernel, rfl⟩
theorem dX11_journey_8 : ml_d cX11_journey 8 (.iconst 1) 1 9 := ⟨by decide +kernel, rfl⟩
theorem dX11_journey_9 : ml_d cX11_journey 9 (.isub) 1 10 := ⟨by decide +kernel, rfl⟩
theorem dX11_journey_10 : ml_d cX11_journey 10 (.invokestatic 100) 3 13 := ⟨by decide +kernel, rfl⟩
theorem dX11_journey_13 : ml_j cX11_journey 13 (.ifCond .ne) 18 16 := ⟨5, by decide +kernel, by decide, rfl⟩
theorem dX11_journey_16 : ml_d cX11_journey 16 (.iconst (-1)) 1 17 := ⟨by decide +kernel, rfl⟩
theorem dX11_journey_17 : ml_d cX11_journey 17 (.ireturn) 1 18 := ⟨by decide +kernel, rfl⟩
theorem dX11_journey_18 : ml_d cX11_journey 18 (.aload_n 0) 1 19 := ⟨by decide +kernel, rfl⟩
theorem dX11_journey_19 : ml_d cX11_journey 19 (.iload_n 1) 1 20 := ⟨by decide +kernel, rfl⟩
theorem dX11_journey_20 : ml_d cX11_journey 20 (.invokevirtual 347) 3 23 := ⟨by decide +kernel, rfl⟩
theorem dX11_journey_23 : ml_d cX11_journey 23 (.bipush 10) 2 25 := ⟨by decide +kernel, rfl⟩
theorem dX11_journey_25 : ml_j cX11_journey 25 (.if_icmp .le) 31 28 := ⟨6, by decide +kernel, by decide, rfl⟩
theorem dX11_journey_28 : ml_d cX11_journey 28 (.bipush (-6)) 2 30 := ⟨by decide +kernel, rfl⟩
theorem dX11_journey_30 : ml_d cX11_journey 30 (.ireturn) 1 31 := ⟨by decide +kernel, rfl⟩
theorem dX11_journey_31 : ml_d cX11_journey 31 (.aload_n 0) 1 32 := ⟨by decide +kernel, rfl⟩
theorem dX11_journey_32 : ml_d cX11_journey 32 (.invokevirtual 350) 3 35 := ⟨by decide +kernel, rfl⟩
theorem dX11_journey_35 : ml_d cX11_journey 35 (.aload_n 0) 1 36 := ⟨by decide +kernel, rfl⟩
theorem dX11_journey_36 : ml_d cX11_journey 36 (.getfield 83) 3 39 := ⟨by decide +kernel, rfl⟩
theorem dX11_journey_39 : ml_d cX11_journey 39 (.iconst 1) 1 40 := ⟨by decide +kernel, rfl⟩
theorem dX11_journey_40 : ml_d cX11_journey 40 (.aload_n 0) 1 41 := ⟨by decide +kernel, rfl⟩
theorem dX11_journey_41 : ml_d cX11_journey 41 (.getfield 341) 3 44 := ⟨by decide +kernel, rfl⟩
theorem dX11_journey_44 : ml_d cX11_journey 44 (.ishl) 1 45 := ⟨by decide +kernel, rfl⟩
theorem dX11_journey_45 : ml_d cX11_journey 45 (.iconst 1) 1 46 := ⟨by decide +kernel, rfl⟩
theorem dX11_journey_46 : ml_d cX11_journey 46 (.isub) 1 47 := ⟨by decide +kernel, rfl⟩
theorem dX11_journey_47 : ml_d cX11_journey 47 (.baload) 1 48 := ⟨by decide +kernel, rfl⟩
theorem dX11_journey_48 : ml_j cX11_journey 48 (.ifCond .eq) 55 51 := ⟨7, by decide +kernel, by decide, rfl⟩
theorem dX11_journey_51 : ml_d cX11_journey 51 (.iconst 1) 1 52 := ⟨by decide +kernel, rfl⟩
theorem dX11_journey_52 : ml_j cX11_journey 52 .goto 56 55 := ⟨4, by decide +kernel, by decide, rfl⟩
theorem dX11_journey_55 : ml_d cX11_journey 55 (.iconst 0) 1 56 := ⟨by decide +kernel, rfl⟩
theorem dX11_journey_56 : ml_d cX11_journey 56 (.ireturn) 1 57 := ⟨by decide +kernel, rfl⟩
def fX11_journey (l0 : Nat) (l1 : Int32) (m : ml_M) : Option (Int32 × ml_M) :=
    if (ml_K m l0).1 = 11 then
    ml_b1 (fX11_in l1 (0 : Int32) (((1 : Int32) <<< ((ml_I m l0 24) &&& 31)) - (1 : Int32)) m) fun r3586 =>
    if r3586 = 0 then
    some ((-1 : Int32), m)
    else
    ml_b2 (fX11_layTickets l0 l1 m) fun r3588 m3589 =>
    if r3588 ≤ (10 : Int32) then
    if (ml_K m3589 l0).1 = 11 then
    ml_b1 (fX11_layJourneys l0 m3589) fun m3592 =>
    if (ml_K m3592 l0).1 = 11 then
    ml_let (ml_R m3592 l0 44) fun a3594 =>
    if ml_in m3592 a3594 22 (((1 : Int32) <<< ((ml_I m3592 l0 41) &&& 31)) - (1 : Int32)) then
    if (ml_I m3592 a3594 (((1 : Int32) <<< ((ml_I m3592 l0 41) &&& 31)) - (1 : Int32)).toNatClampNeg) = 0 then
    some ((0 : Int32), m3592)
    else
    some ((1 : Int32), m3592)
    else none
    else none
    else none
    else
    some ((-6 : Int32), m3589)
    else none
theorem wX11_journey_0 {E : ml_E} (hL : ml_eL E = 2) {rv : Int32} {rm : ml_M} (hr : ∀ (pc pc' : Nat) (lv : List (Nat × ml_X)), ml_d cX11_journey pc .ireturn 1 pc' → True → ml_V E "LostRoomModel" cX11_journey 5 false rm pc lv [ml_i rv]) : ∀ (l0 : Nat) (l1 : Int32) (m : ml_M), fX11_journey l0 l1 m = some (rv, rm) → ml_V E "LostRoomModel" cX11_journey 5 false m 0 [(0, ml_r l0), (1, ml_i l1)] [] := by
  intro l0 l1 m h
  unfold fX11_journey at h
  exact ml_iload_n dX11_journey_0 1 rfl <| ml_iconst dX11_journey_1 kc_i0 <| ml_iconst dX11_journey_2 kc_i1 <| ml_aload_n dX11_journey_3 0 rfl <| ml_ck_of h fun hc3584 h => ml_getI dX11_journey_4 wb_228 hc3584 <| ml_ishl dX11_journey_7 <| ml_iconst dX11_journey_8 kc_i1 <| ml_isub dX11_journey_9 <| ml_b1_of h fun r3586 hv3585 h => ml_callS dX11_journey_10 wm_136 wb_100 (sX11_in hv3585) rfl (Nat.le_of_ble_eq_true rfl) (Nat.le_of_ble_eq_true rfl) rfl <| ml_if_ne dX11_journey_13 h (fun _ h => ml_aload_n dX11_journey_18 0 rfl <| ml_iload_n dX11_journey_19 1 rfl <| ml_b2_of h fun r3588 m3589 hv3587 h => ml_callV dX11_journey_20 wm_763 wb_463 hc3584 (sX11_layTickets hv3587) rfl (Nat.le_of_ble_eq_true rfl) (Nat.le_of_ble_eq_true rfl) rfl <| ml_bipush dX11_journey_23 kc_b10 <| ml_icmp_le dX11_journey_25 h (fun _ h => ml_aload_n dX11_journey_31 0 rfl <| ml_ck_of h fun hc3591 h => ml_b1_of h fun m3592 hv3590 h => ml_callV dX11_journey_32 wm_767 wb_464 hc3591 (sX11_layJourneys hv3590) rfl (Nat.le_of_ble_eq_true rfl) (Nat.le_of_ble_eq_true rfl) rfl <| ml_aload_n dX11_journey_35 0 rfl <| ml_ck_of h fun hc3593 h => ml_getR dX11_journey_36 wb_460 hc3593 <| ml_lx (mk := ml_r) h fun a3594 h => ml_iconst dX11_journey_39 kc_i1 <| ml_aload_n dX11_journey_40 0 rfl <| ml_getI dX11_journey_41 wb_456 hc3593 <| ml_ishl dX11_journey_44 <| ml_iconst dX11_journey_45 kc_i1 <| ml_isub dX11_journey_46 <| ml_ck_of h fun hi3595 h => ml_zald dX11_journey_47 hi3595 <| ml_if_eq dX11_journey_48 h (fun _ h => ml_iconst dX11_journey_55 kc_i0 <| ml_rI (mk := ml_i) hr dX11_journey_56 (fun _ => trivial) h) (fun _ h => ml_iconst dX11_journey_51 kc_i1 <| ml_goto dX11_journey_52 <| ml_rI (mk := ml_i) hr dX11_journey_56 (fun _ => trivial) h)) (fun _ h => ml_bipush dX11_journey_28 kc_bm6 <| ml_rI (mk := ml_i) hr dX11_journey_30 (fun _ => trivial) h)) (fun _ h => ml_iconst dX11_journey_16 kc_im1 <| ml_rI (mk := ml_i) hr dX11_journey_17 (fun _ => trivial) h)
theorem sX11_journey {l0 : Nat} {l1 : Int32} {m : ml_M} {rv : Int32} {rm : ml_M} (h : fX11_journey l0 l1 m = some (rv, rm)) : ml_Sn yX11_journey cX11_journey 2 (some .int) 5 [ml_r l0, ml_i l1] m (some (ml_i rv)) rm :=
  ml_Sn_of (P := True) (ini := false) (by decide +kernel) (Nat.le_of_ble_eq_true rfl) (fun h => by cases h) (fun _ => ml_RkI rv) fun E hL hr => wX11_journey_0 hL hr _ _ _ h
theorem dX2_init_0 : ml_d cX2_init 0 (.aload_n 0) 1 1 := ⟨by decide +kernel, rfl⟩
theorem dX2_init_1 : ml_d cX2_init 1 (.invokespecial 1) 3 4 := ⟨by decide +kernel, rfl⟩
theorem dX2_init_4 : ml_d cX2_init 4 (.aload_n 0) 1 5 := ⟨by decide +kernel, rfl⟩
theorem dX2_init_5 : ml_d cX2_init 5 (.iload_n 1) 1 6 := ⟨by decide +kernel, rfl⟩
theorem dX2_init_6 : ml_d cX2_init 6 (.putfield 7) 3 9 := ⟨by decide +kernel, rfl⟩
theorem dX2_init_9 : ml_d cX2_init 9 (.aload_n 0) 1 10 := ⟨by decide +kernel, rfl⟩
theorem dX2_init_10 : ml_d cX2_init 10 (.iload_n 2) 1 11 := ⟨by decide +kernel, rfl⟩
theorem dX2_init_11 : ml_d cX2_init 11 (.putfield 13) 3 14 := ⟨by decide +kernel, rfl⟩
theorem dX2_init_14 : ml_d cX2_init 14 (.aload_n 0) 1 15 := ⟨by decide +kernel, rfl⟩
theorem dX2_init_15 : ml_d cX2_init 15 (.aload_n 3) 1 16 := ⟨by decide +kernel, rfl⟩
theorem dX2_init_16 : ml_d cX2_init 16 (.putfield 16) 3 19 := ⟨by decide +kernel, rfl⟩
theorem dX2_init_19 : ml_d cX2_init 19 (.return_) 1 20 := ⟨by decide +kernel, rfl⟩
def fX2_init (l0 : Nat) (l1 : Int32) (l2 : Int32) (l3 : Nat) (m : ml_M) : Option ml_M :=
    if l0 ≠ 0 then
    if (ml_K m l0).1 = 2 then
    ml_let (ml_sI m l0 0 l1) fun m3598 =>
    ml_let (ml_sI m3598 l0 1 l2) fun m3600 =>
    ml_let (ml_sR m3600 l0 2 l3) fun m3602 =>
    some m3602
    else none
    else none
theorem wX2_init_0 {E : ml_E} (hL : ml_eL E = 4) {rm : ml_M} (hr : ∀ (pc pc' : Nat) (lv : List (Nat × ml_X)), ml_d cX2_init pc .return_ 1 pc' → True → ml_V E "LostRoom$Claim" cX2_init 2 true rm pc lv []) : ∀ (l0 : Nat) (l1 : Int32) (l2 : Int32) (l3 : Nat) (m : ml_M), fX2_init l0 l1 l2 l3 m = some rm → ml_V E "LostRoom$Claim" cX2_init 2 true m 0 [(0, ml_r l0), (1, ml_i l1), (2, ml_i l2), (3, ml_r l3)] [] := by
  intro l0 l1 l2 l3 m h
  unfold fX2_init at h
  exact ml_aload_n dX2_init_0 0 rfl <| ml_ck_of h fun hz3596 h => ml_objInit dX2_init_1 wb_466 (Nat.le_of_ble_eq_true rfl) (Nat.le_of_ble_eq_true rfl) hz3596 <| ml_aload_n dX2_init_4 0 rfl <| ml_iload_n dX2_init_5 1 rfl <| ml_ck_of h fun hc3597 h => ml_putI dX2_init_6 wb_467 hc3597 <| ml_lt (m := m) rfl h fun m3598 em3599 h => ml_aload_n dX2_init_9 0 rfl <| ml_iload_n dX2_init_10 2 rfl <| ml_putI dX2_init_11 wb_468 (ml_kk em3599 hc3597) <| ml_lt (m := m3598) rfl h fun m3600 em3601 h => ml_aload_n dX2_init_14 0 rfl <| ml_aload_n dX2_init_15 3 rfl <| ml_putR dX2_init_16 wb_469 (ml_kk em3601 (ml_kk em3599 hc3597)) <| ml_lt (m := m3600) rfl h fun m3602 em3603 h => ml_rv hr dX2_init_19 trivial h
theorem sX2_init {l0 : Nat} {l1 : Int32} {l2 : Int32} {l3 : Nat} {m : ml_M} {rm : ml_M} (h : fX2_init l0 l1 l2 l3 m = some rm) : ml_Sn yX2_init cX2_init 4 none 2 [ml_r l0, ml_i l1, ml_i l2, ml_r l3] m none rm :=
  ml_Sn_of (P := True) (ini := true) (by decide +kernel) (Nat.le_of_ble_eq_true rfl) (fun _ => rfl) (fun _ => ml_RkV) fun E hL hr => wX2_init_0 hL hr _ _ _ _ _ h
theorem dX10_claim_0 : ml_d cX10_claim 0 (.iload_n 1) 1 1 := ⟨by decide +kernel, rfl⟩
theorem dX10_claim_1 : ml_d cX10_claim 1 (.iconst 0) 1 2 := ⟨by decide +kernel, rfl⟩
theorem dX10_claim_2 : ml_d cX10_claim 2 (.bipush 9) 2 4 := ⟨by decide +kernel, rfl⟩
theorem dX10_claim_4 : ml_d cX10_claim 4 (.invokestatic 138) 3 7 := ⟨by decide +kernel, rfl⟩
theorem dX10_claim_7 : ml_j cX10_claim 7 (.ifCond .eq) 25 10 := ⟨18, by decide +kernel, by decide, rfl⟩
theorem dX10_claim_10 : ml_d cX10_claim 10 (.aload_n 0) 1 11 := ⟨by decide +kernel, rfl⟩
theorem dX10_claim_11 : ml_d cX10_claim 11 (.iload_n 2) 1 12 := ⟨by decide +kernel, rfl⟩
theorem dX10_claim_12 : ml_d cX10_claim 12 (.invokevirtual 148) 3 15 := ⟨by decide +kernel, rfl⟩
theorem dX10_claim_15 : ml_j cX10_claim 15 (.ifCond .eq) 25 18 := ⟨10, by decide +kernel, by decide, rfl⟩
theorem dX10_claim_18 : ml_d cX10_claim 18 (.iload_n 3) 1 19 := ⟨by decide +kernel, rfl⟩
theorem dX10_claim_19 : ml_d cX10_claim 19 (.invokestatic 82) 3 22 := ⟨by decide +kernel, rfl⟩
theorem dX10_claim_22 : ml_j cX10_claim 22 (.ifCond .ne) 27 25 := ⟨5, by decide +kernel, by decide, rfl⟩
theorem dX10_claim_25 : ml_d cX10_claim 25 (.iconst (-1)) 1 26 := ⟨by decide +kernel, rfl⟩
theorem dX10_claim_26 : ml_d cX10_claim 26 (.ireturn) 1 27 := ⟨by decide +kernel, rfl⟩
theorem dX10_claim_27 : ml_d cX10_claim 27 (.aload_n 0) 1 28 := ⟨by decide +kernel, rfl⟩
theorem dX10_claim_28 : ml_d cX10_claim 28 (.getfield 11) 3 31 := ⟨by decide +kernel, rfl⟩
theorem dX10_claim_31 : ml_d cX10_claim 31 (.iload_n 3) 1 32 := ⟨by decide +kernel, rfl⟩
theorem dX10_claim_32 : ml_d cX10_claim 32 (.aaload) 1 33 := ⟨by decide +kernel, rfl⟩
theorem dX10_claim_33 : ml_d cX10_claim 33 (.astore 4) 2 35 := ⟨by decide +kernel, rfl⟩
theorem dX10_claim_35 : ml_d cX10_claim 35 (.aload 4) 2 37 := ⟨by decide +kernel, rfl⟩
theorem dX10_claim_37 : ml_j cX10_claim 37 .ifnonnull 46 40 := ⟨9, by decide +kernel, by decide, rfl⟩
theorem dX10_claim_40 : ml_d cX10_claim 40 (.aload_n 0) 1 41 := ⟨by decide +kernel, rfl⟩
theorem dX10_claim_41 : ml_d cX10_claim 41 (.iconst 1) 1 42 := ⟨by decide +kernel, rfl⟩
theorem dX10_claim_42 : ml_d cX10_claim 42 (.invokevirtual 86) 3 45 := ⟨by decide +kernel, rfl⟩
theorem dX10_claim_45 : ml_d cX10_claim 45 (.ireturn) 1 46 := ⟨by decide +kernel, rfl⟩
theorem dX10_claim_46 : ml_d cX10_claim 46 (.aload 4) 2 48 := ⟨by decide +kernel, rfl⟩
theorem dX10_claim_48 : ml_d cX10_claim 48 (.arraylength) 1 49 := ⟨by decide +kernel, rfl⟩
theorem dX10_claim_49 : ml_j cX10_claim 49 (.ifCond .eq) 60 52 := ⟨11, by decide +kernel, by decide, rfl⟩
theorem dX10_claim_52 : ml_d cX10_claim 52 (.aload 4) 2 54 := ⟨by decide +kernel, rfl⟩
theorem dX10_claim_54 : ml_d cX10_claim 54 (.arraylength) 1 55 := ⟨by decide +kernel, rfl⟩
theorem dX10_claim_55 : ml_d cX10_claim 55 (.iconst 2) 1 56 := ⟨by decide +kernel, rfl⟩
theorem dX10_claim_56 : ml_d cX10_claim 56 (.irem) 1 57 := ⟨by decide +kernel, rfl⟩
theorem dX10_claim_57 : ml_j cX10_claim 57 (.ifCond .eq) 66 60 := ⟨9, by decide +kernel, by decide, rfl⟩
theorem dX10_claim_60 : ml_d cX10_claim 60 (.aload_n 0) 1 61 := ⟨by decide +kernel, rfl⟩
theorem dX10_claim_61 : ml_d cX10_claim 61 (.iconst 5) 1 62 := ⟨by decide +kernel, rfl⟩
theorem dX10_claim_62 : ml_d cX10_claim 62 (.invokevirtual 86) 3 65 := ⟨by decide +kernel, rfl⟩
theorem dX10_claim_65 : ml_d cX10_claim 65 (.ireturn) 1 66 := ⟨by decide +kernel, rfl⟩
theorem dX10_claim_66 : ml_d cX10_claim 66 (.aload_n 0) 1 67 := ⟨by decide +kernel, rfl⟩
theorem dX10_claim_67 : ml_d cX10_claim 67 (.getfield 127) 3 70 := ⟨by decide +kernel, rfl⟩
theorem dX10_claim_70 : ml_d cX10_claim 70 (.bipush 8) 2 72 := ⟨by decide +kernel, rfl⟩
theorem dX10_claim_72 : ml_j cX10_claim 72 (.if_icmp .lt) 78 75 := ⟨6, by decide +kernel, by decide, rfl⟩
theorem dX10_claim_75 : ml_d cX10_claim 75 (.bipush (-2)) 2 77 := ⟨by decide +kernel, rfl⟩
theorem dX10_claim_77 : ml_d cX10_claim 77 (.ireturn) 1 78 := ⟨by decide +kernel, rfl⟩
theorem dX10_claim_78 : ml_d cX10_claim 78 (.iconst 0) 1 79 := ⟨by decide +kernel, rfl⟩
theorem dX10_claim_79 : ml_d cX10_claim 79 (.istore 5) 2 81 := ⟨by decide +kernel, rfl⟩
theorem dX10_claim_81 : ml_d cX10_claim 81 (.iload 5) 2 83 := ⟨by decide +kernel, rfl⟩
theorem dX10_claim_83 : ml_d cX10_claim 83 (.aload 4) 2 85 := ⟨by decide +kernel, rfl⟩
theorem dX10_claim_85 : ml_d cX10_claim 85 (.arraylength) 1 86 := ⟨by decide +kernel, rfl⟩
theorem dX10_claim_86 : ml_j cX10_claim 86 (.if_icmp .ge) 112 89 := ⟨26, by decide +kernel, by decide, rfl⟩
theorem dX10_claim_89 : ml_d cX10_claim 89 (.aload 4) 2 91 := ⟨by decide +kernel, rfl⟩
theorem dX10_claim_91 : ml_d cX10_claim 91 (.iload 5) 2 93 := ⟨by decide +kernel, rfl⟩
theorem dX10_claim_93 : ml_d cX10_claim 93 (.iaload) 1 94 := ⟨by decide +kernel, rfl⟩
theorem dX10_claim_94 : ml_d cX10_claim 94 (.invokestatic 184) 3 97 := ⟨by decide +kernel, rfl⟩
theorem dX10_claim_97 : ml_j cX10_claim 97 (.ifCond .ne) 106 100 := ⟨9, by decide +kernel, by decide, rfl⟩
theorem dX10_claim_100 : ml_d cX10_claim 100 (.aload_n 0) 1 101 := ⟨by decide +kernel, rfl⟩
theorem dX10_claim_101 : ml_d cX10_claim 101 (.iconst 3) 1 102 := ⟨by decide +kernel, rfl⟩
theorem dX10_claim_102 : ml_d cX10_claim 102 (.invokevirtual 86) 3 105 := ⟨by decide +kernel, rfl⟩
theorem dX10_claim_105 : ml_d cX10_claim 105 (.ireturn) 1 106 := ⟨by decide +kernel, rfl⟩
theorem dX10_claim_106 : ml_d cX10_claim 106 (.iinc 5 2) 3 109 := ⟨by decide +kernel, rfl⟩
theorem dX10_claim_109 : ml_j cX10_claim 109 .goto 81 112 := ⟨(-28), by decide +kernel, by decide, rfl⟩
theorem dX10_claim_112 : ml_d cX10_claim 112 (.aload_n 0) 1 113 := ⟨by decide +kernel, rfl⟩
theorem dX10_claim_113 : ml_d cX10_claim 113 (.getfield 54) 3 116 := ⟨by decide +kernel, rfl⟩
theorem dX10_claim_116 : ml_d cX10_claim 116 (.aload_n 0) 1 117 := ⟨by decide +kernel, rfl⟩
theorem dX10_claim_117 : ml_d cX10_claim 117 (.getfield 127) 3 120 := ⟨by decide +kernel, rfl⟩
theorem dX10_claim_120 : ml_d cX10_claim 120 (.new 52) 3 123 := ⟨by decide +kernel, rfl⟩
theorem dX10_claim_123 : ml_d cX10_claim 123 (.dup) 1 124 := ⟨by decide +kernel, rfl⟩
theorem dX10_claim_124 : ml_d cX10_claim 124 (.iload_n 1) 1 125 := ⟨by decide +kernel, rfl⟩
theorem dX10_claim_125 : ml_d cX10_claim 125 (.iload_n 2) 1 126 := ⟨by decide +kernel, rfl⟩
theorem dX10_claim_126 : ml_d cX10_claim 126 (.aload 4) 2 128 := ⟨by decide +kernel, rfl⟩
theorem dX10_claim_128 : ml_d cX10_claim 128 (.invokevirtual 308) 3 131 := ⟨by decide +kernel, rfl⟩
theorem dX10_claim_131 : ml_d cX10_claim 131 (.checkcast 9) 3 134 := ⟨by decide +kernel, rfl⟩
theorem dX10_claim_134 : ml_d cX10_claim 134 (.invokespecial 312) 3 137 := ⟨by decide +kernel, rfl⟩
theorem dX10_claim_137 : ml_d cX10_claim 137 (.aastore) 1 138 := ⟨by decide +kernel, rfl⟩
theorem dX10_claim_138 : ml_d cX10_claim 138 (.aload_n 0) 1 139 := ⟨by decide +kernel, rfl⟩
theorem dX10_claim_139 : ml_d cX10_claim 139 (.dup) 1 140 := ⟨by decide +kernel, rfl⟩
theorem dX10_claim_140 : ml_d cX10_claim 140 (.getfield 127) 3 143 := ⟨by decide +kernel, rfl⟩
theorem dX10_claim_143 : ml_d cX10_claim 143 (.dup_x1) 1 144 := ⟨by decide +kernel, rfl⟩
theorem dX10_claim_144 : ml_d cX10_claim 144 (.iconst 1) 1 145 := ⟨by decide +kernel, rfl⟩
theorem dX10_claim_145 : ml_d cX10_claim 145 (.iadd) 1 146 := ⟨by decide +kernel, rfl⟩
theorem dX10_claim_146 : ml_d cX10_claim 146 (.putfield 127) 3 149 := ⟨by decide +kernel, rfl⟩
theorem dX10_claim_149 : ml_d cX10_claim 149 (.ireturn) 1 150 := ⟨by decide +kernel, rfl⟩
def fX10_claim_60 (l0 : Nat) (m : ml_M) : Option (Int32 × ml_M) :=
    if (ml_K m l0).1 = 10 then
    ml_b2 (fX10_found l0 (5 : Int32) m) fun r3606 m3607 =>
    some (r3606, m3607)
    else none
theorem vX10_claim_60 {E : ml_E} (hL : ml_eL E = 6) {rv : Int32} {rm : ml_M} (hr : ∀ (pc pc' : Nat) (lv : List (Nat × ml_X)), ml_d cX10_claim pc .ireturn 1 pc' → True → ml_V E "LostRoom" cX10_claim 4 false rm pc lv [ml_i rv]) : ∀ (l0 : Nat) (m : ml_M), fX10_claim_60 l0 m = some (rv, rm) → ml_V E "LostRoom" cX10_claim 4 false m 60 [(0, ml_r l0)] [] := by
  intro l0 m h
  unfold fX10_claim_60 at h
  exact ml_aload_n dX10_claim_60 0 rfl <| ml_iconst dX10_claim_61 kc_i5 <| ml_ck_of h fun hc3605 h => ml_b2_of h fun r3606 m3607 hv3604 h => ml_callV dX10_claim_62 wm_132 wb_99 hc3605 (sX10_found hv3604) rfl (Nat.le_of_ble_eq_true rfl) (Nat.le_of_ble_eq_true rfl) rfl <| ml_rI (mk := ml_i) hr dX10_claim_65 (fun _ => trivial) h
def fX10_claim_100 (l0 : Nat) (m : ml_M) : Option (Int32 × ml_M) :=
    if (ml_K m l0).1 = 10 then
    ml_b2 (fX10_found l0 (3 : Int32) m) fun r3610 m3611 =>
    some (r3610, m3611)
    else none
theorem vX10_claim_100 {E : ml_E} (hL : ml_eL E = 6) {rv : Int32} {rm : ml_M} (hr : ∀ (pc pc' : Nat) (lv : List (Nat × ml_X)), ml_d cX10_claim pc .ireturn 1 pc' → True → ml_V E "LostRoom" cX10_claim 4 false rm pc lv [ml_i rv]) : ∀ (l0 : Nat) (m : ml_M), fX10_claim_100 l0 m = some (rv, rm) → ml_V E "LostRoom" cX10_claim 4 false m 100 [(0, ml_r l0)] [] := by
  intro l0 m h
  unfold fX10_claim_100 at h
  exact ml_aload_n dX10_claim_100 0 rfl <| ml_iconst dX10_claim_101 kc_i3 <| ml_ck_of h fun hc3609 h => ml_b2_of h fun r3610 m3611 hv3608 h => ml_callV dX10_claim_102 wm_132 wb_99 hc3609 (sX10_found hv3608) rfl (Nat.le_of_ble_eq_true rfl) (Nat.le_of_ble_eq_true rfl) rfl <| ml_rI (mk := ml_i) hr dX10_claim_105 (fun _ => trivial) h
def fX10_claim_112 (l0 : Nat) (l1 : Int32) (l2 : Int32) (l4 : Nat) (m : ml_M) : Option (Int32 × ml_M) :=
    if (ml_K m l0).1 = 10 then
    ml_let (ml_R m l0 10) fun a3613 =>
    ml_let (ml_n m + 1) fun a3614 =>
    ml_let (ml_al m 2 0 3) fun m3615 =>
    if (ml_K m3615 l4).1 = 20 then
    ml_let (ml_n m3615 + 1) fun a3619 =>
    ml_let (ml_cl2 m3615 l4) fun m3620 =>
    ml_b1 (fX2_init a3614 l1 l2 a3619 m3620) fun m3624 =>
    if (ml_K m3624 a3614).1 = 2 then
    if ml_in m3624 a3613 26 (ml_I m l0 11) then
    ml_let (ml_sR m3624 a3613 (ml_I m l0 11).toNatClampNeg a3614) fun m3627 =>
    if (ml_K m3627 l0).1 = 10 then
    ml_let (ml_sI m3627 l0 11 ((ml_I m3627 l0 11) + (1 : Int32))) fun m3630 =>
    some ((ml_I m3627 l0 11), m3630)
    else none
    else none
    else none
    else none
    else none
theorem vX10_claim_112 {E : ml_E} (hL : ml_eL E = 6) {rv : Int32} {rm : ml_M} (hr : ∀ (pc pc' : Nat) (lv : List (Nat × ml_X)), ml_d cX10_claim pc .ireturn 1 pc' → True → ml_V E "LostRoom" cX10_claim 4 false rm pc lv [ml_i rv]) : ∀ (l0 : Nat) (l1 : Int32) (l2 : Int32) (l4 : Nat) (m : ml_M), fX10_claim_112 l0 l1 l2 l4 m = some (rv, rm) → ml_V E "LostRoom" cX10_claim 4 false m 112 [(0, ml_r l0), (1, ml_i l1), (2, ml_i l2), (4, ml_r l4)] [] := by
  intro l0 l1 l2 l4 m h
  unfold fX10_claim_112 at h
  exact ml_aload_n dX10_claim_112 0 rfl <| ml_ck_of h fun hc3612 h => ml_getR dX10_claim_113 wb_470 hc3612 <| ml_lx (mk := ml_r) h fun a3613 h => ml_aload_n dX10_claim_116 0 rfl <| ml_getI dX10_claim_117 wb_471 hc3612 <| ml_newOs dX10_claim_120 wb_472 h fun a3614 m3615 hn3616 hc3617 h => ml_dup dX10_claim_123 rfl <| ml_iload_n dX10_claim_124 1 rfl <| ml_iload_n dX10_claim_125 2 rfl <| ml_aload dX10_claim_126 3 rfl <| ml_ck_of h fun hc3618 h => ml_clones dX10_claim_128 wb_473 (Nat.le_of_ble_eq_true rfl) (Nat.le_of_ble_eq_true rfl) hc3618 h fun a3619 m3620 hn3621 hc3622 h => ml_cast dX10_claim_131 wm_52 hc3622 <| ml_b1_of h fun m3624 hv3623 h => ml_callI dX10_claim_134 wm_781 wb_474 hn3616 (sX2_init hv3623) rfl (Nat.le_of_ble_eq_true rfl) (Nat.le_of_ble_eq_true rfl) rfl <| ml_ck_of h fun hc3626 h => ml_ck_of h fun hi3625 h => ml_aast (kd := 26) (ci := 2) dX10_claim_137 (by decide) hi3625 hc3626 <| ml_lt (m := m3624) rfl h fun m3627 em3628 h => ml_aload_n dX10_claim_138 0 rfl <| ml_dup dX10_claim_139 rfl <| ml_ck_of h fun hc3629 h => ml_getI dX10_claim_140 wb_471 hc3629 <| ml_dup_x1 dX10_claim_143 rfl rfl <| ml_iconst dX10_claim_144 kc_i1 <| ml_iadd dX10_claim_145 <| ml_putI dX10_claim_146 wb_184 hc3629 <| ml_lt (m := m3627) rfl h fun m3630 em3631 h => ml_rI (mk := ml_i) hr dX10_claim_149 (fun _ => trivial) h
def fX10_claim_81 : Nat → Nat → Int32 → Int32 → Nat → Int32 → ml_M → Option (Int32 × ml_M)
  | 0, _, _, _, _, _, _ => none
  | fu + 1, l0, l1, l2, l4, l5, m =>
    if (ml_K m l4).1 = 20 then
    if (Int32.ofNat (ml_K m l4).2) ≤ l5 then
    fX10_claim_112 l0 l1 l2 l4 m
    else
    if ml_in m l4 20 l5 then
    ml_b1 (fX10_isKind (ml_I m l4 l5.toNatClampNeg) m) fun r3635 =>
    if r3635 = 0 then
    fX10_claim_100 l0 m
    else
    (fX10_claim_81 fu) l0 l1 l2 l4 (l5 + (2 : Int32)) m
    else none
    else none
theorem vX10_claim_81 {E : ml_E} (hL : ml_eL E = 6) {rv : Int32} {rm : ml_M} (hr : ∀ (pc pc' : Nat) (lv : List (Nat × ml_X)), ml_d cX10_claim pc .ireturn 1 pc' → True → ml_V E "LostRoom" cX10_claim 4 false rm pc lv [ml_i rv]) : ∀ (fu : Nat) (l0 : Nat) (l1 : Int32) (l2 : Int32) (l4 : Nat) (l5 : Int32) (m : ml_M), fX10_claim_81 fu l0 l1 l2 l4 l5 m = some (rv, rm) → ml_V E "LostRoom" cX10_claim 4 false m 81 [(0, ml_r l0), (1, ml_i l1), (2, ml_i l2), (4, ml_r l4), (5, ml_i l5)] [] := by
  intro fu
  induction fu with
  | zero => intro l0 l1 l2 l4 l5 m h; exact ml_none h
  | succ fu ih =>
    intro l0 l1 l2 l4 l5 m h
    have hk81 := ih
    unfold fX10_claim_81 at h
    exact ml_iload dX10_claim_81 4 rfl <| ml_aload dX10_claim_83 3 rfl <| ml_ck_of h fun hc3632 h => ml_alen (kd := 20) dX10_claim_85 (by decide) hc3632 <| ml_icmp_ge dX10_claim_86 h (fun _ h => ml_V.sub [0, 1, 2, 3] rfl (vX10_claim_112 hL hr  _ _ _ _ _ h)) (fun _ h => ml_aload dX10_claim_89 3 rfl <| ml_iload dX10_claim_91 4 rfl <| ml_ck_of h fun hi3633 h => ml_iald dX10_claim_93 hi3633 <| ml_b1_of h fun r3635 hv3634 h => ml_callS dX10_claim_94 wm_408 wb_273 (sX10_isKind hv3634) rfl (Nat.le_of_ble_eq_true rfl) (Nat.le_of_ble_eq_true rfl) rfl <| ml_if_ne dX10_claim_97 h (fun _ h => ml_iinc (lv' := [(5, ml_i (l5 + (2 : Int32))), (0, ml_r l0), (1, ml_i l1), (2, ml_i l2), (4, ml_r l4)]) dX10_claim_106 4 rfl (congrArg (l5 + ·) kc_i2) (ml_hn hL rfl) rfl <| ml_goto dX10_claim_109 <| ml_V.sub [1, 2, 3, 4, 0] rfl (hk81 _ _ _ _ _ _ h)) (fun _ h => ml_V.sub [0] rfl (vX10_claim_100 hL hr  _ _ h)))
def fX10_claim (l0 : Nat) (l1 : Int32) (l2 : Int32) (l3 : Int32) (m : ml_M) : Option (Int32 × ml_M) :=
    ml_b1 (fX10_within l1 (0 : Int32) (9 : Int32) m) fun r3637 =>
    if r3637 = 0 then
    some ((-1 : Int32), m)
    else
    if (ml_K m l0).1 = 10 then
    ml_b1 (fX10_isTrunk l0 l2 m) fun r3640 =>
    if r3640 = 0 then
    some ((-1 : Int32), m)
    else
    ml_b1 (fX10_isRow l3 m) fun r3642 =>
    if r3642 = 0 then
    some ((-1 : Int32), m)
    else
    ml_let (ml_R m l0 0) fun a3643 =>
    if ml_in m a3643 23 l3 then
    ml_let (ml_R m a3643 l3.toNatClampNeg) fun a3645 =>
    if a3645 = 0 then
    ml_b2 (fX10_found l0 (1 : Int32) m) fun r3648 m3649 =>
    some (r3648, m3649)
    else
    if (ml_K m a3645).1 = 20 then
    if (Int32.ofNat (ml_K m a3645).2) = 0 then
    fX10_claim_60 l0 m
    else
    if ((Int32.ofNat (ml_K m a3645).2) - (Int32.ofNat (ml_K m a3645).2) / (2 : Int32) * (2 : Int32)) = 0 then
    if (ml_I m l0 11) < (8 : Int32) then
    fX10_claim_81 ml_fu l0 l1 l2 a3645 (0 : Int32) m
    else
    some ((-2 : Int32), m)
    else
    fX10_claim_60 l0 m
    else none
    else none
    else none
theorem wX10_claim_0 {E : ml_E} (hL : ml_eL E = 6) {rv : Int32} {rm : ml_M} (hr : ∀ (pc pc' : Nat) (lv : List (Nat × ml_X)), ml_d cX10_claim pc .ireturn 1 pc' → True → ml_V E "LostRoom" cX10_claim 4 false rm pc lv [ml_i rv]) : ∀ (l0 : Nat) (l1 : Int32) (l2 : Int32) (l3 : Int32) (m : ml_M), fX10_claim l0 l1 l2 l3 m = some (rv, rm) → ml_V E "LostRoom" cX10_claim 4 false m 0 [(0, ml_r l0), (1, ml_i l1), (2, ml_i l2), (3, ml_i l3)] [] := by
  intro l0 l1 l2 l3 m h
  unfold fX10_claim at h
  exact ml_iload_n dX10_claim_0 1 rfl <| ml_iconst dX10_claim_1 kc_i0 <| ml_bipush dX10_claim_2 kc_b9 <| ml_b1_of h fun r3637 hv3636 h => ml_callS dX10_claim_4 wm_124 wb_94 (sX10_within hv3636) rfl (Nat.le_of_ble_eq_true rfl) (Nat.le_of_ble_eq_true rfl) rfl <| ml_if_eq dX10_claim_7 h (fun _ h => ml_iconst dX10_claim_25 kc_im1 <| ml_rI (mk := ml_i) hr dX10_claim_26 (fun _ => trivial) h) (fun _ h => ml_aload_n dX10_claim_10 0 rfl <| ml_iload_n dX10_claim_11 2 rfl <| ml_ck_of h fun hc3639 h => ml_b1_of h fun r3640 hv3638 h => ml_callV dX10_claim_12 wm_317 wb_225 hc3639 (sX10_isTrunk hv3638) rfl (Nat.le_of_ble_eq_true rfl) (Nat.le_of_ble_eq_true rfl) rfl <| ml_if_eq dX10_claim_15 h (fun _ h => ml_iconst dX10_claim_25 kc_im1 <| ml_rI (mk := ml_i) hr dX10_claim_26 (fun _ => trivial) h) (fun _ h => ml_iload_n dX10_claim_18 3 rfl <| ml_b1_of h fun r3642 hv3641 h => ml_callS dX10_claim_19 wm_128 wb_97 (sX10_isRow hv3641) rfl (Nat.le_of_ble_eq_true rfl) (Nat.le_of_ble_eq_true rfl) rfl <| ml_if_ne dX10_claim_22 h (fun _ h => ml_aload_n dX10_claim_27 0 rfl <| ml_getR dX10_claim_28 wb_98 hc3639 <| ml_lx (mk := ml_r) h fun a3643 h => ml_iload_n dX10_claim_31 3 rfl <| ml_ck_of h fun hi3644 h => ml_aald (kd := 23) dX10_claim_32 (by decide) hi3644 <| ml_lx (mk := ml_r) h fun a3645 h => ml_astore (lv' := [(4, ml_r a3645), (0, ml_r l0), (1, ml_i l1), (2, ml_i l2), (3, ml_i l3)]) dX10_claim_33 (ml_hn hL rfl) rfl <| ml_aload dX10_claim_35 0 rfl <| ml_ifnonnull dX10_claim_37 h (fun _ h => ml_aload dX10_claim_46 0 rfl <| ml_ck_of h fun hc3646 h => ml_alen (kd := 20) dX10_claim_48 (by decide) hc3646 <| ml_if_eq dX10_claim_49 h (fun _ h => ml_V.sub [1] rfl (vX10_claim_60 hL hr  _ _ h)) (fun _ h => ml_aload dX10_claim_52 0 rfl <| ml_alen (kd := 20) dX10_claim_54 (by decide) hc3646 <| ml_iconst dX10_claim_55 kc_i2 <| ml_irem dX10_claim_56 (by decide) <| ml_if_eq dX10_claim_57 h (fun _ h => ml_aload_n dX10_claim_66 1 rfl <| ml_getI dX10_claim_67 wb_471 hc3639 <| ml_bipush dX10_claim_70 kc_b8 <| ml_icmp_lt dX10_claim_72 h (fun _ h => ml_iconst dX10_claim_78 kc_i0 <| ml_istore (lv' := [(5, ml_i (0 : Int32)), (4, ml_r a3645), (0, ml_r l0), (1, ml_i l1), (2, ml_i l2), (3, ml_i l3)]) dX10_claim_79 (ml_hn hL rfl) rfl <| ml_V.sub [2, 3, 4, 1, 0] rfl (vX10_claim_81 hL hr  ml_fu _ _ _ _ _ _ h)) (fun _ h => ml_bipush dX10_claim_75 kc_bm2 <| ml_rI (mk := ml_i) hr dX10_claim_77 (fun _ => trivial) h)) (fun _ h => ml_V.sub [1] rfl (vX10_claim_60 hL hr  _ _ h)))) (fun _ h => ml_aload_n dX10_claim_40 1 rfl <| ml_iconst dX10_claim_41 kc_i1 <| ml_b2_of h fun r3648 m3649 hv3647 h => ml_callV dX10_claim_42 wm_132 wb_99 hc3639 (sX10_found hv3647) rfl (Nat.le_of_ble_eq_true rfl) (Nat.le_of_ble_eq_true rfl) rfl <| ml_rI (mk := ml_i) hr dX10_claim_45 (fun _ => trivial) h)) (fun _ h => ml_iconst dX10_claim_25 kc_im1 <| ml_rI (mk := ml_i) hr dX10_claim_26 (fun _ => trivial) h)))
theorem sX10_claim {l0 : Nat} {l1 : Int32} {l2 : Int32} {l3 : Int32} {m : ml_M} {rv : Int32} {rm : ml_M} (h : fX10_claim l0 l1 l2 l3 m = some (rv, rm)) : ml_Sn yX10_claim cX10_claim 6 (some .int) 4 [ml_r l0, ml_i l1, ml_i l2, ml_i l3] m (some (ml_i rv)) rm :=
  ml_Sn_of (P := True) (ini := false) (by decide +kernel) (Nat.le_of_ble_eq_true rfl) (fun h => by cases h) (fun _ => ml_RkI rv) fun E hL hr => wX10_claim_0 hL hr _ _ _ _ _ h
theorem dX11_claim_0 : ml_d cX11_claim 0 (.iload_n 1) 1 1 := ⟨by decide +kernel, rfl⟩
theorem dX11_claim_1 : ml_d cX11_claim 1 (.iconst 0) 1 2 := ⟨by decide +kernel, rfl⟩
theorem dX11_claim_2 : ml_d cX11_claim 2 (.bipush 9) 2 4 := ⟨by decide +kernel, rfl⟩
theorem dX11_claim_4 : ml_d cX11_claim 4 (.invokestatic 100) 3 7 := ⟨by decide +kernel, rfl⟩
theorem dX11_claim_7 : ml_j cX11_claim 7 (.ifCond .eq) 25 10 := ⟨18, by decide +kernel, by decide, rfl⟩
theorem dX11_claim_10 : ml_d cX11_claim 10 (.aload_n 0) 1 11 := ⟨by decide +kernel, rfl⟩
theorem dX11_claim_11 : ml_d cX11_claim 11 (.iload_n 2) 1 12 := ⟨by decide +kernel, rfl⟩
theorem dX11_claim_12 : ml_d cX11_claim 12 (.invokevirtual 199) 3 15 := ⟨by decide +kernel, rfl⟩
theorem dX11_claim_15 : ml_j cX11_claim 15 (.ifCond .eq) 25 18 := ⟨10, by decide +kernel, by decide, rfl⟩
theorem dX11_claim_18 : ml_d cX11_claim 18 (.iload_n 3) 1 19 := ⟨by decide +kernel, rfl⟩
theorem dX11_claim_19 : ml_d cX11_claim 19 (.invokestatic 111) 3 22 := ⟨by decide +kernel, rfl⟩
theorem dX11_claim_22 : ml_j cX11_claim 22 (.ifCond .ne) 27 25 := ⟨5, by decide +kernel, by decide, rfl⟩
theorem dX11_claim_25 : ml_d cX11_claim 25 (.iconst (-1)) 1 26 := ⟨by decide +kernel, rfl⟩
theorem dX11_claim_26 : ml_d cX11_claim 26 (.ireturn) 1 27 := ⟨by decide +kernel, rfl⟩
theorem dX11_claim_27 : ml_d cX11_claim 27 (.aload_n 0) 1 28 := ⟨by decide +kernel, rfl⟩
theorem dX11_claim_28 : ml_d cX11_claim 28 (.getfield 13) 3 31 := ⟨by decide +kernel, rfl⟩
theorem dX11_claim_31 : ml_d cX11_claim 31 (.iload_n 3) 1 32 := ⟨by decide +kernel, rfl⟩
theorem dX11_claim_32 : ml_d cX11_claim 32 (.iaload) 1 33 := ⟨by decide +kernel, rfl⟩
theorem dX11_claim_33 : ml_j cX11_claim 33 (.ifCond .ge) 42 36 := ⟨9, by decide +kernel, by decide, rfl⟩
theorem dX11_claim_36 : ml_d cX11_claim 36 (.aload_n 0) 1 37 := ⟨by decide +kernel, rfl⟩
theorem dX11_claim_37 : ml_d cX11_claim 37 (.iconst 1) 1 38 := ⟨by decide +kernel, rfl⟩
theorem dX11_claim_38 : ml_d cX11_claim 38 (.invokevirtual 115) 3 41 := ⟨by decide +kernel, rfl⟩
theorem dX11_claim_41 : ml_d cX11_claim 41 (.ireturn) 1 42 := ⟨by decide +kernel, rfl⟩
theorem dX11_claim_42 : ml_d cX11_claim 42 (.aload_n 0) 1 43 := ⟨by decide +kernel, rfl⟩
theorem dX11_claim_43 : ml_d cX11_claim 43 (.getfield 13) 3 46 := ⟨by decide +kernel, rfl⟩
theorem dX11_claim_46 : ml_d cX11_claim 46 (.iload_n 3) 1 47 := ⟨by decide +kernel, rfl⟩
theorem dX11_claim_47 : ml_d cX11_claim 47 (.iaload) 1 48 := ⟨by decide +kernel, rfl⟩
theorem dX11_claim_48 : ml_j cX11_claim 48 (.ifCond .eq) 63 51 := ⟨15, by decide +kernel, by decide, rfl⟩
theorem dX11_claim_51 : ml_d cX11_claim 51 (.aload_n 0) 1 52 := ⟨by decide +kernel, rfl⟩
theorem dX11_claim_52 : ml_d cX11_claim 52 (.getfield 13) 3 55 := ⟨by decide +kernel, rfl⟩
theorem dX11_claim_55 : ml_d cX11_claim 55 (.iload_n 3) 1 56 := ⟨by decide +kernel, rfl⟩
theorem dX11_claim_56 : ml_d cX11_claim 56 (.iaload) 1 57 := ⟨by decide +kernel, rfl⟩
theorem dX11_claim_57 : ml_d cX11_claim 57 (.iconst 2) 1 58 := ⟨by decide +kernel, rfl⟩
theorem dX11_claim_58 : ml_d cX11_claim 58 (.irem) 1 59 := ⟨by decide +kernel, rfl⟩
theorem dX11_claim_59 : ml_d cX11_claim 59 (.iconst 1) 1 60 := ⟨by decide +kernel, rfl⟩
theorem dX11_claim_60 : ml_j cX11_claim 60 (.if_icmp .ne) 69 63 := ⟨9, by decide +kernel, by decide, rfl⟩
theorem dX11_claim_63 : ml_d cX11_claim 63 (.aload_n 0) 1 64 := ⟨by decide +kernel, rfl⟩
theorem dX11_claim_64 : ml_d cX11_claim 64 (.iconst 5) 1 65 := ⟨by decide +kernel, rfl⟩
theorem dX11_claim_65 : ml_d cX11_claim 65 (.invokevirtual 115) 3 68 := ⟨by decide +kernel, rfl⟩
theorem dX11_claim_68 : ml_d cX11_claim 68 (.ireturn) 1 69 := ⟨by decide +kernel, rfl⟩
theorem dX11_claim_69 : ml_d cX11_claim 69 (.aload_n 0) 1 70 := ⟨by decide +kernel, rfl⟩
theorem dX11_claim_70 : ml_d cX11_claim 70 (.getfield 190) 3 73 := ⟨by decide +kernel, rfl⟩
theorem dX11_claim_73 : ml_d cX11_claim 73 (.bipush 8) 2 75 := ⟨by decide +kernel, rfl⟩
theorem dX11_claim_75 : ml_j cX11_claim 75 (.if_icmp .ne) 81 78 := ⟨6, by decide +kernel, by decide, rfl⟩
theorem dX11_claim_78 : ml_d cX11_claim 78 (.bipush (-2)) 2 80 := ⟨by decide +kernel, rfl⟩
theorem dX11_claim_80 : ml_d cX11_claim 80 (.ireturn) 1 81 := ⟨by decide +kernel, rfl⟩
theorem dX11_claim_81 : ml_d cX11_claim 81 (.iconst 1) 1 82 := ⟨by decide +kernel, rfl⟩
theorem dX11_claim_82 : ml_d cX11_claim 82 (.istore 4) 2 84 := ⟨by decide +kernel, rfl⟩
theorem dX11_claim_84 : ml_d cX11_claim 84 (.iconst 0) 1 85 := ⟨by decide +kernel, rfl⟩
theorem dX11_claim_85 : ml_d cX11_claim 85 (.istore 5) 2 87 := ⟨by decide +kernel, rfl⟩
theorem dX11_claim_87 : ml_d cX11_claim 87 (.iload 5) 2 89 := ⟨by decide +kernel, rfl⟩
theorem dX11_claim_89 : ml_d cX11_claim 89 (.aload_n 0) 1 90 := ⟨by decide +kernel, rfl⟩
theorem dX11_claim_90 : ml_d cX11_claim 90 (.getfield 13) 3 93 := ⟨by decide +kernel, rfl⟩
theorem dX11_claim_93 : ml_d cX11_claim 93 (.iload_n 3) 1 94 := ⟨by decide +kernel, rfl⟩
theorem dX11_claim_94 : ml_d cX11_claim 94 (.iaload) 1 95 := ⟨by decide +kernel, rfl⟩
theorem dX11_claim_95 : ml_j cX11_claim 95 (.if_icmp .ge) 131 98 := ⟨36, by decide +kernel, by decide, rfl⟩
theorem dX11_claim_98 : ml_d cX11_claim 98 (.iload 4) 2 100 := ⟨by decide +kernel, rfl⟩
theorem dX11_claim_100 : ml_j cX11_claim 100 (.ifCond .eq) 122 103 := ⟨22, by decide +kernel, by decide, rfl⟩
theorem dX11_claim_103 : ml_d cX11_claim 103 (.aload_n 0) 1 104 := ⟨by decide +kernel, rfl⟩
theorem dX11_claim_104 : ml_d cX11_claim 104 (.iload_n 3) 1 105 := ⟨by decide +kernel, rfl⟩
theorem dX11_claim_105 : ml_d cX11_claim 105 (.iload 5) 2 107 := ⟨by decide +kernel, rfl⟩
theorem dX11_claim_107 : ml_d cX11_claim 107 (.invokevirtual 119) 3 110 := ⟨by decide +kernel, rfl⟩
theorem dX11_claim_110 : ml_d cX11_claim 110 (.iconst 1) 1 111 := ⟨by decide +kernel, rfl⟩
theorem dX11_claim_111 : ml_d cX11_claim 111 (.iconst 5) 1 112 := ⟨by decide +kernel, rfl⟩
theorem dX11_claim_112 : ml_d cX11_claim 112 (.invokestatic 100) 3 115 := ⟨by decide +kernel, rfl⟩
theorem dX11_claim_115 : ml_j cX11_claim 115 (.ifCond .eq) 122 118 := ⟨7, by decide +kernel, by decide, rfl⟩
theorem dX11_claim_118 : ml_d cX11_claim 118 (.iconst 1) 1 119 := ⟨by decide +kernel, rfl⟩
theorem dX11_claim_119 : ml_j cX11_claim 119 .goto 123 122 := ⟨4, by decide +kernel, by decide, rfl⟩
theorem dX11_claim_122 : ml_d cX11_claim 122 (.iconst 0) 1 123 := ⟨by decide +kernel, rfl⟩
theorem dX11_claim_123 : ml_d cX11_claim 123 (.istore 4) 2 125 := ⟨by decide +kernel, rfl⟩
theorem dX11_claim_125 : ml_d cX11_claim 125 (.iinc 5 2) 3 128 := ⟨by decide +kernel, rfl⟩
theorem dX11_claim_128 : ml_j cX11_claim 128 .goto 87 131 := ⟨(-41), by decide +kernel, by decide, rfl⟩
theorem dX11_claim_131 : ml_d cX11_claim 131 (.iload 4) 2 133 := ⟨by decide +kernel, rfl⟩
theorem dX11_claim_133 : ml_j cX11_claim 133 (.ifCond .ne) 142 136 := ⟨9, by decide +kernel, by decide, rfl⟩
theorem dX11_claim_136 : ml_d cX11_claim 136 (.aload_n 0) 1 137 := ⟨by decide +kernel, rfl⟩
theorem dX11_claim_137 : ml_d cX11_claim 137 (.iconst 3) 1 138 := ⟨by decide +kernel, rfl⟩
theorem dX11_claim_138 : ml_d cX11_claim 138 (.invokevirtual 115) 3 141 := ⟨by decide +kernel, rfl⟩
theorem dX11_claim_141 : ml_d cX11_claim 141 (.ireturn) 1 142 := ⟨by decide +kernel, rfl⟩
theorem dX11_claim_142 : ml_d cX11_claim 142 (.bipush 51) 2 144 := ⟨by decide +kernel, rfl⟩
theorem dX11_claim_144 : ml_d cX11_claim 144 (.aload_n 0) 1 145 := ⟨by decide +kernel, rfl⟩
theorem dX11_claim_145 : ml_d cX11_claim 145 (.getfield 190) 3 148 := ⟨by decide +kernel, rfl⟩
theorem dX11_claim_148 : ml_d cX11_claim 148 (.imul) 1 149 := ⟨by decide +kernel, rfl⟩
theorem dX11_claim_149 : ml_d cX11_claim 149 (.istore 5) 2 151 := ⟨by decide +kernel, rfl⟩
theorem dX11_claim_151 : ml_d cX11_claim 151 (.aload_n 0) 1 152 := ⟨by decide +kernel, rfl⟩
theorem dX11_claim_152 : ml_d cX11_claim 152 (.getfield 90) 3 155 := ⟨by decide +kernel, rfl⟩
theorem dX11_claim_155 : ml_d cX11_claim 155 (.iload 5) 2 157 := ⟨by decide +kernel, rfl⟩
theorem dX11_claim_157 : ml_d cX11_claim 157 (.iload_n 1) 1 158 := ⟨by decide +kernel, rfl⟩
theorem dX11_claim_158 : ml_d cX11_claim 158 (.iastore) 1 159 := ⟨by decide +kernel, rfl⟩
theorem dX11_claim_159 : ml_d cX11_claim 159 (.aload_n 0) 1 160 := ⟨by decide +kernel, rfl⟩
theorem dX11_claim_160 : ml_d cX11_claim 160 (.getfield 90) 3 163 := ⟨by decide +kernel, rfl⟩
theorem dX11_claim_163 : ml_d cX11_claim 163 (.iload 5) 2 165 := ⟨by decide +kernel, rfl⟩
theorem dX11_claim_165 : ml_d cX11_claim 165 (.iconst 1) 1 166 := ⟨by decide +kernel, rfl⟩
theorem dX11_claim_166 : ml_d cX11_claim 166 (.iadd) 1 167 := ⟨by decide +kernel, rfl⟩
theorem dX11_claim_167 : ml_d cX11_claim 167 (.iload_n 2) 1 168 := ⟨by decide +kernel, rfl⟩
theorem dX11_claim_168 : ml_d cX11_claim 168 (.iastore) 1 169 := ⟨by decide +kernel, rfl⟩
theorem dX11_claim_169 : ml_d cX11_claim 169 (.aload_n 0) 1 170 := ⟨by decide +kernel, rfl⟩
theorem dX11_claim_170 : ml_d cX11_claim 170 (.getfield 90) 3 173 := ⟨by decide +kernel, rfl⟩
theorem dX11_claim_173 : ml_d cX11_claim 173 (.iload 5) 2 175 := ⟨by decide +kernel, rfl⟩
theorem dX11_claim_175 : ml_d cX11_claim 175 (.iconst 2) 1 176 := ⟨by decide +kernel, rfl⟩
theorem dX11_claim_176 : ml_d cX11_claim 176 (.iadd) 1 177 := ⟨by decide +kernel, rfl⟩
theorem dX11_claim_177 : ml_d cX11_claim 177 (.aload_n 0) 1 178 := ⟨by decide +kernel, rfl⟩
theorem dX11_claim_178 : ml_d cX11_claim 178 (.getfield 13) 3 181 := ⟨by decide +kernel, rfl⟩
theorem dX11_claim_181 : ml_d cX11_claim 181 (.iload_n 3) 1 182 := ⟨by decide +kernel, rfl⟩
theorem dX11_claim_182 : ml_d cX11_claim 182 (.iaload) 1 183 := ⟨by decide +kernel, rfl⟩
theorem dX11_claim_183 : ml_d cX11_claim 183 (.iconst 2) 1 184 := ⟨by decide +kernel, rfl⟩
theorem dX11_claim_184 : ml_d cX11_claim 184 (.idiv) 1 185 := ⟨by decide +kernel, rfl⟩
theorem dX11_claim_185 : ml_d cX11_claim 185 (.iastore) 1 186 := ⟨by decide +kernel, rfl⟩
theorem dX11_claim_186 : ml_d cX11_claim 186 (.iconst 0) 1 187 := ⟨by decide +kernel, rfl⟩
theorem dX11_claim_187 : ml_d cX11_claim 187 (.istore 6) 2 189 := ⟨by decide +kernel, rfl⟩
theorem dX11_claim_189 : ml_d cX11_claim 189 (.iload 6) 2 191 := ⟨by decide +kernel, rfl⟩
theorem dX11_claim_191 : ml_d cX11_claim 191 (.bipush 48) 2 193 := ⟨by decide +kernel, rfl⟩
theorem dX11_claim_193 : ml_j cX11_claim 193 (.if_icmp .ge) 236 196 := ⟨43, by decide +kernel, by decide, rfl⟩
theorem dX11_claim_196 : ml_d cX11_claim 196 (.aload_n 0) 1 197 := ⟨by decide +kernel, rfl⟩
theorem dX11_claim_197 : ml_d cX11_claim 197 (.getfield 90) 3 200 := ⟨by decide +kernel, rfl⟩
theorem dX11_claim_200 : ml_d cX11_claim 200 (.iload 5) 2 202 := ⟨by decide +kernel, rfl⟩
theorem dX11_claim_202 : ml_d cX11_claim 202 (.iconst 3) 1 203 := ⟨by decide +kernel, rfl⟩
theorem dX11_claim_203 : ml_d cX11_claim 203 (.iadd) 1 204 := ⟨by decide +kernel, rfl⟩
theorem dX11_claim_204 : ml_d cX11_claim 204 (.iload 6) 2 206 := ⟨by decide +kernel, rfl⟩
theorem dX11_claim_206 : ml_d cX11_claim 206 (.iadd) 1 207 := ⟨by decide +kernel, rfl⟩
theorem dX11_claim_207 : ml_d cX11_claim 207 (.iload 6) 2 209 := ⟨by decide +kernel, rfl⟩
theorem dX11_claim_209 : ml_d cX11_claim 209 (.aload_n 0) 1 210 := ⟨by decide +kernel, rfl⟩
theorem dX11_claim_210 : ml_d cX11_claim 210 (.getfield 13) 3 213 := ⟨by decide +kernel, rfl⟩
theorem dX11_claim_213 : ml_d cX11_claim 213 (.iload_n 3) 1 214 := ⟨by decide +kernel, rfl⟩
theorem dX11_claim_214 : ml_d cX11_claim 214 (.iaload) 1 215 := ⟨by decide +kernel, rfl⟩
theorem dX11_claim_215 : ml_j cX11_claim 215 (.if_icmp .ge) 228 218 := ⟨13, by decide +kernel, by decide, rfl⟩
theorem dX11_claim_218 : ml_d cX11_claim 218 (.aload_n 0) 1 219 := ⟨by decide +kernel, rfl⟩
theorem dX11_claim_219 : ml_d cX11_claim 219 (.iload_n 3) 1 220 := ⟨by decide +kernel, rfl⟩
theorem dX11_claim_220 : ml_d cX11_claim 220 (.iload 6) 2 222 := ⟨by decide +kernel, rfl⟩
theorem dX11_claim_222 : ml_d cX11_claim 222 (.invokevirtual 119) 3 225 := ⟨by decide +kernel, rfl⟩
theorem dX11_claim_225 : ml_j cX11_claim 225 .goto 229 228 := ⟨4, by decide +kernel, by decide, rfl⟩
theorem dX11_claim_228 : ml_d cX11_claim 228 (.iconst 0) 1 229 := ⟨by decide +kernel, rfl⟩
theorem dX11_claim_229 : ml_d cX11_claim 229 (.iastore) 1 230 := ⟨by decide +kernel, rfl⟩
theorem dX11_claim_230 : ml_d cX11_claim 230 (.iinc 6 1) 3 233 := ⟨by decide +kernel, rfl⟩
theorem dX11_claim_233 : ml_j cX11_claim 233 .goto 189 236 := ⟨(-44), by decide +kernel, by decide, rfl⟩
theorem dX11_claim_236 : ml_d cX11_claim 236 (.aload_n 0) 1 237 := ⟨by decide +kernel, rfl⟩
theorem dX11_claim_237 : ml_d cX11_claim 237 (.dup) 1 238 := ⟨by decide +kernel, rfl⟩
theorem dX11_claim_238 : ml_d cX11_claim 238 (.getfield 190) 3 241 := ⟨by decide +kernel, rfl⟩
theorem dX11_claim_241 : ml_d cX11_claim 241 (.iconst 1) 1 242 := ⟨by decide +kernel, rfl⟩
theorem dX11_claim_242 : ml_d cX11_claim 242 (.iadd) 1 243 := ⟨by decide +kernel, rfl⟩
theorem dX11_claim_243 : ml_d cX11_claim 243 (.putfield 190) 3 246 := ⟨by decide +kernel, rfl⟩
theorem dX11_claim_246 : ml_d cX11_claim 246 (.aload_n 0) 1 247 := ⟨by decide +kernel, rfl⟩
theorem dX11_claim_247 : ml_d cX11_claim 247 (.getfield 190) 3 250 := ⟨by decide +kernel, rfl⟩
theorem dX11_claim_250 : ml_d cX11_claim 250 (.iconst 1) 1 251 := ⟨by decide +kernel, rfl⟩
theorem dX11_claim_251 : ml_d cX11_claim 251 (.isub) 1 252 := ⟨by decide +kernel, rfl⟩
theorem dX11_claim_252 : ml_d cX11_claim 252 (.ireturn) 1 253 := ⟨by decide +kernel, rfl⟩
def fX11_claim_63 (l0 : Nat) (m : ml_M) : Option (Int32 × ml_M) :=
    if (ml_K m l0).1 = 11 then
    ml_b2 (fX11_meets l0 (5 : Int32) m) fun r3652 m3653 =>
    some (r3652, m3653)
    else none
theorem vX11_claim_63 {E : ml_E} (hL : ml_eL E = 7) {rv : Int32} {rm : ml_M} (hr : ∀ (pc pc' : Nat) (lv : List (Nat × ml_X)), ml_d cX11_claim pc .ireturn 1 pc' → True → ml_V E "LostRoomModel" cX11_claim 4 false rm pc lv [ml_i rv]) : ∀ (l0 : Nat) (m : ml_M), fX11_claim_63 l0 m = some (rv, rm) → ml_V E "LostRoomModel" cX11_claim 4 false m 63 [(0, ml_r l0)] [] := by
  intro l0 m h
  unfold fX11_claim_63 at h
  exact ml_aload_n dX11_claim_63 0 rfl <| ml_iconst dX11_claim_64 kc_i5 <| ml_ck_of h fun hc3651 h => ml_b2_of h fun r3652 m3653 hv3650 h => ml_callV dX11_claim_65 wm_144 wb_105 hc3651 (sX11_meets hv3650) rfl (Nat.le_of_ble_eq_true rfl) (Nat.le_of_ble_eq_true rfl) rfl <| ml_rI (mk := ml_i) hr dX11_claim_68 (fun _ => trivial) h
def fX11_claim_123 (k87 : Nat → Int32 → Int32 → Int32 → Int32 → Int32 → ml_M → Option (Int32 × ml_M)) (l0 : Nat) (l1 : Int32) (l2 : Int32) (l3 : Int32) (l5 : Int32) (t0 : Int32) (m : ml_M) : Option (Int32 × ml_M) :=
    k87 l0 l1 l2 l3 t0 (l5 + (2 : Int32)) m
theorem vX11_claim_123 {E : ml_E} (hL : ml_eL E = 7) {rv : Int32} {rm : ml_M} (hr : ∀ (pc pc' : Nat) (lv : List (Nat × ml_X)), ml_d cX11_claim pc .ireturn 1 pc' → True → ml_V E "LostRoomModel" cX11_claim 4 false rm pc lv [ml_i rv]) {k87 : Nat → Int32 → Int32 → Int32 → Int32 → Int32 → ml_M → Option (Int32 × ml_M)} (hk87 : ∀ (l0 : Nat) (l1 : Int32) (l2 : Int32) (l3 : Int32) (l4 : Int32) (l5 : Int32) (m : ml_M), k87 l0 l1 l2 l3 l4 l5 m = some (rv, rm) → ml_V E "LostRoomModel" cX11_claim 4 false m 87 [(0, ml_r l0), (1, ml_i l1), (2, ml_i l2), (3, ml_i l3), (4, ml_i l4), (5, ml_i l5)] []) : ∀ (l0 : Nat) (l1 : Int32) (l2 : Int32) (l3 : Int32) (l5 : Int32) (t0 : Int32) (m : ml_M), fX11_claim_123 k87 l0 l1 l2 l3 l5 t0 m = some (rv, rm) → ml_V E "LostRoomModel" cX11_claim 4 false m 123 [(0, ml_r l0), (1, ml_i l1), (2, ml_i l2), (3, ml_i l3), (5, ml_i l5)] [ml_i t0] := by
  intro l0 l1 l2 l3 l5 t0 m h
  unfold fX11_claim_123 at h
  exact ml_istore (lv' := [(4, ml_i t0), (0, ml_r l0), (1, ml_i l1), (2, ml_i l2), (3, ml_i l3), (5, ml_i l5)]) dX11_claim_123 (ml_hn hL rfl) rfl <| ml_iinc (lv' := [(5, ml_i (l5 + (2 : Int32))), (4, ml_i t0), (0, ml_r l0), (1, ml_i l1), (2, ml_i l2), (3, ml_i l3)]) dX11_claim_125 5 rfl (congrArg (l5 + ·) kc_i2) (ml_hn hL rfl) rfl <| ml_goto dX11_claim_128 <| ml_V.sub [2, 3, 4, 5, 1, 0] rfl (hk87 _ _ _ _ _ _ _ h)
def fX11_claim_122 (k87 : Nat → Int32 → Int32 → Int32 → Int32 → Int32 → ml_M → Option (Int32 × ml_M)) (l0 : Nat) (l1 : Int32) (l2 : Int32) (l3 : Int32) (l5 : Int32) (m : ml_M) : Option (Int32 × ml_M) :=
    fX11_claim_123 k87 l0 l1 l2 l3 l5 (0 : Int32) m
theorem vX11_claim_122 {E : ml_E} (hL : ml_eL E = 7) {rv : Int32} {rm : ml_M} (hr : ∀ (pc pc' : Nat) (lv : List (Nat × ml_X)), ml_d cX11_claim pc .ireturn 1 pc' → True → ml_V E "LostRoomModel" cX11_claim 4 false rm pc lv [ml_i rv]) {k87 : Nat → Int32 → Int32 → Int32 → Int32 → Int32 → ml_M → Option (Int32 × ml_M)} (hk87 : ∀ (l0 : Nat) (l1 : Int32) (l2 : Int32) (l3 : Int32) (l4 : Int32) (l5 : Int32) (m : ml_M), k87 l0 l1 l2 l3 l4 l5 m = some (rv, rm) → ml_V E "LostRoomModel" cX11_claim 4 false m 87 [(0, ml_r l0), (1, ml_i l1), (2, ml_i l2), (3, ml_i l3), (4, ml_i l4), (5, ml_i l5)] []) : ∀ (l0 : Nat) (l1 : Int32) (l2 : Int32) (l3 : Int32) (l5 : Int32) (m : ml_M), fX11_claim_122 k87 l0 l1 l2 l3 l5 m = some (rv, rm) → ml_V E "LostRoomModel" cX11_claim 4 false m 122 [(0, ml_r l0), (1, ml_i l1), (2, ml_i l2), (3, ml_i l3), (5, ml_i l5)] [] := by
  intro l0 l1 l2 l3 l5 m h
  unfold fX11_claim_122 at h
  exact ml_iconst dX11_claim_122 kc_i0 <| ml_V.sub [0, 1, 2, 3, 4] rfl (vX11_claim_123 hL hr hk87 _ _ _ _ _ _ _ h)
def fX11_claim_229 (k189 : Nat → Int32 → Int32 → Int32 → ml_M → Option (Int32 × ml_M)) (l0 : Nat) (l3 : Int32) (l5 : Int32) (l6 : Int32) (t0 : Int32) (t1 : Int32) (t2 : Nat) (m : ml_M) : Option (Int32 × ml_M) :=
    if ml_in m t2 20 t1 then
    ml_let (ml_sI m t2 t1.toNatClampNeg t0) fun m3655 =>
    k189 l0 l3 l5 (l6 + (1 : Int32)) m3655
    else none
theorem vX11_claim_229 {E : ml_E} (hL : ml_eL E = 7) {rv : Int32} {rm : ml_M} (hr : ∀ (pc pc' : Nat) (lv : List (Nat × ml_X)), ml_d cX11_claim pc .ireturn 1 pc' → True → ml_V E "LostRoomModel" cX11_claim 4 false rm pc lv [ml_i rv]) {k189 : Nat → Int32 → Int32 → Int32 → ml_M → Option (Int32 × ml_M)} (hk189 : ∀ (l0 : Nat) (l3 : Int32) (l5 : Int32) (l6 : Int32) (m : ml_M), k189 l0 l3 l5 l6 m = some (rv, rm) → ml_V E "LostRoomModel" cX11_claim 4 false m 189 [(0, ml_r l0), (3, ml_i l3), (5, ml_i l5), (6, ml_i l6)] []) : ∀ (l0 : Nat) (l3 : Int32) (l5 : Int32) (l6 : Int32) (t0 : Int32) (t1 : Int32) (t2 : Nat) (m : ml_M), fX11_claim_229 k189 l0 l3 l5 l6 t0 t1 t2 m = some (rv, rm) → ml_V E "LostRoomModel" cX11_claim 4 false m 229 [(0, ml_r l0), (3, ml_i l3), (5, ml_i l5), (6, ml_i l6)] [ml_i t0, ml_i t1, ml_r t2] := by
  intro l0 l3 l5 l6 t0 t1 t2 m h
  unfold fX11_claim_229 at h
  exact ml_ck_of h fun hi3654 h => ml_iast dX11_claim_229 hi3654 <| ml_lt (m := m) rfl h fun m3655 em3656 h => ml_iinc (lv' := [(6, ml_i (l6 + (1 : Int32))), (0, ml_r l0), (3, ml_i l3), (5, ml_i l5)]) dX11_claim_230 3 rfl (congrArg (l6 + ·) kc_i1) (ml_hn hL rfl) rfl <| ml_goto dX11_claim_233 <| ml_V.sub [1, 2, 3, 0] rfl (hk189 _ _ _ _ _ h)
def fX11_claim_236 (l0 : Nat) (m : ml_M) : Option (Int32 × ml_M) :=
    if (ml_K m l0).1 = 11 then
    ml_let (ml_sI m l0 46 ((ml_I m l0 46) + (1 : Int32))) fun m3658 =>
    some (((ml_I m3658 l0 46) - (1 : Int32)), m3658)
    else none
theorem vX11_claim_236 {E : ml_E} (hL : ml_eL E = 7) {rv : Int32} {rm : ml_M} (hr : ∀ (pc pc' : Nat) (lv : List (Nat × ml_X)), ml_d cX11_claim pc .ireturn 1 pc' → True → ml_V E "LostRoomModel" cX11_claim 4 false rm pc lv [ml_i rv]) : ∀ (l0 : Nat) (m : ml_M), fX11_claim_236 l0 m = some (rv, rm) → ml_V E "LostRoomModel" cX11_claim 4 false m 236 [(0, ml_r l0)] [] := by
  intro l0 m h
  unfold fX11_claim_236 at h
  exact ml_aload_n dX11_claim_236 0 rfl <| ml_dup dX11_claim_237 rfl <| ml_ck_of h fun hc3657 h => ml_getI dX11_claim_238 wb_475 hc3657 <| ml_iconst dX11_claim_241 kc_i1 <| ml_iadd dX11_claim_242 <| ml_putI dX11_claim_243 wb_195 hc3657 <| ml_lt (m := m) rfl h fun m3658 em3659 h => ml_aload_n dX11_claim_246 0 rfl <| ml_getI dX11_claim_247 wb_475 (ml_kk em3659 hc3657) <| ml_iconst dX11_claim_250 kc_i1 <| ml_isub dX11_claim_251 <| ml_rI (mk := ml_i) hr dX11_claim_252 (fun _ => trivial) h
def fX11_claim_189 : Nat → Nat → Int32 → Int32 → Int32 → ml_M → Option (Int32 × ml_M)
  | 0, _, _, _, _, _ => none
  | fu + 1, l0, l3, l5, l6, m =>
    if (48 : Int32) ≤ l6 then
    fX11_claim_236 l0 m
    else
    if (ml_K m l0).1 = 11 then
    ml_let (ml_R m l0 47) fun a3661 =>
    ml_let (ml_R m l0 4) fun a3662 =>
    if ml_in m a3662 20 l3 then
    if (ml_I m a3662 l3.toNatClampNeg) ≤ l6 then
    fX11_claim_229 (fX11_claim_189 fu) l0 l3 l5 l6 (0 : Int32) ((l5 + (3 : Int32)) + l6) a3661 m
    else
    ml_b1 (fX11_rowAt l0 l3 l6 m) fun r3665 =>
    fX11_claim_229 (fX11_claim_189 fu) l0 l3 l5 l6 r3665 ((l5 + (3 : Int32)) + l6) a3661 m
    else none
    else none
theorem vX11_claim_189 {E : ml_E} (hL : ml_eL E = 7) {rv : Int32} {rm : ml_M} (hr : ∀ (pc pc' : Nat) (lv : List (Nat × ml_X)), ml_d cX11_claim pc .ireturn 1 pc' → True → ml_V E "LostRoomModel" cX11_claim 4 false rm pc lv [ml_i rv]) : ∀ (fu : Nat) (l0 : Nat) (l3 : Int32) (l5 : Int32) (l6 : Int32) (m : ml_M), fX11_claim_189 fu l0 l3 l5 l6 m = some (rv, rm) → ml_V E "LostRoomModel" cX11_claim 4 false m 189 [(0, ml_r l0), (3, ml_i l3), (5, ml_i l5), (6, ml_i l6)] [] := by
  intro fu
  induction fu with
  | zero => intro l0 l3 l5 l6 m h; exact ml_none h
  | succ fu ih =>
    intro l0 l3 l5 l6 m h
    have hk189 := ih
    unfold fX11_claim_189 at h
    exact ml_iload dX11_claim_189 3 rfl <| ml_bipush dX11_claim_191 kc_b48 <| ml_icmp_ge dX11_claim_193 h (fun _ h => ml_V.sub [0] rfl (vX11_claim_236 hL hr  _ _ h)) (fun _ h => ml_aload_n dX11_claim_196 0 rfl <| ml_ck_of h fun hc3660 h => ml_getR dX11_claim_197 wb_476 hc3660 <| ml_lx (mk := ml_r) h fun a3661 h => ml_iload dX11_claim_200 2 rfl <| ml_iconst dX11_claim_202 kc_i3 <| ml_iadd dX11_claim_203 <| ml_iload dX11_claim_204 3 rfl <| ml_iadd dX11_claim_206 <| ml_iload dX11_claim_207 3 rfl <| ml_aload_n dX11_claim_209 0 rfl <| ml_getR dX11_claim_210 wb_64 hc3660 <| ml_lx (mk := ml_r) h fun a3662 h => ml_iload_n dX11_claim_213 1 rfl <| ml_ck_of h fun hi3663 h => ml_iald dX11_claim_214 hi3663 <| ml_icmp_ge dX11_claim_215 h (fun _ h => ml_iconst dX11_claim_228 kc_i0 <| ml_V.sub [0, 1, 2, 3] rfl (vX11_claim_229 hL hr hk189 _ _ _ _ _ _ _ _ h)) (fun _ h => ml_aload_n dX11_claim_218 0 rfl <| ml_iload_n dX11_claim_219 1 rfl <| ml_iload dX11_claim_220 3 rfl <| ml_b1_of h fun r3665 hv3664 h => ml_callV dX11_claim_222 wm_154 wb_109 hc3660 (sX11_rowAt hv3664) rfl (Nat.le_of_ble_eq_true rfl) (Nat.le_of_ble_eq_true rfl) rfl <| ml_goto dX11_claim_225 <| ml_V.sub [0, 1, 2, 3] rfl (vX11_claim_229 hL hr hk189 _ _ _ _ _ _ _ _ h)))
def fX11_claim_131 (l0 : Nat) (l1 : Int32) (l2 : Int32) (l3 : Int32) (l4 : Int32) (m : ml_M) : Option (Int32 × ml_M) :=
    if l4 = 0 then
    if (ml_K m l0).1 = 11 then
    ml_b2 (fX11_meets l0 (3 : Int32) m) fun r3684 m3685 =>
    some (r3684, m3685)
    else none
    else
    if (ml_K m l0).1 = 11 then
    ml_let ((51 : Int32) * (ml_I m l0 46)) fun x3667 =>
    ml_let (ml_R m l0 47) fun a3668 =>
    if ml_in m a3668 20 x3667 then
    ml_let (ml_sI m a3668 x3667.toNatClampNeg l1) fun m3670 =>
    ml_let (ml_R m3670 l0 47) fun a3672 =>
    if ml_in m3670 a3672 20 (x3667 + (1 : Int32)) then
    ml_let (ml_sI m3670 a3672 (x3667 + (1 : Int32)).toNatClampNeg l2) fun m3674 =>
    ml_let (ml_R m3674 l0 47) fun a3676 =>
    ml_let (ml_R m3674 l0 4) fun a3677 =>
    if ml_in m3674 a3677 20 l3 then
    if ml_in m3674 a3676 20 (x3667 + (2 : Int32)) then
    ml_let (ml_sI m3674 a3676 (x3667 + (2 : Int32)).toNatClampNeg ((ml_I m3674 a3677 l3.toNatClampNeg) / (2 : Int32))) fun m3680 =>
    fX11_claim_189 ml_fu l0 l3 x3667 (0 : Int32) m3680
    else none
    else none
    else none
    else none
    else none
theorem vX11_claim_131 {E : ml_E} (hL : ml_eL E = 7) {rv : Int32} {rm : ml_M} (hr : ∀ (pc pc' : Nat) (lv : List (Nat × ml_X)), ml_d cX11_claim pc .ireturn 1 pc' → True → ml_V E "LostRoomModel" cX11_claim 4 false rm pc lv [ml_i rv]) : ∀ (l0 : Nat) (l1 : Int32) (l2 : Int32) (l3 : Int32) (l4 : Int32) (m : ml_M), fX11_claim_131 l0 l1 l2 l3 l4 m = some (rv, rm) → ml_V E "LostRoomModel" cX11_claim 4 false m 131 [(0, ml_r l0), (1, ml_i l1), (2, ml_i l2), (3, ml_i l3), (4, ml_i l4)] [] := by
  intro l0 l1 l2 l3 l4 m h
  unfold fX11_claim_131 at h
  exact ml_iload dX11_claim_131 4 rfl <| ml_if_ne dX11_claim_133 h (fun _ h => ml_bipush dX11_claim_142 kc_b51 <| ml_aload_n dX11_claim_144 0 rfl <| ml_ck_of h fun hc3666 h => ml_getI dX11_claim_145 wb_475 hc3666 <| ml_imul dX11_claim_148 <| ml_lx (mk := ml_i) h fun x3667 h => ml_istore (lv' := [(5, ml_i x3667), (0, ml_r l0), (1, ml_i l1), (2, ml_i l2), (3, ml_i l3), (4, ml_i l4)]) dX11_claim_149 (ml_hn hL rfl) rfl <| ml_aload_n dX11_claim_151 1 rfl <| ml_getR dX11_claim_152 wb_476 hc3666 <| ml_lx (mk := ml_r) h fun a3668 h => ml_iload dX11_claim_155 0 rfl <| ml_iload_n dX11_claim_157 2 rfl <| ml_ck_of h fun hi3669 h => ml_iast dX11_claim_158 hi3669 <| ml_lt (m := m) rfl h fun m3670 em3671 h => ml_aload_n dX11_claim_159 1 rfl <| ml_getR dX11_claim_160 wb_476 (ml_kk em3671 hc3666) <| ml_lx (mk := ml_r) h fun a3672 h => ml_iload dX11_claim_163 0 rfl <| ml_iconst dX11_claim_165 kc_i1 <| ml_iadd dX11_claim_166 <| ml_iload_n dX11_claim_167 3 rfl <| ml_ck_of h fun hi3673 h => ml_iast dX11_claim_168 hi3673 <| ml_lt (m := m3670) rfl h fun m3674 em3675 h => ml_aload_n dX11_claim_169 1 rfl <| ml_getR dX11_claim_170 wb_476 (ml_kk em3675 (ml_kk em3671 hc3666)) <| ml_lx (mk := ml_r) h fun a3676 h => ml_iload dX11_claim_173 0 rfl <| ml_iconst dX11_claim_175 kc_i2 <| ml_iadd dX11_claim_176 <| ml_aload_n dX11_claim_177 1 rfl <| ml_getR dX11_claim_178 wb_64 (ml_kk em3675 (ml_kk em3671 hc3666)) <| ml_lx (mk := ml_r) h fun a3677 h => ml_iload_n dX11_claim_181 4 rfl <| ml_ck_of h fun hi3678 h => ml_iald dX11_claim_182 hi3678 <| ml_iconst dX11_claim_183 kc_i2 <| ml_idiv dX11_claim_184 (by decide) <| ml_ck_of h fun hi3679 h => ml_iast dX11_claim_185 hi3679 <| ml_lt (m := m3674) rfl h fun m3680 em3681 h => ml_iconst dX11_claim_186 kc_i0 <| ml_istore (lv' := [(6, ml_i (0 : Int32)), (5, ml_i x3667), (0, ml_r l0), (1, ml_i l1), (2, ml_i l2), (3, ml_i l3), (4, ml_i l4)]) dX11_claim_187 (ml_hn hL rfl) rfl <| ml_V.sub [2, 5, 1, 0] rfl (vX11_claim_189 hL hr  ml_fu _ _ _ _ _ h)) (fun _ h => ml_aload_n dX11_claim_136 0 rfl <| ml_iconst dX11_claim_137 kc_i3 <| ml_ck_of h fun hc3683 h => ml_b2_of h fun r3684 m3685 hv3682 h => ml_callV dX11_claim_138 wm_144 wb_105 hc3683 (sX11_meets hv3682) rfl (Nat.le_of_ble_eq_true rfl) (Nat.le_of_ble_eq_true rfl) rfl <| ml_rI (mk := ml_i) hr dX11_claim_141 (fun _ => trivial) h)
def fX11_claim_87 : Nat → Nat → Int32 → Int32 → Int32 → Int32 → Int32 → ml_M → Option (Int32 × ml_M)
  | 0, _, _, _, _, _, _, _ => none
  | fu + 1, l0, l1, l2, l3, l4, l5, m =>
    if (ml_K m l0).1 = 11 then
    ml_let (ml_R m l0 4) fun a3687 =>
    if ml_in m a3687 20 l3 then
    if (ml_I m a3687 l3.toNatClampNeg) ≤ l5 then
    fX11_claim_131 l0 l1 l2 l3 l4 m
    else
    if l4 = 0 then
    fX11_claim_122 (fX11_claim_87 fu) l0 l1 l2 l3 l5 m
    else
    ml_b1 (fX11_rowAt l0 l3 l5 m) fun r3690 =>
    ml_b1 (fX11_in r3690 (1 : Int32) (5 : Int32) m) fun r3692 =>
    if r3692 = 0 then
    fX11_claim_122 (fX11_claim_87 fu) l0 l1 l2 l3 l5 m
    else
    fX11_claim_123 (fX11_claim_87 fu) l0 l1 l2 l3 l5 (1 : Int32) m
    else none
    else none
theorem vX11_claim_87 {E : ml_E} (hL : ml_eL E = 7) {rv : Int32} {rm : ml_M} (hr : ∀ (pc pc' : Nat) (lv : List (Nat × ml_X)), ml_d cX11_claim pc .ireturn 1 pc' → True → ml_V E "LostRoomModel" cX11_claim 4 false rm pc lv [ml_i rv]) : ∀ (fu : Nat) (l0 : Nat) (l1 : Int32) (l2 : Int32) (l3 : Int32) (l4 : Int32) (l5 : Int32) (m : ml_M), fX11_claim_87 fu l0 l1 l2 l3 l4 l5 m = some (rv, rm) → ml_V E "LostRoomModel" cX11_claim 4 false m 87 [(0, ml_r l0), (1, ml_i l1), (2, ml_i l2), (3, ml_i l3), (4, ml_i l4), (5, ml_i l5)] [] := by
  intro fu
  induction fu with
  | zero => intro l0 l1 l2 l3 l4 l5 m h; exact ml_none h
  | succ fu ih =>
    intro l0 l1 l2 l3 l4 l5 m h
    have hk87 := ih
    unfold fX11_claim_87 at h
    exact ml_iload dX11_claim_87 5 rfl <| ml_aload_n dX11_claim_89 0 rfl <| ml_ck_of h fun hc3686 h => ml_getR dX11_claim_90 wb_64 hc3686 <| ml_lx (mk := ml_r) h fun a3687 h => ml_iload_n dX11_claim_93 3 rfl <| ml_ck_of h fun hi3688 h => ml_iald dX11_claim_94 hi3688 <| ml_icmp_ge dX11_claim_95 h (fun _ h => ml_V.sub [0, 1, 2, 3, 4] rfl (vX11_claim_131 hL hr  _ _ _ _ _ _ h)) (fun _ h => ml_iload dX11_claim_98 4 rfl <| ml_if_eq dX11_claim_100 h (fun _ h => ml_V.sub [0, 1, 2, 3, 5] rfl (vX11_claim_122 hL hr hk87 _ _ _ _ _ _ h)) (fun _ h => ml_aload_n dX11_claim_103 0 rfl <| ml_iload_n dX11_claim_104 3 rfl <| ml_iload dX11_claim_105 5 rfl <| ml_b1_of h fun r3690 hv3689 h => ml_callV dX11_claim_107 wm_154 wb_109 hc3686 (sX11_rowAt hv3689) rfl (Nat.le_of_ble_eq_true rfl) (Nat.le_of_ble_eq_true rfl) rfl <| ml_iconst dX11_claim_110 kc_i1 <| ml_iconst dX11_claim_111 kc_i5 <| ml_b1_of h fun r3692 hv3691 h => ml_callS dX11_claim_112 wm_136 wb_100 (sX11_in hv3691) rfl (Nat.le_of_ble_eq_true rfl) (Nat.le_of_ble_eq_true rfl) rfl <| ml_if_eq dX11_claim_115 h (fun _ h => ml_V.sub [0, 1, 2, 3, 5] rfl (vX11_claim_122 hL hr hk87 _ _ _ _ _ _ h)) (fun _ h => ml_iconst dX11_claim_118 kc_i1 <| ml_goto dX11_claim_119 <| ml_V.sub [0, 1, 2, 3, 5] rfl (vX11_claim_123 hL hr hk87 _ _ _ _ _ _ _ h))))
def fX11_claim (l0 : Nat) (l1 : Int32) (l2 : Int32) (l3 : Int32) (m : ml_M) : Option (Int32 × ml_M) :=
    ml_b1 (fX11_in l1 (0 : Int32) (9 : Int32) m) fun r3694 =>
    if r3694 = 0 then
    some ((-1 : Int32), m)
    else
    if (ml_K m l0).1 = 11 then
    ml_b1 (fX11_isTrunk l0 l2 m) fun r3697 =>
    if r3697 = 0 then
    some ((-1 : Int32), m)
    else
    ml_b1 (fX11_isRow l3 m) fun r3699 =>
    if r3699 = 0 then
    some ((-1 : Int32), m)
    else
    ml_let (ml_R m l0 4) fun a3700 =>
    if ml_in m a3700 20 l3 then
    if 0 ≤ (ml_I m a3700 l3.toNatClampNeg) then
    ml_let (ml_R m l0 4) fun a3702 =>
    if ml_in m a3702 20 l3 then
    if (ml_I m a3702 l3.toNatClampNeg) = 0 then
    fX11_claim_63 l0 m
    else
    ml_let (ml_R m l0 4) fun a3704 =>
    if ml_in m a3704 20 l3 then
    if ((ml_I m a3704 l3.toNatClampNeg) - (ml_I m a3704 l3.toNatClampNeg) / (2 : Int32) * (2 : Int32)) = (1 : Int32) then
    fX11_claim_63 l0 m
    else
    if (ml_I m l0 46) = (8 : Int32) then
    some ((-2 : Int32), m)
    else
    fX11_claim_87 ml_fu l0 l1 l2 l3 (1 : Int32) (0 : Int32) m
    else none
    else none
    else
    ml_b2 (fX11_meets l0 (1 : Int32) m) fun r3707 m3708 =>
    some (r3707, m3708)
    else none
    else none
theorem wX11_claim_0 {E : ml_E} (hL : ml_eL E = 7) {rv : Int32} {rm : ml_M} (hr : ∀ (pc pc' : Nat) (lv : List (Nat × ml_X)), ml_d cX11_claim pc .ireturn 1 pc' → True → ml_V E "LostRoomModel" cX11_claim 4 false rm pc lv [ml_i rv]) : ∀ (l0 : Nat) (l1 : Int32) (l2 : Int32) (l3 : Int32) (m : ml_M), fX11_claim l0 l1 l2 l3 m = some (rv, rm) → ml_V E "LostRoomModel" cX11_claim 4 false m 0 [(0, ml_r l0), (1, ml_i l1), (2, ml_i l2), (3, ml_i l3)] [] := by
  intro l0 l1 l2 l3 m h
  unfold fX11_claim at h
  exact ml_iload_n dX11_claim_0 1 rfl <| ml_iconst dX11_claim_1 kc_i0 <| ml_bipush dX11_claim_2 kc_b9 <| ml_b1_of h fun r3694 hv3693 h => ml_callS dX11_claim_4 wm_136 wb_100 (sX11_in hv3693) rfl (Nat.le_of_ble_eq_true rfl) (Nat.le_of_ble_eq_true rfl) rfl <| ml_if_eq dX11_claim_7 h (fun _ h => ml_iconst dX11_claim_25 kc_im1 <| ml_rI (mk := ml_i) hr dX11_claim_26 (fun _ => trivial) h) (fun _ h => ml_aload_n dX11_claim_10 0 rfl <| ml_iload_n dX11_claim_11 2 rfl <| ml_ck_of h fun hc3696 h => ml_b1_of h fun r3697 hv3695 h => ml_callV dX11_claim_12 wm_333 wb_232 hc3696 (sX11_isTrunk hv3695) rfl (Nat.le_of_ble_eq_true rfl) (Nat.le_of_ble_eq_true rfl) rfl <| ml_if_eq dX11_claim_15 h (fun _ h => ml_iconst dX11_claim_25 kc_im1 <| ml_rI (mk := ml_i) hr dX11_claim_26 (fun _ => trivial) h) (fun _ h => ml_iload_n dX11_claim_18 3 rfl <| ml_b1_of h fun r3699 hv3698 h => ml_callS dX11_claim_19 wm_140 wb_104 (sX11_isRow hv3698) rfl (Nat.le_of_ble_eq_true rfl) (Nat.le_of_ble_eq_true rfl) rfl <| ml_if_ne dX11_claim_22 h (fun _ h => ml_aload_n dX11_claim_27 0 rfl <| ml_getR dX11_claim_28 wb_64 hc3696 <| ml_lx (mk := ml_r) h fun a3700 h => ml_iload_n dX11_claim_31 3 rfl <| ml_ck_of h fun hi3701 h => ml_iald dX11_claim_32 hi3701 <| ml_if_ge dX11_claim_33 h (fun _ h => ml_aload_n dX11_claim_42 0 rfl <| ml_getR dX11_claim_43 wb_64 hc3696 <| ml_lx (mk := ml_r) h fun a3702 h => ml_iload_n dX11_claim_46 3 rfl <| ml_ck_of h fun hi3703 h => ml_iald dX11_claim_47 hi3703 <| ml_if_eq dX11_claim_48 h (fun _ h => ml_V.sub [0] rfl (vX11_claim_63 hL hr  _ _ h)) (fun _ h => ml_aload_n dX11_claim_51 0 rfl <| ml_getR dX11_claim_52 wb_64 hc3696 <| ml_lx (mk := ml_r) h fun a3704 h => ml_iload_n dX11_claim_55 3 rfl <| ml_ck_of h fun hi3705 h => ml_iald dX11_claim_56 hi3705 <| ml_iconst dX11_claim_57 kc_i2 <| ml_irem dX11_claim_58 (by decide) <| ml_iconst dX11_claim_59 kc_i1 <| ml_icmp_ne dX11_claim_60 h (fun _ h => ml_aload_n dX11_claim_69 0 rfl <| ml_getI dX11_claim_70 wb_475 hc3696 <| ml_bipush dX11_claim_73 kc_b8 <| ml_icmp_ne dX11_claim_75 h (fun _ h => ml_iconst dX11_claim_81 kc_i1 <| ml_istore (lv' := [(4, ml_i (1 : Int32)), (0, ml_r l0), (1, ml_i l1), (2, ml_i l2), (3, ml_i l3)]) dX11_claim_82 (ml_hn hL rfl) rfl <| ml_iconst dX11_claim_84 kc_i0 <| ml_istore (lv' := [(5, ml_i (0 : Int32)), (4, ml_i (1 : Int32)), (0, ml_r l0), (1, ml_i l1), (2, ml_i l2), (3, ml_i l3)]) dX11_claim_85 (ml_hn hL rfl) rfl <| ml_V.sub [2, 3, 4, 5, 1, 0] rfl (vX11_claim_87 hL hr  ml_fu _ _ _ _ _ _ _ h)) (fun _ h => ml_bipush dX11_claim_78 kc_bm2 <| ml_rI (mk := ml_i) hr dX11_claim_80 (fun _ => trivial) h)) (fun _ h => ml_V.sub [0] rfl (vX11_claim_63 hL hr  _ _ h)))) (fun _ h => ml_aload_n dX11_claim_36 0 rfl <| ml_iconst dX11_claim_37 kc_i1 <| ml_b2_of h fun r3707 m3708 hv3706 h => ml_callV dX11_claim_38 wm_144 wb_105 hc3696 (sX11_meets hv3706) rfl (Nat.le_of_ble_eq_true rfl) (Nat.le_of_ble_eq_true rfl) rfl <| ml_rI (mk := ml_i) hr dX11_claim_41 (fun _ => trivial) h)) (fun _ h => ml_iconst dX11_claim_25 kc_im1 <| ml_rI (mk := ml_i) hr dX11_claim_26 (fun _ => trivial) h)))
theorem sX11_claim {l0 : Nat} {l1 : Int32} {l2 : Int32} {l3 : Int32} {m : ml_M} {rv : Int32} {rm : ml_M} (h : fX11_claim l0 l1 l2 l3 m = some (rv, rm)) : ml_Sn yX11_claim cX11_claim 7 (some .int) 4 [ml_r l0, ml_i l1, ml_i l2, ml_i l3] m (some (ml_i rv)) rm :=
  ml_Sn_of (P := True) (ini := false) (by decide +kernel) (Nat.le_of_ble_eq_true rfl) (fun h => by cases h) (fun _ => ml_RkI rv) fun E hL hr => wX11_claim_0 hL hr _ _ _ _ _ h
theorem dX10_isTrue_0 : ml_d cX10_isTrue 0 (.iconst 0) 1 1 := ⟨by decide +kernel, rfl⟩
theorem dX10_isTrue_1 : ml_d cX10_isTrue 1 (.istore 4) 2 3 := ⟨by decide +kernel, rfl⟩
theorem dX10_isTrue_3 : ml_d cX10_isTrue 3 (.iload 4) 2 5 := ⟨by decide +kernel, rfl⟩
theorem dX10_isTrue_5 : ml_d cX10_isTrue 5 (.aload_n 0) 1 6 := ⟨by decide +kernel, rfl⟩
theorem dX10_isTrue_6 : ml_d cX10_isTrue 6 (.getfield 118) 3 9 := ⟨by decide +kernel, rfl⟩
theorem dX10_isTrue_9 : ml_j cX10_isTrue 9 (.if_icmp .ge) 57 12 := ⟨48, by decide +kernel, by decide, rfl⟩
theorem dX10_isTrue_12 : ml_d cX10_isTrue 12 (.aload_n 0) 1 13 := ⟨by decide +kernel, rfl⟩
theorem dX10_isTrue_13 : ml_d cX10_isTrue 13 (.getfield 36) 3 16 := ⟨by decide +kernel, rfl⟩
theorem dX10_isTrue_16 : ml_d cX10_isTrue 16 (.iload 4) 2 18 := ⟨by decide +kernel, rfl⟩
theorem dX10_isTrue_18 : ml_d cX10_isTrue 18 (.aaload) 1 19 := ⟨by decide +kernel, rfl⟩
theorem dX10_isTrue_19 : ml_d cX10_isTrue 19 (.astore 5) 2 21 := ⟨by decide +kernel, rfl⟩
theorem dX10_isTrue_21 : ml_d cX10_isTrue 21 (.aload 5) 2 23 := ⟨by decide +kernel, rfl⟩
theorem dX10_isTrue_23 : ml_d cX10_isTrue 23 (.getfield 175) 3 26 := ⟨by decide +kernel, rfl⟩
theorem dX10_isTrue_26 : ml_d cX10_isTrue 26 (.iload_n 1) 1 27 := ⟨by decide +kernel, rfl⟩
theorem dX10_isTrue_27 : ml_j cX10_isTrue 27 (.if_icmp .ne) 51 30 := ⟨24, by decide +kernel, by decide, rfl⟩
theorem dX10_isTrue_30 : ml_d cX10_isTrue 30 (.aload 5) 2 32 := ⟨by decide +kernel, rfl⟩
theorem dX10_isTrue_32 : ml_d cX10_isTrue 32 (.iload_n 2) 1 33 := ⟨by decide +kernel, rfl⟩
theorem dX10_isTrue_33 : ml_d cX10_isTrue 33 (.invokevirtual 187) 3 36 := ⟨by decide +kernel, rfl⟩
theorem dX10_isTrue_36 : ml_j cX10_isTrue 36 (.ifCond .eq) 51 39 := ⟨15, by decide +kernel, by decide, rfl⟩
theorem dX10_isTrue_39 : ml_d cX10_isTrue 39 (.aload 5) 2 41 := ⟨by decide +kernel, rfl⟩
theorem dX10_isTrue_41 : ml_d cX10_isTrue 41 (.iload_n 2) 1 42 := ⟨by decide +kernel, rfl⟩
theorem dX10_isTrue_42 : ml_d cX10_isTrue 42 (.invokevirtual 190) 3 45 := ⟨by decide +kernel, rfl⟩
theorem dX10_isTrue_45 : ml_d cX10_isTrue 45 (.iload_n 3) 1 46 := ⟨by decide +kernel, rfl⟩
theorem dX10_isTrue_46 : ml_j cX10_isTrue 46 (.if_icmp .ne) 51 49 := ⟨5, by decide +kernel, by decide, rfl⟩
theorem dX10_isTrue_49 : ml_d cX10_isTrue 49 (.iconst 1) 1 50 := ⟨by decide +kernel, rfl⟩
theorem dX10_isTrue_50 : ml_d cX10_isTrue 50 (.ireturn) 1 51 := ⟨by decide +kernel, rfl⟩
theorem dX10_isTrue_51 : ml_d cX10_isTrue 51 (.iinc 4 1) 3 54 := ⟨by decide +kernel, rfl⟩
theorem dX10_isTrue_54 : ml_j cX10_isTrue 54 .goto 3 57 := ⟨(-51), by decide +kernel, by decide, rfl⟩
theorem dX10_isTrue_57 : ml_d cX10_isTrue 57 (.iconst 0) 1 58 := ⟨by decide +kernel, rfl⟩
theorem dX10_isTrue_58 : ml_d cX10_isTrue 58 (.ireturn) 1 59 := ⟨by decide +kernel, rfl⟩
def fX10_isTrue_51 (k3 : Nat → Int32 → Int32 → Int32 → Int32 → ml_M → Option Int32) (l0 : Nat) (l1 : Int32) (l2 : Int32) (l3 : Int32) (l4 : Int32) (m : ml_M) : Option Int32 :=
    k3 l0 l1 l2 l3 (l4 + (1 : Int32)) m
theorem vX10_isTrue_51 {E : ml_E} (hL : ml_eL E = 6) {rv : Int32} {m : ml_M} (hr : ∀ (pc pc' : Nat) (lv : List (Nat × ml_X)), ml_d cX10_isTrue pc .ireturn 1 pc' → (rv = 0 ∨ rv = 1) → ml_V E "LostRoom" cX10_isTrue 3 false m pc lv [ml_i rv]) {k3 : Nat → Int32 → Int32 → Int32 → Int32 → ml_M → Option Int32} (hk3 : ∀ (l0 : Nat) (l1 : Int32) (l2 : Int32) (l3 : Int32) (l4 : Int32), k3 l0 l1 l2 l3 l4 m = some rv → ml_V E "LostRoom" cX10_isTrue 3 false m 3 [(0, ml_r l0), (1, ml_i l1), (2, ml_i l2), (3, ml_i l3), (4, ml_i l4)] []) : ∀ (l0 : Nat) (l1 : Int32) (l2 : Int32) (l3 : Int32) (l4 : Int32), fX10_isTrue_51 k3 l0 l1 l2 l3 l4 m = some rv → ml_V E "LostRoom" cX10_isTrue 3 false m 51 [(0, ml_r l0), (1, ml_i l1), (2, ml_i l2), (3, ml_i l3), (4, ml_i l4)] [] := by
  intro l0 l1 l2 l3 l4 h
  unfold fX10_isTrue_51 at h
  exact ml_iinc (lv' := [(4, ml_i (l4 + (1 : Int32))), (0, ml_r l0), (1, ml_i l1), (2, ml_i l2), (3, ml_i l3)]) dX10_isTrue_51 4 rfl (congrArg (l4 + ·) kc_i1) (ml_hn hL rfl) rfl <| ml_goto dX10_isTrue_54 <| ml_V.sub [1, 2, 3, 4, 0] rfl (hk3 _ _ _ _ _ h)
def fX10_isTrue_3 : Nat → Nat → Int32 → Int32 → Int32 → Int32 → ml_M → Option Int32
  | 0, _, _, _, _, _, _ => none
  | fu + 1, l0, l1, l2, l3, l4, m =>
    if (ml_K m l0).1 = 10 then
    if (ml_I m l0 5) ≤ l4 then
    some (0 : Int32)
    else
    ml_let (ml_R m l0 4) fun a3710 =>
    if ml_in m a3710 29 l4 then
    ml_let (ml_R m a3710 l4.toNatClampNeg) fun a3712 =>
    if (ml_K m a3712).1 = 8 then
    if (ml_I m a3712 6) = l1 then
    ml_b1 (fX8_isOf a3712 l2 m) fun r3715 =>
    if r3715 = 0 then
    fX10_isTrue_51 (fX10_isTrue_3 fu) l0 l1 l2 l3 l4 m
    else
    ml_b1 (fX8_tells a3712 l2 m) fun r3717 =>
    if r3717 = l3 then
    some (1 : Int32)
    else
    fX10_isTrue_51 (fX10_isTrue_3 fu) l0 l1 l2 l3 l4 m
    else
    fX10_isTrue_51 (fX10_isTrue_3 fu) l0 l1 l2 l3 l4 m
    else none
    else none
    else none
theorem vX10_isTrue_3 {E : ml_E} (hL : ml_eL E = 6) {rv : Int32} {m : ml_M} (hr : ∀ (pc pc' : Nat) (lv : List (Nat × ml_X)), ml_d cX10_isTrue pc .ireturn 1 pc' → (rv = 0 ∨ rv = 1) → ml_V E "LostRoom" cX10_isTrue 3 false m pc lv [ml_i rv]) : ∀ (fu : Nat) (l0 : Nat) (l1 : Int32) (l2 : Int32) (l3 : Int32) (l4 : Int32), fX10_isTrue_3 fu l0 l1 l2 l3 l4 m = some rv → ml_V E "LostRoom" cX10_isTrue 3 false m 3 [(0, ml_r l0), (1, ml_i l1), (2, ml_i l2), (3, ml_i l3), (4, ml_i l4)] [] := by
  intro fu
  induction fu with
  | zero => intro l0 l1 l2 l3 l4 h; exact ml_none h
  | succ fu ih =>
    intro l0 l1 l2 l3 l4 h
    have hk3 := ih
    unfold fX10_isTrue_3 at h
    exact ml_iload dX10_isTrue_3 4 rfl <| ml_aload_n dX10_isTrue_5 0 rfl <| ml_ck_of h fun hc3709 h => ml_getI dX10_isTrue_6 wb_217 hc3709 <| ml_icmp_ge dX10_isTrue_9 h (fun _ h => ml_iconst dX10_isTrue_57 kc_i0 <| ml_rp (mk := ml_i) hr dX10_isTrue_58 (fun e => Or.inl e.symm) h) (fun _ h => ml_aload_n dX10_isTrue_12 0 rfl <| ml_getR dX10_isTrue_13 wb_218 hc3709 <| ml_lx (mk := ml_r) h fun a3710 h => ml_iload dX10_isTrue_16 4 rfl <| ml_ck_of h fun hi3711 h => ml_aald (kd := 29) dX10_isTrue_18 (by decide) hi3711 <| ml_lx (mk := ml_r) h fun a3712 h => ml_astore (lv' := [(5, ml_r a3712), (0, ml_r l0), (1, ml_i l1), (2, ml_i l2), (3, ml_i l3), (4, ml_i l4)]) dX10_isTrue_19 (ml_hn hL rfl) rfl <| ml_aload dX10_isTrue_21 0 rfl <| ml_ck_of h fun hc3713 h => ml_getI dX10_isTrue_23 wb_219 hc3713 <| ml_iload_n dX10_isTrue_26 2 rfl <| ml_icmp_ne dX10_isTrue_27 h (fun _ h => ml_V.sub [1, 2, 3, 4, 5] rfl (vX10_isTrue_51 hL hr hk3 _ _ _ _ _ h)) (fun _ h => ml_aload dX10_isTrue_30 0 rfl <| ml_iload_n dX10_isTrue_32 3 rfl <| ml_b1_of h fun r3715 hv3714 h => ml_callV dX10_isTrue_33 wm_412 wb_274 hc3713 (sX8_isOf hv3714) rfl (Nat.le_of_ble_eq_true rfl) (Nat.le_of_ble_eq_true rfl) rfl <| ml_if_eq dX10_isTrue_36 h (fun _ h => ml_V.sub [1, 2, 3, 4, 5] rfl (vX10_isTrue_51 hL hr hk3 _ _ _ _ _ h)) (fun _ h => ml_aload dX10_isTrue_39 0 rfl <| ml_iload_n dX10_isTrue_41 3 rfl <| ml_b1_of h fun r3717 hv3716 h => ml_callV dX10_isTrue_42 wm_416 wb_275 hc3713 (sX8_tells hv3716) rfl (Nat.le_of_ble_eq_true rfl) (Nat.le_of_ble_eq_true rfl) rfl <| ml_iload_n dX10_isTrue_45 4 rfl <| ml_icmp_ne dX10_isTrue_46 h (fun _ h => ml_V.sub [1, 2, 3, 4, 5] rfl (vX10_isTrue_51 hL hr hk3 _ _ _ _ _ h)) (fun _ h => ml_iconst dX10_isTrue_49 kc_i1 <| ml_rp (mk := ml_i) hr dX10_isTrue_50 (fun e => Or.inr e.symm) h))))
def fX10_isTrue (l0 : Nat) (l1 : Int32) (l2 : Int32) (l3 : Int32) (m : ml_M) : Option Int32 :=
    fX10_isTrue_3 ml_fu l0 l1 l2 l3 (0 : Int32) m
theorem wX10_isTrue_0 {E : ml_E} (hL : ml_eL E = 6) {rv : Int32} {m : ml_M} (hr : ∀ (pc pc' : Nat) (lv : List (Nat × ml_X)), ml_d cX10_isTrue pc .ireturn 1 pc' → (rv = 0 ∨ rv = 1) → ml_V E "LostRoom" cX10_isTrue 3 false m pc lv [ml_i rv]) : ∀ (l0 : Nat) (l1 : Int32) (l2 : Int32) (l3 : Int32), fX10_isTrue l0 l1 l2 l3 m = some rv → ml_V E "LostRoom" cX10_isTrue 3 false m 0 [(0, ml_r l0), (1, ml_i l1), (2, ml_i l2), (3, ml_i l3)] [] := by
  intro l0 l1 l2 l3 h
  unfold fX10_isTrue at h
  exact ml_iconst dX10_isTrue_0 kc_i0 <| ml_istore (lv' := [(4, ml_i (0 : Int32)), (0, ml_r l0), (1, ml_i l1), (2, ml_i l2), (3, ml_i l3)]) dX10_isTrue_1 (ml_hn hL rfl) rfl <| ml_V.sub [1, 2, 3, 4, 0] rfl (vX10_isTrue_3 hL hr  ml_fu _ _ _ _ _ h)
theorem sX10_isTrue {l0 : Nat} {l1 : Int32} {l2 : Int32} {l3 : Int32} {m : ml_M} {rv : Int32} (h : fX10_isTrue l0 l1 l2 l3 m = some rv) : ml_Sn yX10_isTrue cX10_isTrue 6 (some .boolean) 3 [ml_r l0, ml_i l1, ml_i l2, ml_i l3] m (some (ml_i rv)) m :=
  ml_Sn_of (P := (rv = 0 ∨ rv = 1)) (ini := false) (by decide +kernel) (Nat.le_of_ble_eq_true rfl) (fun h => by cases h) (fun hz => ml_RkZ rv hz) fun E hL hr => wX10_isTrue_0 hL hr _ _ _ _ h
theorem dX10_trueMarks_0 : ml_d cX10_trueMarks 0 (.iconst 0) 1 1 := ⟨by decide +kernel, rfl⟩
theorem dX10_trueMarks_1 : ml_d cX10_trueMarks 1 (.istore_n 2) 1 2 := ⟨by decide +kernel, rfl⟩
theorem dX10_trueMarks_2 : ml_d cX10_trueMarks 2 (.iconst 0) 1 3 := ⟨by decide +kernel, rfl⟩
theorem dX10_trueMarks_3 : ml_d cX10_trueMarks 3 (.istore_n 3) 1 4 := ⟨by decide +kernel, rfl⟩
theorem dX10_trueMarks_4 : ml_d cX10_trueMarks 4 (.iload_n 3) 1 5 := ⟨by decide +kernel, rfl⟩
theorem dX10_trueMarks_5 : ml_d cX10_trueMarks 5 (.iconst 1) 1 6 := ⟨by decide +kernel, rfl⟩
theorem dX10_trueMarks_6 : ml_d cX10_trueMarks 6 (.iadd) 1 7 := ⟨by decide +kernel, rfl⟩
theorem dX10_trueMarks_7 : ml_d cX10_trueMarks 7 (.aload_n 1) 1 8 := ⟨by decide +kernel, rfl⟩
theorem dX10_trueMarks_8 : ml_d cX10_trueMarks 8 (.getfield 315) 3 11 := ⟨by decide +kernel, rfl⟩
theorem dX10_trueMarks_11 : ml_d cX10_trueMarks 11 (.arraylength) 1 12 := ⟨by decide +kernel, rfl⟩
theorem dX10_trueMarks_12 : ml_j cX10_trueMarks 12 (.if_icmp .ge) 49 15 := ⟨37, by decide +kernel, by decide, rfl⟩
theorem dX10_trueMarks_15 : ml_d cX10_trueMarks 15 (.aload_n 0) 1 16 := ⟨by decide +kernel, rfl⟩
theorem dX10_trueMarks_16 : ml_d cX10_trueMarks 16 (.aload_n 1) 1 17 := ⟨by decide +kernel, rfl⟩
theorem dX10_trueMarks_17 : ml_d cX10_trueMarks 17 (.getfield 322) 3 20 := ⟨by decide +kernel, rfl⟩
theorem dX10_trueMarks_20 : ml_d cX10_trueMarks 20 (.aload_n 1) 1 21 := ⟨by decide +kernel, rfl⟩
theorem dX10_trueMarks_21 : ml_d cX10_trueMarks 21 (.getfield 315) 3 24 := ⟨by decide +kernel, rfl⟩
theorem dX10_trueMarks_24 : ml_d cX10_trueMarks 24 (.iload_n 3) 1 25 := ⟨by decide +kernel, rfl⟩
theorem dX10_trueMarks_25 : ml_d cX10_trueMarks 25 (.iaload) 1 26 := ⟨by decide +kernel, rfl⟩
theorem dX10_trueMarks_26 : ml_d cX10_trueMarks 26 (.aload_n 1) 1 27 := ⟨by decide +kernel, rfl⟩
theorem dX10_trueMarks_27 : ml_d cX10_trueMarks 27 (.getfield 315) 3 30 := ⟨by decide +kernel, rfl⟩
theorem dX10_trueMarks_30 : ml_d cX10_trueMarks 30 (.iload_n 3) 1 31 := ⟨by decide +kernel, rfl⟩
theorem dX10_trueMarks_31 : ml_d cX10_trueMarks 31 (.iconst 1) 1 32 := ⟨by decide +kernel, rfl⟩
theorem dX10_trueMarks_32 : ml_d cX10_trueMarks 32 (.iadd) 1 33 := ⟨by decide +kernel, rfl⟩
theorem dX10_trueMarks_33 : ml_d cX10_trueMarks 33 (.iaload) 1 34 := ⟨by decide +kernel, rfl⟩
theorem dX10_trueMarks_34 : ml_d cX10_trueMarks 34 (.invokevirtual 430) 3 37 := ⟨by decide +kernel, rfl⟩
theorem dX10_trueMarks_37 : ml_j cX10_trueMarks 37 (.ifCond .eq) 43 40 := ⟨6, by decide +kernel, by decide, rfl⟩
theorem dX10_trueMarks_40 : ml_d cX10_trueMarks 40 (.iinc 2 1) 3 43 := ⟨by decide +kernel, rfl⟩
theorem dX10_trueMarks_43 : ml_d cX10_trueMarks 43 (.iinc 3 2) 3 46 := ⟨by decide +kernel, rfl⟩
theorem dX10_trueMarks_46 : ml_j cX10_trueMarks 46 .goto 4 49 := ⟨(-42), by decide +kernel, by decide, rfl⟩
theorem dX10_trueMarks_49 : ml_d cX10_trueMarks 49 (.iload_n 2) 1 50 := ⟨by decide +kernel, rfl⟩
theorem dX10_trueMarks_50 : ml_d cX10_trueMarks 50 (.ireturn) 1 51 := ⟨by decide +kernel, rfl⟩
def fX10_trueMarks_43 (k4 : Nat → Nat → Int32 → Int32 → ml_M → Option Int32) (l0 : Nat) (l1 : Nat) (l2 : Int32) (l3 : Int32) (m : ml_M) : Option Int32 :=
    k4 l0 l1 l2 (l3 + (2 : Int32)) m
theorem vX10_trueMarks_43 {E : ml_E} (hL : ml_eL E = 4) {rv : Int32} {m : ml_M} (hr : ∀ (pc pc' : Nat) (lv : List (Nat × ml_X)), ml_d cX10_trueMarks pc .ireturn 1 pc' → True → ml_V E "LostRoom" cX10_trueMarks 4 false m pc lv [ml_i rv]) {k4 : Nat → Nat → Int32 → Int32 → ml_M → Option Int32} (hk4 : ∀ (l0 : Nat) (l1 : Nat) (l2 : Int32) (l3 : Int32), k4 l0 l1 l2 l3 m = some rv → ml_V E "LostRoom" cX10_trueMarks 4 false m 4 [(0, ml_r l0), (1, ml_r l1), (2, ml_i l2), (3, ml_i l3)] []) : ∀ (l0 : Nat) (l1 : Nat) (l2 : Int32) (l3 : Int32), fX10_trueMarks_43 k4 l0 l1 l2 l3 m = some rv → ml_V E "LostRoom" cX10_trueMarks 4 false m 43 [(0, ml_r l0), (1, ml_r l1), (2, ml_i l2), (3, ml_i l3)] [] := by
  intro l0 l1 l2 l3 h
  unfold fX10_trueMarks_43 at h
  exact ml_iinc (lv' := [(3, ml_i (l3 + (2 : Int32))), (0, ml_r l0), (1, ml_r l1), (2, ml_i l2)]) dX10_trueMarks_43 3 rfl (congrArg (l3 + ·) kc_i2) (ml_hn hL rfl) rfl <| ml_goto dX10_trueMarks_46 <| ml_V.sub [1, 2, 3, 0] rfl (hk4 _ _ _ _ h)
def fX10_trueMarks_4 : Nat → Nat → Nat → Int32 → Int32 → ml_M → Option Int32
  | 0, _, _, _, _, _ => none
  | fu + 1, l0, l1, l2, l3, m =>
    if (ml_K m l1).1 = 2 then
    ml_let (ml_R m l1 2) fun a3719 =>
    if (ml_K m a3719).1 = 20 then
    if (Int32.ofNat (ml_K m a3719).2) ≤ (l3 + (1 : Int32)) then
    some l2
    else
    ml_let (ml_R m l1 2) fun a3721 =>
    if ml_in m a3721 20 l3 then
    ml_let (ml_R m l1 2) fun a3723 =>
    if ml_in m a3723 20 (l3 + (1 : Int32)) then
    if (ml_K m l0).1 = 10 then
    ml_b1 (fX10_isTrue l0 (ml_I m l1 1) (ml_I m a3721 l3.toNatClampNeg) (ml_I m a3723 (l3 + (1 : Int32)).toNatClampNeg) m) fun r3727 =>
    if r3727 = 0 then
    fX10_trueMarks_43 (fX10_trueMarks_4 fu) l0 l1 l2 l3 m
    else
    fX10_trueMarks_43 (fX10_trueMarks_4 fu) l0 l1 (l2 + (1 : Int32)) l3 m
    else none
    else none
    else none
    else none
    else none
theorem vX10_trueMarks_4 {E : ml_E} (hL : ml_eL E = 4) {rv : Int32} {m : ml_M} (hr : ∀ (pc pc' : Nat) (lv : List (Nat × ml_X)), ml_d cX10_trueMarks pc .ireturn 1 pc' → True → ml_V E "LostRoom" cX10_trueMarks 4 false m pc lv [ml_i rv]) : ∀ (fu : Nat) (l0 : Nat) (l1 : Nat) (l2 : Int32) (l3 : Int32), fX10_trueMarks_4 fu l0 l1 l2 l3 m = some rv → ml_V E "LostRoom" cX10_trueMarks 4 false m 4 [(0, ml_r l0), (1, ml_r l1), (2, ml_i l2), (3, ml_i l3)] [] := by
  intro fu
  induction fu with
  | zero => intro l0 l1 l2 l3 h; exact ml_none h
  | succ fu ih =>
    intro l0 l1 l2 l3 h
    have hk4 := ih
    unfold fX10_trueMarks_4 at h
    exact ml_iload_n dX10_trueMarks_4 3 rfl <| ml_iconst dX10_trueMarks_5 kc_i1 <| ml_iadd dX10_trueMarks_6 <| ml_aload_n dX10_trueMarks_7 1 rfl <| ml_ck_of h fun hc3718 h => ml_getR dX10_trueMarks_8 wb_477 hc3718 <| ml_lx (mk := ml_r) h fun a3719 h => ml_ck_of h fun hc3720 h => ml_alen (kd := 20) dX10_trueMarks_11 (by decide) hc3720 <| ml_icmp_ge dX10_trueMarks_12 h (fun _ h => ml_iload_n dX10_trueMarks_49 2 rfl <| ml_rp (mk := ml_i) hr dX10_trueMarks_50 (fun _ => trivial) h) (fun _ h => ml_aload_n dX10_trueMarks_15 0 rfl <| ml_aload_n dX10_trueMarks_16 1 rfl <| ml_getI dX10_trueMarks_17 wb_478 hc3718 <| ml_aload_n dX10_trueMarks_20 1 rfl <| ml_getR dX10_trueMarks_21 wb_477 hc3718 <| ml_lx (mk := ml_r) h fun a3721 h => ml_iload_n dX10_trueMarks_24 3 rfl <| ml_ck_of h fun hi3722 h => ml_iald dX10_trueMarks_25 hi3722 <| ml_aload_n dX10_trueMarks_26 1 rfl <| ml_getR dX10_trueMarks_27 wb_477 hc3718 <| ml_lx (mk := ml_r) h fun a3723 h => ml_iload_n dX10_trueMarks_30 3 rfl <| ml_iconst dX10_trueMarks_31 kc_i1 <| ml_iadd dX10_trueMarks_32 <| ml_ck_of h fun hi3724 h => ml_iald dX10_trueMarks_33 hi3724 <| ml_ck_of h fun hc3726 h => ml_b1_of h fun r3727 hv3725 h => ml_callV dX10_trueMarks_34 wm_787 wb_479 hc3726 (sX10_isTrue hv3725) rfl (Nat.le_of_ble_eq_true rfl) (Nat.le_of_ble_eq_true rfl) rfl <| ml_if_eq dX10_trueMarks_37 h (fun _ h => ml_V.sub [0, 1, 2, 3] rfl (vX10_trueMarks_43 hL hr hk4 _ _ _ _ h)) (fun _ h => ml_iinc (lv' := [(2, ml_i (l2 + (1 : Int32))), (0, ml_r l0), (1, ml_r l1), (3, ml_i l3)]) dX10_trueMarks_40 2 rfl (congrArg (l2 + ·) kc_i1) (ml_hn hL rfl) rfl <| ml_V.sub [1, 2, 0, 3] rfl (vX10_trueMarks_43 hL hr hk4 _ _ _ _ h)))
def fX10_trueMarks (l0 : Nat) (l1 : Nat) (m : ml_M) : Option Int32 :=
    fX10_trueMarks_4 ml_fu l0 l1 (0 : Int32) (0 : Int32) m
theorem wX10_trueMarks_0 {E : ml_E} (hL : ml_eL E = 4) {rv : Int32} {m : ml_M} (hr : ∀ (pc pc' : Nat) (lv : List (Nat × ml_X)), ml_d cX10_trueMarks pc .ireturn 1 pc' → True → ml_V E "LostRoom" cX10_trueMarks 4 false m pc lv [ml_i rv]) : ∀ (l0 : Nat) (l1 : Nat), fX10_trueMarks l0 l1 m = some rv → ml_V E "LostRoom" cX10_trueMarks 4 false m 0 [(0, ml_r l0), (1, ml_r l1)] [] := by
  intro l0 l1 h
  unfold fX10_trueMarks at h
  exact ml_iconst dX10_trueMarks_0 kc_i0 <| ml_istore_n (lv' := [(2, ml_i (0 : Int32)), (0, ml_r l0), (1, ml_r l1)]) dX10_trueMarks_1 (ml_hn hL rfl) rfl <| ml_iconst dX10_trueMarks_2 kc_i0 <| ml_istore_n (lv' := [(3, ml_i (0 : Int32)), (2, ml_i (0 : Int32)), (0, ml_r l0), (1, ml_r l1)]) dX10_trueMarks_3 (ml_hn hL rfl) rfl <| ml_V.sub [2, 3, 1, 0] rfl (vX10_trueMarks_4 hL hr  ml_fu _ _ _ _ h)
theorem sX10_trueMarks {l0 : Nat} {l1 : Nat} {m : ml_M} {rv : Int32} (h : fX10_trueMarks l0 l1 m = some rv) : ml_Sn yX10_trueMarks cX10_trueMarks 4 (some .int) 4 [ml_r l0, ml_r l1] m (some (ml_i rv)) m :=
  ml_Sn_of (P := True) (ini := false) (by decide +kernel) (Nat.le_of_ble_eq_true rfl) (fun h => by cases h) (fun _ => ml_RkI rv) fun E hL hr => wX10_trueMarks_0 hL hr _ _ h
theorem dX10_judge_0 : ml_d cX10_judge 0 (.iload_n 1) 1 1 := ⟨by decide +kernel, rfl⟩
theorem dX10_judge_1 : ml_d cX10_judge 1 (.iconst 0) 1 2 := ⟨by decide +kernel, rfl⟩
theorem dX10_judge_2 : ml_d cX10_judge 2 (.aload_n 0) 1 3 := ⟨by decide +kernel, rfl⟩
theorem dX10_judge_3 : ml_d cX10_judge 3 (.getfield 127) 3 6 := ⟨by decide +kernel, rfl⟩
theorem dX10_judge_6 : ml_d cX10_judge 6 (.iconst 1) 1 7 := ⟨by decide +kernel, rfl⟩
theorem dX10_judge_7 : ml_d cX10_judge 7 (.isub) 1 8 := ⟨by decide +kernel, rfl⟩
theorem dX10_judge_8 : ml_d cX10_judge 8 (.invokestatic 138) 3 11 := ⟨by decide +kernel, rfl⟩
theorem dX10_judge_11 : ml_j cX10_judge 11 (.ifCond .ne) 16 14 := ⟨5, by decide +kernel, by decide, rfl⟩
theorem dX10_judge_14 : ml_d cX10_judge 14 (.iconst (-1)) 1 15 := ⟨by decide +kernel, rfl⟩
theorem dX10_judge_15 : ml_d cX10_judge 15 (.ireturn) 1 16 := ⟨by decide +kernel, rfl⟩
theorem dX10_judge_16 : ml_d cX10_judge 16 (.aload_n 0) 1 17 := ⟨by decide +kernel, rfl⟩
theorem dX10_judge_17 : ml_d cX10_judge 17 (.aload_n 0) 1 18 := ⟨by decide +kernel, rfl⟩
theorem dX10_judge_18 : ml_d cX10_judge 18 (.getfield 54) 3 21 := ⟨by decide +kernel, rfl⟩
theorem dX10_judge_21 : ml_d cX10_judge 21 (.iload_n 1) 1 22 := ⟨by decide +kernel, rfl⟩
theorem dX10_judge_22 : ml_d cX10_judge 22 (.aaload) 1 23 := ⟨by decide +kernel, rfl⟩
theorem dX10_judge_23 : ml_d cX10_judge 23 (.getfield 315) 3 26 := ⟨by decide +kernel, rfl⟩
theorem dX10_judge_26 : ml_d cX10_judge 26 (.arraylength) 1 27 := ⟨by decide +kernel, rfl⟩
theorem dX10_judge_27 : ml_d cX10_judge 27 (.iconst 2) 1 28 := ⟨by decide +kernel, rfl⟩
theorem dX10_judge_28 : ml_d cX10_judge 28 (.idiv) 1 29 := ⟨by decide +kernel, rfl⟩
theorem dX10_judge_29 : ml_d cX10_judge 29 (.putfield 203) 3 32 := ⟨by decide +kernel, rfl⟩
theorem dX10_judge_32 : ml_d cX10_judge 32 (.aload_n 0) 1 33 := ⟨by decide +kernel, rfl⟩
theorem dX10_judge_33 : ml_d cX10_judge 33 (.aload_n 0) 1 34 := ⟨by decide +kernel, rfl⟩
theorem dX10_judge_34 : ml_d cX10_judge 34 (.getfield 54) 3 37 := ⟨by decide +kernel, rfl⟩
theorem dX10_judge_37 : ml_d cX10_judge 37 (.iload_n 1) 1 38 := ⟨by decide +kernel, rfl⟩
theorem dX10_judge_38 : ml_d cX10_judge 38 (.aaload) 1 39 := ⟨by decide +kernel, rfl⟩
theorem dX10_judge_39 : ml_d cX10_judge 39 (.invokevirtual 318) 3 42 := ⟨by decide +kernel, rfl⟩
theorem dX10_judge_42 : ml_d cX10_judge 42 (.ireturn) 1 43 := ⟨by decide +kernel, rfl⟩
def fX10_judge (l0 : Nat) (l1 : Int32) (m : ml_M) : Option (Int32 × ml_M) :=
    if (ml_K m l0).1 = 10 then
    ml_b1 (fX10_within l1 (0 : Int32) ((ml_I m l0 11) - (1 : Int32)) m) fun r3730 =>
    if r3730 = 0 then
    some ((-1 : Int32), m)
    else
    ml_let (ml_R m l0 10) fun a3731 =>
    if ml_in m a3731 26 l1 then
    ml_let (ml_R m a3731 l1.toNatClampNeg) fun a3733 =>
    if (ml_K m a3733).1 = 2 then
    ml_let (ml_R m a3733 2) fun a3735 =>
    if (ml_K m a3735).1 = 20 then
    ml_let (ml_sI m l0 15 ((Int32.ofNat (ml_K m a3735).2) / (2 : Int32))) fun m3737 =>
    ml_let (ml_R m3737 l0 10) fun a3739 =>
    if ml_in m3737 a3739 26 l1 then
    ml_let (ml_R m3737 a3739 l1.toNatClampNeg) fun a3741 =>
    ml_b1 (fX10_trueMarks l0 a3741 m3737) fun r3743 =>
    some (r3743, m3737)
    else none
    else none
    else none
    else none
    else none
theorem wX10_judge_0 {E : ml_E} (hL : ml_eL E = 2) {rv : Int32} {rm : ml_M} (hr : ∀ (pc pc' : Nat) (lv : List (Nat × ml_X)), ml_d cX10_judge pc .ireturn 1 pc' → True → ml_V E "LostRoom" cX10_judge 5 false rm pc lv [ml_i rv]) : ∀ (l0 : Nat) (l1 : Int32) (m : ml_M), fX10_judge l0 l1 m = some (rv, rm) → ml_V E "LostRoom" cX10_judge 5 false m 0 [(0, ml_r l0), (1, ml_i l1)] [] := by
  intro l0 l1 m h
  unfold fX10_judge at h
  exact ml_iload_n dX10_judge_0 1 rfl <| ml_iconst dX10_judge_1 kc_i0 <| ml_aload_n dX10_judge_2 0 rfl <| ml_ck_of h fun hc3728 h => ml_getI dX10_judge_3 wb_471 hc3728 <| ml_iconst dX10_judge_6 kc_i1 <| ml_isub dX10_judge_7 <| ml_b1_of h fun r3730 hv3729 h => ml_callS dX10_judge_8 wm_124 wb_94 (sX10_within hv3729) rfl (Nat.le_of_ble_eq_true rfl) (Nat.le_of_ble_eq_true rfl) rfl <| ml_if_ne dX10_judge_11 h (fun _ h => ml_aload_n dX10_judge_16 0 rfl <| ml_aload_n dX10_judge_17 0 rfl <| ml_getR dX10_judge_18 wb_470 hc3728 <| ml_lx (mk := ml_r) h fun a3731 h => ml_iload_n dX10_judge_21 1 rfl <| ml_ck_of h fun hi3732 h => ml_aald (kd := 26) dX10_judge_22 (by decide) hi3732 <| ml_lx (mk := ml_r) h fun a3733 h => ml_ck_of h fun hc3734 h => ml_getR dX10_judge_23 wb_477 hc3734 <| ml_lx (mk := ml_r) h fun a3735 h => ml_ck_of h fun hc3736 h => ml_alen (kd := 20) dX10_judge_26 (by decide) hc3736 <| ml_iconst dX10_judge_27 kc_i2 <| ml_idiv dX10_judge_28 (by decide) <| ml_putI dX10_judge_29 wb_106 hc3728 <| ml_lt (m := m) rfl h fun m3737 em3738 h => ml_aload_n dX10_judge_32 0 rfl <| ml_aload_n dX10_judge_33 0 rfl <| ml_getR dX10_judge_34 wb_470 (ml_kk em3738 hc3728) <| ml_lx (mk := ml_r) h fun a3739 h => ml_iload_n dX10_judge_37 1 rfl <| ml_ck_of h fun hi3740 h => ml_aald (kd := 26) dX10_judge_38 (by decide) hi3740 <| ml_lx (mk := ml_r) h fun a3741 h => ml_b1_of h fun r3743 hv3742 h => ml_callV dX10_judge_39 wm_791 wb_480 (ml_kk em3738 hc3728) (sX10_trueMarks hv3742) rfl (Nat.le_of_ble_eq_true rfl) (Nat.le_of_ble_eq_true rfl) rfl <| ml_rI (mk := ml_i) hr dX10_judge_42 (fun _ => trivial) h) (fun _ h => ml_iconst dX10_judge_14 kc_im1 <| ml_rI (mk := ml_i) hr dX10_judge_15 (fun _ => trivial) h)
theorem sX10_judge {l0 : Nat} {l1 : Int32} {m : ml_M} {rv : Int32} {rm : ml_M} (h : fX10_judge l0 l1 m = some (rv, rm)) : ml_Sn yX10_judge cX10_judge 2 (some .int) 5 [ml_r l0, ml_i l1] m (some (ml_i rv)) rm :=
  ml_Sn_of (P := True) (ini := false) (by decide +kernel) (Nat.le_of_ble_eq_true rfl) (fun h => by cases h) (fun _ => ml_RkI rv) fun E hL hr => wX10_judge_0 hL hr _ _ _ h
theorem dX11_trueMany_0 : ml_d cX11_trueMany 0 (.bipush 51) 2 2 := ⟨by decide +kernel, rfl⟩
theorem dX11_trueMany_2 : ml_d cX11_trueMany 2 (.iload_n 1) 1 3 := ⟨by decide +kernel, rfl⟩
theorem dX11_trueMany_3 : ml_d cX11_trueMany 3 (.imul) 1 4 := ⟨by decide +kernel, rfl⟩
theorem dX11_trueMany_4 : ml_d cX11_trueMany 4 (.istore_n 2) 1 5 := ⟨by decide +kernel, rfl⟩
theorem dX11_trueMany_5 : ml_d cX11_trueMany 5 (.iconst 0) 1 6 := ⟨by decide +kernel, rfl⟩
theorem dX11_trueMany_6 : ml_d cX11_trueMany 6 (.istore_n 3) 1 7 := ⟨by decide +kernel, rfl⟩
theorem dX11_trueMany_7 : ml_d cX11_trueMany 7 (.iconst 0) 1 8 := ⟨by decide +kernel, rfl⟩
theorem dX11_trueMany_8 : ml_d cX11_trueMany 8 (.istore 4) 2 10 := ⟨by decide +kernel, rfl⟩
theorem dX11_trueMany_10 : ml_d cX11_trueMany 10 (.iload 4) 2 12 := ⟨by decide +kernel, rfl⟩
theorem dX11_trueMany_12 : ml_d cX11_trueMany 12 (.aload_n 0) 1 13 := ⟨by decide +kernel, rfl⟩
theorem dX11_trueMany_13 : ml_d cX11_trueMany 13 (.getfield 90) 3 16 := ⟨by decide +kernel, rfl⟩
theorem dX11_trueMany_16 : ml_d cX11_trueMany 16 (.iload_n 2) 1 17 := ⟨by decide +kernel, rfl⟩
theorem dX11_trueMany_17 : ml_d cX11_trueMany 17 (.iconst 2) 1 18 := ⟨by decide +kernel, rfl⟩
theorem dX11_trueMany_18 : ml_d cX11_trueMany 18 (.iadd) 1 19 := ⟨by decide +kernel, rfl⟩
theorem dX11_trueMany_19 : ml_d cX11_trueMany 19 (.iaload) 1 20 := ⟨by decide +kernel, rfl⟩
theorem dX11_trueMany_20 : ml_j cX11_trueMany 20 (.if_icmp .ge) 149 23 := ⟨129, by decide +kernel, by decide, rfl⟩
theorem dX11_trueMany_23 : ml_d cX11_trueMany 23 (.iconst 0) 1 24 := ⟨by decide +kernel, rfl⟩
theorem dX11_trueMany_24 : ml_d cX11_trueMany 24 (.istore 5) 2 26 := ⟨by decide +kernel, rfl⟩
theorem dX11_trueMany_26 : ml_d cX11_trueMany 26 (.iconst 0) 1 27 := ⟨by decide +kernel, rfl⟩
theorem dX11_trueMany_27 : ml_d cX11_trueMany 27 (.istore 6) 2 29 := ⟨by decide +kernel, rfl⟩
theorem dX11_trueMany_29 : ml_d cX11_trueMany 29 (.iload 6) 2 31 := ⟨by decide +kernel, rfl⟩
theorem dX11_trueMany_31 : ml_d cX11_trueMany 31 (.aload_n 0) 1 32 := ⟨by decide +kernel, rfl⟩
theorem dX11_trueMany_32 : ml_d cX11_trueMany 32 (.getfield 181) 3 35 := ⟨by decide +kernel, rfl⟩
theorem dX11_trueMany_35 : ml_j cX11_trueMany 35 (.if_icmp .ge) 130 38 := ⟨95, by decide +kernel, by decide, rfl⟩
theorem dX11_trueMany_38 : ml_d cX11_trueMany 38 (.iload 5) 2 40 := ⟨by decide +kernel, rfl⟩
theorem dX11_trueMany_40 : ml_j cX11_trueMany 40 (.ifCond .ne) 117 43 := ⟨77, by decide +kernel, by decide, rfl⟩
theorem dX11_trueMany_43 : ml_d cX11_trueMany 43 (.aload_n 0) 1 44 := ⟨by decide +kernel, rfl⟩
theorem dX11_trueMany_44 : ml_d cX11_trueMany 44 (.iload 6) 2 46 := ⟨by decide +kernel, rfl⟩
theorem dX11_trueMany_46 : ml_d cX11_trueMany 46 (.invokevirtual 205) 3 49 := ⟨by decide +kernel, rfl⟩
theorem dX11_trueMany_49 : ml_d cX11_trueMany 49 (.aload_n 0) 1 50 := ⟨by decide +kernel, rfl⟩
theorem dX11_trueMany_50 : ml_d cX11_trueMany 50 (.getfield 90) 3 53 := ⟨by decide +kernel, rfl⟩
theorem dX11_trueMany_53 : ml_d cX11_trueMany 53 (.iload_n 2) 1 54 := ⟨by decide +kernel, rfl⟩
theorem dX11_trueMany_54 : ml_d cX11_trueMany 54 (.iconst 1) 1 55 := ⟨by decide +kernel, rfl⟩
theorem dX11_trueMany_55 : ml_d cX11_trueMany 55 (.iadd) 1 56 := ⟨by decide +kernel, rfl⟩
theorem dX11_trueMany_56 : ml_d cX11_trueMany 56 (.iaload) 1 57 := ⟨by decide +kernel, rfl⟩
theorem dX11_trueMany_57 : ml_j cX11_trueMany 57 (.if_icmp .ne) 121 60 := ⟨64, by decide +kernel, by decide, rfl⟩
theorem dX11_trueMany_60 : ml_d cX11_trueMany 60 (.aload_n 0) 1 61 := ⟨by decide +kernel, rfl⟩
theorem dX11_trueMany_61 : ml_d cX11_trueMany 61 (.iload 6) 2 63 := ⟨by decide +kernel, rfl⟩
theorem dX11_trueMany_63 : ml_d cX11_trueMany 63 (.aload_n 0) 1 64 := ⟨by decide +kernel, rfl⟩
theorem dX11_trueMany_64 : ml_d cX11_trueMany 64 (.getfield 90) 3 67 := ⟨by decide +kernel, rfl⟩
theorem dX11_trueMany_67 : ml_d cX11_trueMany 67 (.iload_n 2) 1 68 := ⟨by decide +kernel, rfl⟩
theorem dX11_trueMany_68 : ml_d cX11_trueMany 68 (.iconst 3) 1 69 := ⟨by decide +kernel, rfl⟩
theorem dX11_trueMany_69 : ml_d cX11_trueMany 69 (.iadd) 1 70 := ⟨by decide +kernel, rfl⟩
theorem dX11_trueMany_70 : ml_d cX11_trueMany 70 (.iconst 2) 1 71 := ⟨by decide +kernel, rfl⟩
theorem dX11_trueMany_71 : ml_d cX11_trueMany 71 (.iload 4) 2 73 := ⟨by decide +kernel, rfl⟩
theorem dX11_trueMany_73 : ml_d cX11_trueMany 73 (.imul) 1 74 := ⟨by decide +kernel, rfl⟩
theorem dX11_trueMany_74 : ml_d cX11_trueMany 74 (.iadd) 1 75 := ⟨by decide +kernel, rfl⟩
theorem dX11_trueMany_75 : ml_d cX11_trueMany 75 (.iaload) 1 76 := ⟨by decide +kernel, rfl⟩
theorem dX11_trueMany_76 : ml_d cX11_trueMany 76 (.invokevirtual 229) 3 79 := ⟨by decide +kernel, rfl⟩
theorem dX11_trueMany_79 : ml_j cX11_trueMany 79 (.ifCond .eq) 121 82 := ⟨42, by decide +kernel, by decide, rfl⟩
theorem dX11_trueMany_82 : ml_d cX11_trueMany 82 (.aload_n 0) 1 83 := ⟨by decide +kernel, rfl⟩
theorem dX11_trueMany_83 : ml_d cX11_trueMany 83 (.iload 6) 2 85 := ⟨by decide +kernel, rfl⟩
theorem dX11_trueMany_85 : ml_d cX11_trueMany 85 (.aload_n 0) 1 86 := ⟨by decide +kernel, rfl⟩
theorem dX11_trueMany_86 : ml_d cX11_trueMany 86 (.getfield 90) 3 89 := ⟨by decide +kernel, rfl⟩
theorem dX11_trueMany_89 : ml_d cX11_trueMany 89 (.iload_n 2) 1 90 := ⟨by decide +kernel, rfl⟩
theorem dX11_trueMany_90 : ml_d cX11_trueMany 90 (.iconst 3) 1 91 := ⟨by decide +kernel, rfl⟩
theorem dX11_trueMany_91 : ml_d cX11_trueMany 91 (.iadd) 1 92 := ⟨by decide +kernel, rfl⟩
theorem dX11_trueMany_92 : ml_d cX11_trueMany 92 (.iconst 2) 1 93 := ⟨by decide +kernel, rfl⟩
theorem dX11_trueMany_93 : ml_d cX11_trueMany 93 (.iload 4) 2 95 := ⟨by decide +kernel, rfl⟩
theorem dX11_trueMany_95 : ml_d cX11_trueMany 95 (.imul) 1 96 := ⟨by decide +kernel, rfl⟩
theorem dX11_trueMany_96 : ml_d cX11_trueMany 96 (.iadd) 1 97 := ⟨by decide +kernel, rfl⟩
theorem dX11_trueMany_97 : ml_d cX11_trueMany 97 (.iaload) 1 98 := ⟨by decide +kernel, rfl⟩
theorem dX11_trueMany_98 : ml_d cX11_trueMany 98 (.invokevirtual 232) 3 101 := ⟨by decide +kernel, rfl⟩
theorem dX11_trueMany_101 : ml_d cX11_trueMany 101 (.aload_n 0) 1 102 := ⟨by decide +kernel, rfl⟩
theorem dX11_trueMany_102 : ml_d cX11_trueMany 102 (.getfield 90) 3 105 := ⟨by decide +kernel, rfl⟩
theorem dX11_trueMany_105 : ml_d cX11_trueMany 105 (.iload_n 2) 1 106 := ⟨by decide +kernel, rfl⟩
theorem dX11_trueMany_106 : ml_d cX11_trueMany 106 (.iconst 4) 1 107 := ⟨by decide +kernel, rfl⟩
theorem dX11_trueMany_107 : ml_d cX11_trueMany 107 (.iadd) 1 108 := ⟨by decide +kernel, rfl⟩
theorem dX11_trueMany_108 : ml_d cX11_trueMany 108 (.iconst 2) 1 109 := ⟨by decide +kernel, rfl⟩
theorem dX11_trueMany_109 : ml_d cX11_trueMany 109 (.iload 4) 2 111 := ⟨by decide +kernel, rfl⟩
theorem dX11_trueMany_111 : ml_d cX11_trueMany 111 (.imul) 1 112 := ⟨by decide +kernel, rfl⟩
theorem dX11_trueMany_112 : ml_d cX11_trueMany 112 (.iadd) 1 113 := ⟨by decide +kernel, rfl⟩
theorem dX11_trueMany_113 : ml_d cX11_trueMany 113 (.iaload) 1 114 := ⟨by decide +kernel, rfl⟩
theorem dX11_trueMany_114 : ml_j cX11_trueMany 114 (.if_icmp .ne) 121 117 := ⟨7, by decide +kernel, by decide, rfl⟩
theorem dX11_trueMany_117 : ml_d cX11_trueMany 117 (.iconst 1) 1 118 := ⟨by decide +kernel, rfl⟩
theorem dX11_trueMany_118 : ml_j cX11_trueMany 118 .goto 122 121 := ⟨4, by decide +kernel, by decide, rfl⟩
theorem dX11_trueMany_121 : ml_d cX11_trueMany 121 (.iconst 0) 1 122 := ⟨by decide +kernel, rfl⟩
theorem dX11_trueMany_122 : ml_d cX11_trueMany 122 (.istore 5) 2 124 := ⟨by decide +kernel, rfl⟩
theorem dX11_trueMany_124 : ml_d cX11_trueMany 124 (.iinc 6 1) 3 127 := ⟨by decide +kernel, rfl⟩
theorem dX11_trueMany_127 : ml_j cX11_trueMany 127 .goto 29 130 := ⟨(-98), by decide +kernel, by decide, rfl⟩
theorem dX11_trueMany_130 : ml_d cX11_trueMany 130 (.iload_n 3) 1 131 := ⟨by decide +kernel, rfl⟩
theorem dX11_trueMany_131 : ml_d cX11_trueMany 131 (.iload 5) 2 133 := ⟨by decide +kernel, rfl⟩
theorem dX11_trueMany_133 : ml_j cX11_trueMany 133 (.ifCond .eq) 140 136 := ⟨7, by decide +kernel, by decide, rfl⟩
theorem dX11_trueMany_136 : ml_d cX11_trueMany 136 (.iconst 1) 1 137 := ⟨by decide +kernel, rfl⟩
theorem dX11_trueMany_137 : ml_j cX11_trueMany 137 .goto 141 140 := ⟨4, by decide +kernel, by decide, rfl⟩
theorem dX11_trueMany_140 : ml_d cX11_trueMany 140 (.iconst 0) 1 141 := ⟨by decide +kernel, rfl⟩
theorem dX11_trueMany_141 : ml_d cX11_trueMany 141 (.iadd) 1 142 := ⟨by decide +kernel, rfl⟩
theorem dX11_trueMany_142 : ml_d cX11_trueMany 142 (.istore_n 3) 1 143 := ⟨by decide +kernel, rfl⟩
theorem dX11_trueMany_143 : ml_d cX11_trueMany 143 (.iinc 4 1) 3 146 := ⟨by decide +kernel, rfl⟩
theorem dX11_trueMany_146 : ml_j cX11_trueMany 146 .goto 10 149 := ⟨(-136), by decide +kernel, by decide, rfl⟩
theorem dX11_trueMany_149 : ml_d cX11_trueMany 149 (.iload_n 3) 1 150 := ⟨by decide +kernel, rfl⟩
theorem dX11_trueMany_150 : ml_d cX11_trueMany 150 (.ireturn) 1 151 := ⟨by decide +kernel, rfl⟩
def fX11_trueMany_122 (k10 : Nat → Int32 → Int32 → Int32 → ml_M → Option Int32) (k29 : Nat → Int32 → Int32 → Int32 → Int32 → Int32 → ml_M → Option Int32) (l0 : Nat) (l2 : Int32) (l3 : Int32) (l4 : Int32) (l6 : Int32) (t0 : Int32) (m : ml_M) : Option Int32 :=
    k29 l0 l2 l3 l4 t0 (l6 + (1 : Int32)) m
theorem vX11_trueMany_122 {E : ml_E} (hL : ml_eL E = 7) {rv : Int32} {m : ml_M} (hr : ∀ (pc pc' : Nat) (lv : List (Nat × ml_X)), ml_d cX11_trueMany pc .ireturn 1 pc' → True → ml_V E "LostRoomModel" cX11_trueMany 4 false m pc lv [ml_i rv]) {k10 : Nat → Int32 → Int32 → Int32 → ml_M → Option Int32} (hk10 : ∀ (l0 : Nat) (l2 : Int32) (l3 : Int32) (l4 : Int32), k10 l0 l2 l3 l4 m = some rv → ml_V E "LostRoomModel" cX11_trueMany 4 false m 10 [(0, ml_r l0), (2, ml_i l2), (3, ml_i l3), (4, ml_i l4)] []) {k29 : Nat → Int32 → Int32 → Int32 → Int32 → Int32 → ml_M → Option Int32} (hk29 : ∀ (l0 : Nat) (l2 : Int32) (l3 : Int32) (l4 : Int32) (l5 : Int32) (l6 : Int32), k29 l0 l2 l3 l4 l5 l6 m = some rv → ml_V E "LostRoomModel" cX11_trueMany 4 false m 29 [(0, ml_r l0), (2, ml_i l2), (3, ml_i l3), (4, ml_i l4), (5, ml_i l5), (6, ml_i l6)] []) : ∀ (l0 : Nat) (l2 : Int32) (l3 : Int32) (l4 : Int32) (l6 : Int32) (t0 : Int32), fX11_trueMany_122 k10 k29 l0 l2 l3 l4 l6 t0 m = some rv → ml_V E "LostRoomModel" cX11_trueMany 4 false m 122 [(0, ml_r l0), (2, ml_i l2), (3, ml_i l3), (4, ml_i l4), (6, ml_i l6)] [ml_i t0] := by
  intro l0 l2 l3 l4 l6 t0 h
  unfold fX11_trueMany_122 at h
  exact ml_istore (lv' := [(5, ml_i t0), (0, ml_r l0), (2, ml_i l2), (3, ml_i l3), (4, ml_i l4), (6, ml_i l6)]) dX11_trueMany_122 (ml_hn hL rfl) rfl <| ml_iinc (lv' := [(6, ml_i (l6 + (1 : Int32))), (5, ml_i t0), (0, ml_r l0), (2, ml_i l2), (3, ml_i l3), (4, ml_i l4)]) dX11_trueMany_124 5 rfl (congrArg (l6 + ·) kc_i1) (ml_hn hL rfl) rfl <| ml_goto dX11_trueMany_127 <| ml_V.sub [2, 3, 4, 5, 1, 0] rfl (hk29 _ _ _ _ _ _ h)
def fX11_trueMany_117 (k10 : Nat → Int32 → Int32 → Int32 → ml_M → Option Int32) (k29 : Nat → Int32 → Int32 → Int32 → Int32 → Int32 → ml_M → Option Int32) (l0 : Nat) (l2 : Int32) (l3 : Int32) (l4 : Int32) (l6 : Int32) (m : ml_M) : Option Int32 :=
    fX11_trueMany_122 k10 k29 l0 l2 l3 l4 l6 (1 : Int32) m
theorem vX11_trueMany_117 {E : ml_E} (hL : ml_eL E = 7) {rv : Int32} {m : ml_M} (hr : ∀ (pc pc' : Nat) (lv : List (Nat × ml_X)), ml_d cX11_trueMany pc .ireturn 1 pc' → True → ml_V E "LostRoomModel" cX11_trueMany 4 false m pc lv [ml_i rv]) {k10 : Nat → Int32 → Int32 → Int32 → ml_M → Option Int32} (hk10 : ∀ (l0 : Nat) (l2 : Int32) (l3 : Int32) (l4 : Int32), k10 l0 l2 l3 l4 m = some rv → ml_V E "LostRoomModel" cX11_trueMany 4 false m 10 [(0, ml_r l0), (2, ml_i l2), (3, ml_i l3), (4, ml_i l4)] []) {k29 : Nat → Int32 → Int32 → Int32 → Int32 → Int32 → ml_M → Option Int32} (hk29 : ∀ (l0 : Nat) (l2 : Int32) (l3 : Int32) (l4 : Int32) (l5 : Int32) (l6 : Int32), k29 l0 l2 l3 l4 l5 l6 m = some rv → ml_V E "LostRoomModel" cX11_trueMany 4 false m 29 [(0, ml_r l0), (2, ml_i l2), (3, ml_i l3), (4, ml_i l4), (5, ml_i l5), (6, ml_i l6)] []) : ∀ (l0 : Nat) (l2 : Int32) (l3 : Int32) (l4 : Int32) (l6 : Int32), fX11_trueMany_117 k10 k29 l0 l2 l3 l4 l6 m = some rv → ml_V E "LostRoomModel" cX11_trueMany 4 false m 117 [(0, ml_r l0), (2, ml_i l2), (3, ml_i l3), (4, ml_i l4), (6, ml_i l6)] [] := by
  intro l0 l2 l3 l4 l6 h
  unfold fX11_trueMany_117 at h
  exact ml_iconst dX11_trueMany_117 kc_i1 <| ml_goto dX11_trueMany_118 <| ml_V.sub [0, 1, 2, 3, 4] rfl (vX11_trueMany_122 hL hr hk10 hk29 _ _ _ _ _ _ h)
def fX11_trueMany_121 (k10 : Nat → Int32 → Int32 → Int32 → ml_M → Option Int32) (k29 : Nat → Int32 → Int32 → Int32 → Int32 → Int32 → ml_M → Option Int32) (l0 : Nat) (l2 : Int32) (l3 : Int32) (l4 : Int32) (l6 : Int32) (m : ml_M) : Option Int32 :=
    fX11_trueMany_122 k10 k29 l0 l2 l3 l4 l6 (0 : Int32) m
theorem vX11_trueMany_121 {E : ml_E} (hL : ml_eL E = 7) {rv : Int32} {m : ml_M} (hr : ∀ (pc pc' : Nat) (lv : List (Nat × ml_X)), ml_d cX11_trueMany pc .ireturn 1 pc' → True → ml_V E "LostRoomModel" cX11_trueMany 4 false m pc lv [ml_i rv]) {k10 : Nat → Int32 → Int32 → Int32 → ml_M → Option Int32} (hk10 : ∀ (l0 : Nat) (l2 : Int32) (l3 : Int32) (l4 : Int32), k10 l0 l2 l3 l4 m = some rv → ml_V E "LostRoomModel" cX11_trueMany 4 false m 10 [(0, ml_r l0), (2, ml_i l2), (3, ml_i l3), (4, ml_i l4)] []) {k29 : Nat → Int32 → Int32 → Int32 → Int32 → Int32 → ml_M → Option Int32} (hk29 : ∀ (l0 : Nat) (l2 : Int32) (l3 : Int32) (l4 : Int32) (l5 : Int32) (l6 : Int32), k29 l0 l2 l3 l4 l5 l6 m = some rv → ml_V E "LostRoomModel" cX11_trueMany 4 false m 29 [(0, ml_r l0), (2, ml_i l2), (3, ml_i l3), (4, ml_i l4), (5, ml_i l5), (6, ml_i l6)] []) : ∀ (l0 : Nat) (l2 : Int32) (l3 : Int32) (l4 : Int32) (l6 : Int32), fX11_trueMany_121 k10 k29 l0 l2 l3 l4 l6 m = some rv → ml_V E "LostRoomModel" cX11_trueMany 4 false m 121 [(0, ml_r l0), (2, ml_i l2), (3, ml_i l3), (4, ml_i l4), (6, ml_i l6)] [] := by
  intro l0 l2 l3 l4 l6 h
  unfold fX11_trueMany_121 at h
  exact ml_iconst dX11_trueMany_121 kc_i0 <| ml_V.sub [0, 1, 2, 3, 4] rfl (vX11_trueMany_122 hL hr hk10 hk29 _ _ _ _ _ _ h)
def fX11_trueMany_141 (k10 : Nat → Int32 → Int32 → Int32 → ml_M → Option Int32) (l0 : Nat) (l2 : Int32) (l4 : Int32) (t0 : Int32) (t1 : Int32) (m : ml_M) : Option Int32 :=
    ml_let (t1 + t0) fun x3744 =>
    k10 l0 l2 x3744 (l4 + (1 : Int32)) m
theorem vX11_trueMany_141 {E : ml_E} (hL : ml_eL E = 7) {rv : Int32} {m : ml_M} (hr : ∀ (pc pc' : Nat) (lv : List (Nat × ml_X)), ml_d cX11_trueMany pc .ireturn 1 pc' → True → ml_V E "LostRoomModel" cX11_trueMany 4 false m pc lv [ml_i rv]) {k10 : Nat → Int32 → Int32 → Int32 → ml_M → Option Int32} (hk10 : ∀ (l0 : Nat) (l2 : Int32) (l3 : Int32) (l4 : Int32), k10 l0 l2 l3 l4 m = some rv → ml_V E "LostRoomModel" cX11_trueMany 4 false m 10 [(0, ml_r l0), (2, ml_i l2), (3, ml_i l3), (4, ml_i l4)] []) : ∀ (l0 : Nat) (l2 : Int32) (l4 : Int32) (t0 : Int32) (t1 : Int32), fX11_trueMany_141 k10 l0 l2 l4 t0 t1 m = some rv → ml_V E "LostRoomModel" cX11_trueMany 4 false m 141 [(0, ml_r l0), (2, ml_i l2), (4, ml_i l4)] [ml_i t0, ml_i t1] := by
  intro l0 l2 l4 t0 t1 h
  unfold fX11_trueMany_141 at h
  exact ml_iadd dX11_trueMany_141 <| ml_lx (mk := ml_i) h fun x3744 h => ml_istore_n (lv' := [(3, ml_i x3744), (0, ml_r l0), (2, ml_i l2), (4, ml_i l4)]) dX11_trueMany_142 (ml_hn hL rfl) rfl <| ml_iinc (lv' := [(4, ml_i (l4 + (1 : Int32))), (3, ml_i x3744), (0, ml_r l0), (2, ml_i l2)]) dX11_trueMany_143 3 rfl (congrArg (l4 + ·) kc_i1) (ml_hn hL rfl) rfl <| ml_goto dX11_trueMany_146 <| ml_V.sub [2, 3, 1, 0] rfl (hk10 _ _ _ _ h)
def fX11_trueMany_130 (k10 : Nat → Int32 → Int32 → Int32 → ml_M → Option Int32) (l0 : Nat) (l2 : Int32) (l3 : Int32) (l4 : Int32) (l5 : Int32) (m : ml_M) : Option Int32 :=
    if l5 = 0 then
    fX11_trueMany_141 k10 l0 l2 l4 (0 : Int32) l3 m
    else
    fX11_trueMany_141 k10 l0 l2 l4 (1 : Int32) l3 m
theorem vX11_trueMany_130 {E : ml_E} (hL : ml_eL E = 7) {rv : Int32} {m : ml_M} (hr : ∀ (pc pc' : Nat) (lv : List (Nat × ml_X)), ml_d cX11_trueMany pc .ireturn 1 pc' → True → ml_V E "LostRoomModel" cX11_trueMany 4 false m pc lv [ml_i rv]) {k10 : Nat → Int32 → Int32 → Int32 → ml_M → Option Int32} (hk10 : ∀ (l0 : Nat) (l2 : Int32) (l3 : Int32) (l4 : Int32), k10 l0 l2 l3 l4 m = some rv → ml_V E "LostRoomModel" cX11_trueMany 4 false m 10 [(0, ml_r l0), (2, ml_i l2), (3, ml_i l3), (4, ml_i l4)] []) : ∀ (l0 : Nat) (l2 : Int32) (l3 : Int32) (l4 : Int32) (l5 : Int32), fX11_trueMany_130 k10 l0 l2 l3 l4 l5 m = some rv → ml_V E "LostRoomModel" cX11_trueMany 4 false m 130 [(0, ml_r l0), (2, ml_i l2), (3, ml_i l3), (4, ml_i l4), (5, ml_i l5)] [] := by
  intro l0 l2 l3 l4 l5 h
  unfold fX11_trueMany_130 at h
  exact ml_iload_n dX11_trueMany_130 2 rfl <| ml_iload dX11_trueMany_131 4 rfl <| ml_if_eq dX11_trueMany_133 h (fun _ h => ml_iconst dX11_trueMany_140 kc_i0 <| ml_V.sub [0, 1, 3] rfl (vX11_trueMany_141 hL hr hk10 _ _ _ _ _ h)) (fun _ h => ml_iconst dX11_trueMany_136 kc_i1 <| ml_goto dX11_trueMany_137 <| ml_V.sub [0, 1, 3] rfl (vX11_trueMany_141 hL hr hk10 _ _ _ _ _ h))
def fX11_trueMany_29 (k10 : Nat → Int32 → Int32 → Int32 → ml_M → Option Int32) : Nat → Nat → Int32 → Int32 → Int32 → Int32 → Int32 → ml_M → Option Int32
  | 0, _, _, _, _, _, _, _ => none
  | fu + 1, l0, l2, l3, l4, l5, l6, m =>
    if (ml_K m l0).1 = 11 then
    if (ml_I m l0 24) ≤ l6 then
    fX11_trueMany_130 k10 l0 l2 l3 l4 l5 m
    else
    if l5 = 0 then
    ml_b1 (fX11_trunkOf l0 l6 m) fun r3747 =>
    ml_let (ml_R m l0 47) fun a3748 =>
    if ml_in m a3748 20 (l2 + (1 : Int32)) then
    if r3747 = (ml_I m a3748 (l2 + (1 : Int32)).toNatClampNeg) then
    ml_let (ml_R m l0 47) fun a3750 =>
    if ml_in m a3750 20 ((l2 + (3 : Int32)) + ((2 : Int32) * l4)) then
    ml_b1 (fX11_isOf l0 l6 (ml_I m a3750 ((l2 + (3 : Int32)) + ((2 : Int32) * l4)).toNatClampNeg) m) fun r3753 =>
    if r3753 = 0 then
    fX11_trueMany_121 k10 (fX11_trueMany_29 k10 fu) l0 l2 l3 l4 l6 m
    else
    ml_let (ml_R m l0 47) fun a3754 =>
    if ml_in m a3754 20 ((l2 + (3 : Int32)) + ((2 : Int32) * l4)) then
    ml_b1 (fX11_markOf l0 l6 (ml_I m a3754 ((l2 + (3 : Int32)) + ((2 : Int32) * l4)).toNatClampNeg) m) fun r3757 =>
    ml_let (ml_R m l0 47) fun a3758 =>
    if ml_in m a3758 20 ((l2 + (4 : Int32)) + ((2 : Int32) * l4)) then
    if r3757 = (ml_I m a3758 ((l2 + (4 : Int32)) + ((2 : Int32) * l4)).toNatClampNeg) then
    fX11_trueMany_117 k10 (fX11_trueMany_29 k10 fu) l0 l2 l3 l4 l6 m
    else
    fX11_trueMany_121 k10 (fX11_trueMany_29 k10 fu) l0 l2 l3 l4 l6 m
    else none
    else none
    else none
    else
    fX11_trueMany_121 k10 (fX11_trueMany_29 k10 fu) l0 l2 l3 l4 l6 m
    else none
    else
    fX11_trueMany_117 k10 (fX11_trueMany_29 k10 fu) l0 l2 l3 l4 l6 m
    else none
theorem vX11_trueMany_29 {E : ml_E} (hL : ml_eL E = 7) {rv : Int32} {m : ml_M} (hr : ∀ (pc pc' : Nat) (lv : List (Nat × ml_X)), ml_d cX11_trueMany pc .ireturn 1 pc' → True → ml_V E "LostRoomModel" cX11_trueMany 4 false m pc lv [ml_i rv]) {k10 : Nat → Int32 → Int32 → Int32 → ml_M → Option Int32} (hk10 : ∀ (l0 : Nat) (l2 : Int32) (l3 : Int32) (l4 : Int32), k10 l0 l2 l3 l4 m = some rv → ml_V E "LostRoomModel" cX11_trueMany 4 false m 10 [(0, ml_r l0), (2, ml_i l2), (3, ml_i l3), (4, ml_i l4)] []) : ∀ (fu : Nat) (l0 : Nat) (l2 : Int32) (l3 : Int32) (l4 : Int32) (l5 : Int32) (l6 : Int32), fX11_trueMany_29 k10 fu l0 l2 l3 l4 l5 l6 m = some rv → ml_V E "LostRoomModel" cX11_trueMany 4 false m 29 [(0, ml_r l0), (2, ml_i l2), (3, ml_i l3), (4, ml_i l4), (5, ml_i l5), (6, ml_i l6)] [] := by
  intro fu
  induction fu with
  | zero => intro l0 l2 l3 l4 l5 l6 h; exact ml_none h
  | succ fu ih =>
    intro l0 l2 l3 l4 l5 l6 h
    have hk29 := ih
    unfold fX11_trueMany_29 at h
    exact ml_iload dX11_trueMany_29 5 rfl <| ml_aload_n dX11_trueMany_31 0 rfl <| ml_ck_of h fun hc3745 h => ml_getI dX11_trueMany_32 wb_228 hc3745 <| ml_icmp_ge dX11_trueMany_35 h (fun _ h => ml_V.sub [0, 1, 2, 3, 4] rfl (vX11_trueMany_130 hL hr hk10 _ _ _ _ _ h)) (fun _ h => ml_iload dX11_trueMany_38 4 rfl <| ml_if_ne dX11_trueMany_40 h (fun _ h => ml_V.sub [0, 1, 2, 3, 5] rfl (vX11_trueMany_117 hL hr hk10 hk29 _ _ _ _ _ h)) (fun _ h => ml_aload_n dX11_trueMany_43 0 rfl <| ml_iload dX11_trueMany_44 5 rfl <| ml_b1_of h fun r3747 hv3746 h => ml_callV dX11_trueMany_46 wm_325 wb_229 hc3745 (sX11_trunkOf hv3746) rfl (Nat.le_of_ble_eq_true rfl) (Nat.le_of_ble_eq_true rfl) rfl <| ml_aload_n dX11_trueMany_49 0 rfl <| ml_getR dX11_trueMany_50 wb_476 hc3745 <| ml_lx (mk := ml_r) h fun a3748 h => ml_iload_n dX11_trueMany_53 1 rfl <| ml_iconst dX11_trueMany_54 kc_i1 <| ml_iadd dX11_trueMany_55 <| ml_ck_of h fun hi3749 h => ml_iald dX11_trueMany_56 hi3749 <| ml_icmp_ne dX11_trueMany_57 h (fun _ h => ml_V.sub [0, 1, 2, 3, 5] rfl (vX11_trueMany_121 hL hr hk10 hk29 _ _ _ _ _ h)) (fun _ h => ml_aload_n dX11_trueMany_60 0 rfl <| ml_iload dX11_trueMany_61 5 rfl <| ml_aload_n dX11_trueMany_63 0 rfl <| ml_getR dX11_trueMany_64 wb_476 hc3745 <| ml_lx (mk := ml_r) h fun a3750 h => ml_iload_n dX11_trueMany_67 1 rfl <| ml_iconst dX11_trueMany_68 kc_i3 <| ml_iadd dX11_trueMany_69 <| ml_iconst dX11_trueMany_70 kc_i2 <| ml_iload dX11_trueMany_71 3 rfl <| ml_imul dX11_trueMany_73 <| ml_iadd dX11_trueMany_74 <| ml_ck_of h fun hi3751 h => ml_iald dX11_trueMany_75 hi3751 <| ml_b1_of h fun r3753 hv3752 h => ml_callV dX11_trueMany_76 wm_432 wb_279 hc3745 (sX11_isOf hv3752) rfl (Nat.le_of_ble_eq_true rfl) (Nat.le_of_ble_eq_true rfl) rfl <| ml_if_eq dX11_trueMany_79 h (fun _ h => ml_V.sub [0, 1, 2, 3, 5] rfl (vX11_trueMany_121 hL hr hk10 hk29 _ _ _ _ _ h)) (fun _ h => ml_aload_n dX11_trueMany_82 0 rfl <| ml_iload dX11_trueMany_83 5 rfl <| ml_aload_n dX11_trueMany_85 0 rfl <| ml_getR dX11_trueMany_86 wb_476 hc3745 <| ml_lx (mk := ml_r) h fun a3754 h => ml_iload_n dX11_trueMany_89 1 rfl <| ml_iconst dX11_trueMany_90 kc_i3 <| ml_iadd dX11_trueMany_91 <| ml_iconst dX11_trueMany_92 kc_i2 <| ml_iload dX11_trueMany_93 3 rfl <| ml_imul dX11_trueMany_95 <| ml_iadd dX11_trueMany_96 <| ml_ck_of h fun hi3755 h => ml_iald dX11_trueMany_97 hi3755 <| ml_b1_of h fun r3757 hv3756 h => ml_callV dX11_trueMany_98 wm_436 wb_280 hc3745 (sX11_markOf hv3756) rfl (Nat.le_of_ble_eq_true rfl) (Nat.le_of_ble_eq_true rfl) rfl <| ml_aload_n dX11_trueMany_101 0 rfl <| ml_getR dX11_trueMany_102 wb_476 hc3745 <| ml_lx (mk := ml_r) h fun a3758 h => ml_iload_n dX11_trueMany_105 1 rfl <| ml_iconst dX11_trueMany_106 kc_i4 <| ml_iadd dX11_trueMany_107 <| ml_iconst dX11_trueMany_108 kc_i2 <| ml_iload dX11_trueMany_109 3 rfl <| ml_imul dX11_trueMany_111 <| ml_iadd dX11_trueMany_112 <| ml_ck_of h fun hi3759 h => ml_iald dX11_trueMany_113 hi3759 <| ml_icmp_ne dX11_trueMany_114 h (fun _ h => ml_V.sub [0, 1, 2, 3, 5] rfl (vX11_trueMany_121 hL hr hk10 hk29 _ _ _ _ _ h)) (fun _ h => ml_V.sub [0, 1, 2, 3, 5] rfl (vX11_trueMany_117 hL hr hk10 hk29 _ _ _ _ _ h))))))
def fX11_trueMany_10 : Nat → Nat → Int32 → Int32 → Int32 → ml_M → Option Int32
  | 0, _, _, _, _, _ => none
  | fu + 1, l0, l2, l3, l4, m =>
    if (ml_K m l0).1 = 11 then
    ml_let (ml_R m l0 47) fun a3761 =>
    if ml_in m a3761 20 (l2 + (2 : Int32)) then
    if (ml_I m a3761 (l2 + (2 : Int32)).toNatClampNeg) ≤ l4 then
    some l3
    else
    fX11_trueMany_29 (fX11_trueMany_10 fu) ml_fu l0 l2 l3 l4 (0 : Int32) (0 : Int32) m
    else none
    else none
theorem vX11_trueMany_10 {E : ml_E} (hL : ml_eL E = 7) {rv : Int32} {m : ml_M} (hr : ∀ (pc pc' : Nat) (lv : List (Nat × ml_X)), ml_d cX11_trueMany pc .ireturn 1 pc' → True → ml_V E "LostRoomModel" cX11_trueMany 4 false m pc lv [ml_i rv]) : ∀ (fu : Nat) (l0 : Nat) (l2 : Int32) (l3 : Int32) (l4 : Int32), fX11_trueMany_10 fu l0 l2 l3 l4 m = some rv → ml_V E "LostRoomModel" cX11_trueMany 4 false m 10 [(0, ml_r l0), (2, ml_i l2), (3, ml_i l3), (4, ml_i l4)] [] := by
  intro fu
  induction fu with
  | zero => intro l0 l2 l3 l4 h; exact ml_none h
  | succ fu ih =>
    intro l0 l2 l3 l4 h
    have hk10 := ih
    unfold fX11_trueMany_10 at h
    exact ml_iload dX11_trueMany_10 3 rfl <| ml_aload_n dX11_trueMany_12 0 rfl <| ml_ck_of h fun hc3760 h => ml_getR dX11_trueMany_13 wb_476 hc3760 <| ml_lx (mk := ml_r) h fun a3761 h => ml_iload_n dX11_trueMany_16 1 rfl <| ml_iconst dX11_trueMany_17 kc_i2 <| ml_iadd dX11_trueMany_18 <| ml_ck_of h fun hi3762 h => ml_iald dX11_trueMany_19 hi3762 <| ml_icmp_ge dX11_trueMany_20 h (fun _ h => ml_iload_n dX11_trueMany_149 2 rfl <| ml_rp (mk := ml_i) hr dX11_trueMany_150 (fun _ => trivial) h) (fun _ h => ml_iconst dX11_trueMany_23 kc_i0 <| ml_istore (lv' := [(5, ml_i (0 : Int32)), (0, ml_r l0), (2, ml_i l2), (3, ml_i l3), (4, ml_i l4)]) dX11_trueMany_24 (ml_hn hL rfl) rfl <| ml_iconst dX11_trueMany_26 kc_i0 <| ml_istore (lv' := [(6, ml_i (0 : Int32)), (5, ml_i (0 : Int32)), (0, ml_r l0), (2, ml_i l2), (3, ml_i l3), (4, ml_i l4)]) dX11_trueMany_27 (ml_hn hL rfl) rfl <| ml_V.sub [2, 3, 4, 5, 1, 0] rfl (vX11_trueMany_29 hL hr hk10 ml_fu _ _ _ _ _ _ h))
def fX11_trueMany (l0 : Nat) (l1 : Int32) (m : ml_M) : Option Int32 :=
    ml_let ((51 : Int32) * l1) fun x3763 =>
    fX11_trueMany_10 ml_fu l0 x3763 (0 : Int32) (0 : Int32) m
theorem wX11_trueMany_0 {E : ml_E} (hL : ml_eL E = 7) {rv : Int32} {m : ml_M} (hr : ∀ (pc pc' : Nat) (lv : List (Nat × ml_X)), ml_d cX11_trueMany pc .ireturn 1 pc' → True → ml_V E "LostRoomModel" cX11_trueMany 4 false m pc lv [ml_i rv]) : ∀ (l0 : Nat) (l1 : Int32), fX11_trueMany l0 l1 m = some rv → ml_V E "LostRoomModel" cX11_trueMany 4 false m 0 [(0, ml_r l0), (1, ml_i l1)] [] := by
  intro l0 l1 h
  unfold fX11_trueMany at h
  exact ml_bipush dX11_trueMany_0 kc_b51 <| ml_iload_n dX11_trueMany_2 1 rfl <| ml_imul dX11_trueMany_3 <| ml_lx (mk := ml_i) h fun x3763 h => ml_istore_n (lv' := [(2, ml_i x3763), (0, ml_r l0), (1, ml_i l1)]) dX11_trueMany_4 (ml_hn hL rfl) rfl <| ml_iconst dX11_trueMany_5 kc_i0 <| ml_istore_n (lv' := [(3, ml_i (0 : Int32)), (2, ml_i x3763), (0, ml_r l0), (1, ml_i l1)]) dX11_trueMany_6 (ml_hn hL rfl) rfl <| ml_iconst dX11_trueMany_7 kc_i0 <| ml_istore (lv' := [(4, ml_i (0 : Int32)), (3, ml_i (0 : Int32)), (2, ml_i x3763), (0, ml_r l0), (1, ml_i l1)]) dX11_trueMany_8 (ml_hn hL rfl) rfl <| ml_V.sub [3, 2, 1, 0] rfl (vX11_trueMany_10 hL hr  ml_fu _ _ _ _ h)
theorem sX11_trueMany {l0 : Nat} {l1 : Int32} {m : ml_M} {rv : Int32} (h : fX11_trueMany l0 l1 m = some rv) : ml_Sn yX11_trueMany cX11_trueMany 7 (some .int) 4 [ml_r l0, ml_i l1] m (some (ml_i rv)) m :=
  ml_Sn_of (P := True) (ini := false) (by decide +kernel) (Nat.le_of_ble_eq_true rfl) (fun h => by cases h) (fun _ => ml_RkI rv) fun E hL hr => wX11_trueMany_0 hL hr _ _ h
theorem dX11_judge_0 : ml_d cX11_judge 0 (.iload_n 1) 1 1 := ⟨by decide +kernel, rfl⟩
theorem dX11_judge_1 : ml_d cX11_judge 1 (.iconst 0) 1 2 := ⟨by decide +kernel, rfl⟩
theorem dX11_judge_2 : ml_d cX11_judge 2 (.aload_n 0) 1 3 := ⟨by decide +kernel, rfl⟩
theorem dX11_judge_3 : ml_d cX11_judge 3 (.getfield 190) 3 6 := ⟨by decide +kernel, rfl⟩
theorem dX11_judge_6 : ml_d cX11_judge 6 (.iconst 1) 1 7 := ⟨by decide +kernel, rfl⟩
theorem dX11_judge_7 : ml_d cX11_judge 7 (.isub) 1 8 := ⟨by decide +kernel, rfl⟩
theorem dX11_judge_8 : ml_d cX11_judge 8 (.invokestatic 100) 3 11 := ⟨by decide +kernel, rfl⟩
theorem dX11_judge_11 : ml_j cX11_judge 11 (.ifCond .eq) 37 14 := ⟨26, by decide +kernel, by decide, rfl⟩
theorem dX11_judge_14 : ml_d cX11_judge 14 (.aload_n 0) 1 15 := ⟨by decide +kernel, rfl⟩
theorem dX11_judge_15 : ml_d cX11_judge 15 (.aload_n 0) 1 16 := ⟨by decide +kernel, rfl⟩
theorem dX11_judge_16 : ml_d cX11_judge 16 (.getfield 90) 3 19 := ⟨by decide +kernel, rfl⟩
theorem dX11_judge_19 : ml_d cX11_judge 19 (.bipush 51) 2 21 := ⟨by decide +kernel, rfl⟩
theorem dX11_judge_21 : ml_d cX11_judge 21 (.iload_n 1) 1 22 := ⟨by decide +kernel, rfl⟩
theorem dX11_judge_22 : ml_d cX11_judge 22 (.imul) 1 23 := ⟨by decide +kernel, rfl⟩
theorem dX11_judge_23 : ml_d cX11_judge 23 (.iconst 2) 1 24 := ⟨by decide +kernel, rfl⟩
theorem dX11_judge_24 : ml_d cX11_judge 24 (.iadd) 1 25 := ⟨by decide +kernel, rfl⟩
theorem dX11_judge_25 : ml_d cX11_judge 25 (.iaload) 1 26 := ⟨by decide +kernel, rfl⟩
theorem dX11_judge_26 : ml_d cX11_judge 26 (.aload_n 0) 1 27 := ⟨by decide +kernel, rfl⟩
theorem dX11_judge_27 : ml_d cX11_judge 27 (.iload_n 1) 1 28 := ⟨by decide +kernel, rfl⟩
theorem dX11_judge_28 : ml_d cX11_judge 28 (.invokevirtual 353) 3 31 := ⟨by decide +kernel, rfl⟩
theorem dX11_judge_31 : ml_d cX11_judge 31 (.invokevirtual 123) 3 34 := ⟨by decide +kernel, rfl⟩
theorem dX11_judge_34 : ml_j cX11_judge 34 .goto 38 37 := ⟨4, by decide +kernel, by decide, rfl⟩
theorem dX11_judge_37 : ml_d cX11_judge 37 (.iconst (-1)) 1 38 := ⟨by decide +kernel, rfl⟩
theorem dX11_judge_38 : ml_d cX11_judge 38 (.ireturn) 1 39 := ⟨by decide +kernel, rfl⟩
def fX11_judge (l0 : Nat) (l1 : Int32) (m : ml_M) : Option (Int32 × ml_M) :=
    if (ml_K m l0).1 = 11 then
    ml_b1 (fX11_in l1 (0 : Int32) ((ml_I m l0 46) - (1 : Int32)) m) fun r3766 =>
    if r3766 = 0 then
    some ((-1 : Int32), m)
    else
    ml_let (ml_R m l0 47) fun a3767 =>
    if ml_in m a3767 20 (((51 : Int32) * l1) + (2 : Int32)) then
    ml_b1 (fX11_trueMany l0 l1 m) fun r3770 =>
    ml_b2 (fX11_tells l0 (ml_I m a3767 (((51 : Int32) * l1) + (2 : Int32)).toNatClampNeg) r3770 m) fun r3772 m3773 =>
    some (r3772, m3773)
    else none
    else none
theorem wX11_judge_0 {E : ml_E} (hL : ml_eL E = 2) {rv : Int32} {rm : ml_M} (hr : ∀ (pc pc' : Nat) (lv : List (Nat × ml_X)), ml_d cX11_judge pc .ireturn 1 pc' → True → ml_V E "LostRoomModel" cX11_judge 5 false rm pc lv [ml_i rv]) : ∀ (l0 : Nat) (l1 : Int32) (m : ml_M), fX11_judge l0 l1 m = some (rv, rm) → ml_V E "LostRoomModel" cX11_judge 5 false m 0 [(0, ml_r l0), (1, ml_i l1)] [] := by
  intro l0 l1 m h
  unfold fX11_judge at h
  exact ml_iload_n dX11_judge_0 1 rfl <| ml_iconst dX11_judge_1 kc_i0 <| ml_aload_n dX11_judge_2 0 rfl <| ml_ck_of h fun hc3764 h => ml_getI dX11_judge_3 wb_475 hc3764 <| ml_iconst dX11_judge_6 kc_i1 <| ml_isub dX11_judge_7 <| ml_b1_of h fun r3766 hv3765 h => ml_callS dX11_judge_8 wm_136 wb_100 (sX11_in hv3765) rfl (Nat.le_of_ble_eq_true rfl) (Nat.le_of_ble_eq_true rfl) rfl <| ml_if_eq dX11_judge_11 h (fun _ h => ml_iconst dX11_judge_37 kc_im1 <| ml_rI (mk := ml_i) hr dX11_judge_38 (fun _ => trivial) h) (fun _ h => ml_aload_n dX11_judge_14 0 rfl <| ml_aload_n dX11_judge_15 0 rfl <| ml_getR dX11_judge_16 wb_476 hc3764 <| ml_lx (mk := ml_r) h fun a3767 h => ml_bipush dX11_judge_19 kc_b51 <| ml_iload_n dX11_judge_21 1 rfl <| ml_imul dX11_judge_22 <| ml_iconst dX11_judge_23 kc_i2 <| ml_iadd dX11_judge_24 <| ml_ck_of h fun hi3768 h => ml_iald dX11_judge_25 hi3768 <| ml_aload_n dX11_judge_26 0 rfl <| ml_iload_n dX11_judge_27 1 rfl <| ml_b1_of h fun r3770 hv3769 h => ml_callV dX11_judge_28 wm_795 wb_481 hc3764 (sX11_trueMany hv3769) rfl (Nat.le_of_ble_eq_true rfl) (Nat.le_of_ble_eq_true rfl) rfl <| ml_b2_of h fun r3772 m3773 hv3771 h => ml_callV dX11_judge_31 wm_158 wb_110 hc3764 (sX11_tells hv3771) rfl (Nat.le_of_ble_eq_true rfl) (Nat.le_of_ble_eq_true rfl) rfl <| ml_goto dX11_judge_34 <| ml_rI (mk := ml_i) hr dX11_judge_38 (fun _ => trivial) h)
theorem sX11_judge {l0 : Nat} {l1 : Int32} {m : ml_M} {rv : Int32} {rm : ml_M} (h : fX11_judge l0 l1 m = some (rv, rm)) : ml_Sn yX11_judge cX11_judge 2 (some .int) 5 [ml_r l0, ml_i l1] m (some (ml_i rv)) rm :=
  ml_Sn_of (P := True) (ini := false) (by decide +kernel) (Nat.le_of_ble_eq_true rfl) (fun h => by cases h) (fun _ => ml_RkI rv) fun E hL hr => wX11_judge_0 hL hr _ _ _ h
theorem dX10_heir_0 : ml_d cX10_heir 0 (.aload_n 0) 1 1 := ⟨by decide +kernel, rfl⟩
theorem dX10_heir_1 : ml_d cX10_heir 1 (.iload_n 1) 1 2 := ⟨by decide +kernel, rfl⟩
theorem dX10_heir_2 : ml_d cX10_heir 2 (.invokevirtual 148) 3 5 := ⟨by decide +kernel, rfl⟩
theorem dX10_heir_5 : ml_j cX10_heir 5 (.ifCond .eq) 18 8 := ⟨13, by decide +kernel, by decide, rfl⟩
theorem dX10_heir_8 : ml_d cX10_heir 8 (.iload_n 2) 1 9 := ⟨by decide +kernel, rfl⟩
theorem dX10_heir_9 : ml_d cX10_heir 9 (.iconst 1) 1 10 := ⟨by decide +kernel, rfl⟩
theorem dX10_heir_10 : ml_d cX10_heir 10 (.bipush 24) 2 12 := ⟨by decide +kernel, rfl⟩
theorem dX10_heir_12 : ml_d cX10_heir 12 (.invokestatic 138) 3 15 := ⟨by decide +kernel, rfl⟩
theorem dX10_heir_15 : ml_j cX10_heir 15 (.ifCond .ne) 20 18 := ⟨5, by decide +kernel, by decide, rfl⟩
theorem dX10_heir_18 : ml_d cX10_heir 18 (.iconst (-1)) 1 19 := ⟨by decide +kernel, rfl⟩
theorem dX10_heir_19 : ml_d cX10_heir 19 (.ireturn) 1 20 := ⟨by decide +kernel, rfl⟩
theorem dX10_heir_20 : ml_d cX10_heir 20 (.iconst 0) 1 21 := ⟨by decide +kernel, rfl⟩
theorem dX10_heir_21 : ml_d cX10_heir 21 (.istore_n 3) 1 22 := ⟨by decide +kernel, rfl⟩
theorem dX10_heir_22 : ml_d cX10_heir 22 (.bipush (-9)) 2 24 := ⟨by decide +kernel, rfl⟩
theorem dX10_heir_24 : ml_d cX10_heir 24 (.istore 4) 2 26 := ⟨by decide +kernel, rfl⟩
theorem dX10_heir_26 : ml_d cX10_heir 26 (.iconst 0) 1 27 := ⟨by decide +kernel, rfl⟩
theorem dX10_heir_27 : ml_d cX10_heir 27 (.istore 5) 2 29 := ⟨by decide +kernel, rfl⟩
theorem dX10_heir_29 : ml_d cX10_heir 29 (.iload 5) 2 31 := ⟨by decide +kernel, rfl⟩
theorem dX10_heir_31 : ml_d cX10_heir 31 (.aload_n 0) 1 32 := ⟨by decide +kernel, rfl⟩
theorem dX10_heir_32 : ml_d cX10_heir 32 (.getfield 127) 3 35 := ⟨by decide +kernel, rfl⟩
theorem dX10_heir_35 : ml_j cX10_heir 35 (.if_icmp .ge) 120 38 := ⟨85, by decide +kernel, by decide, rfl⟩
theorem dX10_heir_38 : ml_d cX10_heir 38 (.aload_n 0) 1 39 := ⟨by decide +kernel, rfl⟩
theorem dX10_heir_39 : ml_d cX10_heir 39 (.getfield 54) 3 42 := ⟨by decide +kernel, rfl⟩
theorem dX10_heir_42 : ml_d cX10_heir 42 (.iload 5) 2 44 := ⟨by decide +kernel, rfl⟩
theorem dX10_heir_44 : ml_d cX10_heir 44 (.aaload) 1 45 := ⟨by decide +kernel, rfl⟩
theorem dX10_heir_45 : ml_d cX10_heir 45 (.astore 6) 2 47 := ⟨by decide +kernel, rfl⟩
theorem dX10_heir_47 : ml_d cX10_heir 47 (.aload 6) 2 49 := ⟨by decide +kernel, rfl⟩
theorem dX10_heir_49 : ml_d cX10_heir 49 (.getfield 322) 3 52 := ⟨by decide +kernel, rfl⟩
theorem dX10_heir_52 : ml_d cX10_heir 52 (.iload_n 1) 1 53 := ⟨by decide +kernel, rfl⟩
theorem dX10_heir_53 : ml_j cX10_heir 53 (.if_icmp .ne) 65 56 := ⟨12, by decide +kernel, by decide, rfl⟩
theorem dX10_heir_56 : ml_d cX10_heir 56 (.aload_n 0) 1 57 := ⟨by decide +kernel, rfl⟩
theorem dX10_heir_57 : ml_d cX10_heir 57 (.aload 6) 2 59 := ⟨by decide +kernel, rfl⟩
theorem dX10_heir_59 : ml_d cX10_heir 59 (.invokevirtual 318) 3 62 := ⟨by decide +kernel, rfl⟩
theorem dX10_heir_62 : ml_j cX10_heir 62 .goto 66 65 := ⟨4, by decide +kernel, by decide, rfl⟩
theorem dX10_heir_65 : ml_d cX10_heir 65 (.iconst 0) 1 66 := ⟨by decide +kernel, rfl⟩
theorem dX10_heir_66 : ml_d cX10_heir 66 (.istore 7) 2 68 := ⟨by decide +kernel, rfl⟩
theorem dX10_heir_68 : ml_d cX10_heir 68 (.iload 7) 2 70 := ⟨by decide +kernel, rfl⟩
theorem dX10_heir_70 : ml_d cX10_heir 70 (.iload_n 2) 1 71 := ⟨by decide +kernel, rfl⟩
theorem dX10_heir_71 : ml_j cX10_heir 71 (.if_icmp .lt) 114 74 := ⟨43, by decide +kernel, by decide, rfl⟩
theorem dX10_heir_74 : ml_d cX10_heir 74 (.iload 7) 2 76 := ⟨by decide +kernel, rfl⟩
theorem dX10_heir_76 : ml_d cX10_heir 76 (.iload_n 3) 1 77 := ⟨by decide +kernel, rfl⟩
theorem dX10_heir_77 : ml_j cX10_heir 77 (.if_icmp .ge) 83 80 := ⟨6, by decide +kernel, by decide, rfl⟩
theorem dX10_heir_80 : ml_j cX10_heir 80 .goto 114 83 := ⟨34, by decide +kernel, by decide, rfl⟩
theorem dX10_heir_83 : ml_d cX10_heir 83 (.iload 7) 2 85 := ⟨by decide +kernel, rfl⟩
theorem dX10_heir_85 : ml_d cX10_heir 85 (.iload_n 3) 1 86 := ⟨by decide +kernel, rfl⟩
theorem dX10_heir_86 : ml_j cX10_heir 86 (.if_icmp .gt) 99 89 := ⟨13, by decide +kernel, by decide, rfl⟩
theorem dX10_heir_89 : ml_d cX10_heir 89 (.iload 4) 2 91 := ⟨by decide +kernel, rfl⟩
theorem dX10_heir_91 : ml_d cX10_heir 91 (.aload 6) 2 93 := ⟨by decide +kernel, rfl⟩
theorem dX10_heir_93 : ml_d cX10_heir 93 (.getfield 323) 3 96 := ⟨by decide +kernel, rfl⟩
theorem dX10_heir_96 : ml_j cX10_heir 96 (.if_icmp .ne) 107 99 := ⟨11, by decide +kernel, by decide, rfl⟩
theorem dX10_heir_99 : ml_d cX10_heir 99 (.aload 6) 2 101 := ⟨by decide +kernel, rfl⟩
theorem dX10_heir_101 : ml_d cX10_heir 101 (.getfield 323) 3 104 := ⟨by decide +kernel, rfl⟩
theorem dX10_heir_104 : ml_j cX10_heir 104 .goto 109 107 := ⟨5, by decide +kernel, by decide, rfl⟩
theorem dX10_heir_107 : ml_d cX10_heir 107 (.bipush (-9)) 2 109 := ⟨by decide +kernel, rfl⟩
theorem dX10_heir_109 : ml_d cX10_heir 109 (.istore 4) 2 111 := ⟨by decide +kernel, rfl⟩
theorem dX10_heir_111 : ml_d cX10_heir 111 (.iload 7) 2 113 := ⟨by decide +kernel, rfl⟩
theorem dX10_heir_113 : ml_d cX10_heir 113 (.istore_n 3) 1 114 := ⟨by decide +kernel, rfl⟩
theorem dX10_heir_114 : ml_d cX10_heir 114 (.iinc 5 1) 3 117 := ⟨by decide +kernel, rfl⟩
theorem dX10_heir_117 : ml_j cX10_heir 117 .goto 29 120 := ⟨(-88), by decide +kernel, by decide, rfl⟩
theorem dX10_heir_120 : ml_d cX10_heir 120 (.iload 4) 2 122 := ⟨by decide +kernel, rfl⟩
theorem dX10_heir_122 : ml_d cX10_heir 122 (.bipush (-9)) 2 124 := ⟨by decide +kernel, rfl⟩
theorem dX10_heir_124 : ml_j cX10_heir 124 (.if_icmp .ne) 130 127 := ⟨6, by decide +kernel, by decide, rfl⟩
theorem dX10_heir_127 : ml_d cX10_heir 127 (.bipush (-9)) 2 129 := ⟨by decide +kernel, rfl⟩
theorem dX10_heir_129 : ml_d cX10_heir 129 (.ireturn) 1 130 := ⟨by decide +kernel, rfl⟩
theorem dX10_heir_130 : ml_d cX10_heir 130 (.aload_n 0) 1 131 := ⟨by decide +kernel, rfl⟩
theorem dX10_heir_131 : ml_d cX10_heir 131 (.iload_n 3) 1 132 := ⟨by decide +kernel, rfl⟩
theorem dX10_heir_132 : ml_d cX10_heir 132 (.putfield 203) 3 135 := ⟨by decide +kernel, rfl⟩
theorem dX10_heir_135 : ml_d cX10_heir 135 (.iload 4) 2 137 := ⟨by decide +kernel, rfl⟩
theorem dX10_heir_137 : ml_d cX10_heir 137 (.ireturn) 1 138 := ⟨by decide +kernel, rfl⟩
def fX10_heir_114 (k29 : Nat → Int32 → Int32 → Int32 → Int32 → Int32 → ml_M → Option (Int32 × ml_M)) (l0 : Nat) (l1 : Int32) (l2 : Int32) (l3 : Int32) (l4 : Int32) (l5 : Int32) (m : ml_M) : Option (Int32 × ml_M) :=
    k29 l0 l1 l2 l3 l4 (l5 + (1 : Int32)) m
theorem vX10_heir_114 {E : ml_E} (hL : ml_eL E = 8) {rv : Int32} {rm : ml_M} (hr : ∀ (pc pc' : Nat) (lv : List (Nat × ml_X)), ml_d cX10_heir pc .ireturn 1 pc' → True → ml_V E "LostRoom" cX10_heir 5 false rm pc lv [ml_i rv]) {k29 : Nat → Int32 → Int32 → Int32 → Int32 → Int32 → ml_M → Option (Int32 × ml_M)} (hk29 : ∀ (l0 : Nat) (l1 : Int32) (l2 : Int32) (l3 : Int32) (l4 : Int32) (l5 : Int32) (m : ml_M), k29 l0 l1 l2 l3 l4 l5 m = some (rv, rm) → ml_V E "LostRoom" cX10_heir 5 false m 29 [(0, ml_r l0), (1, ml_i l1), (2, ml_i l2), (3, ml_i l3), (4, ml_i l4), (5, ml_i l5)] []) : ∀ (l0 : Nat) (l1 : Int32) (l2 : Int32) (l3 : Int32) (l4 : Int32) (l5 : Int32) (m : ml_M), fX10_heir_114 k29 l0 l1 l2 l3 l4 l5 m = some (rv, rm) → ml_V E "LostRoom" cX10_heir 5 false m 114 [(0, ml_r l0), (1, ml_i l1), (2, ml_i l2), (3, ml_i l3), (4, ml_i l4), (5, ml_i l5)] [] := by
  intro l0 l1 l2 l3 l4 l5 m h
  unfold fX10_heir_114 at h
  exact ml_iinc (lv' := [(5, ml_i (l5 + (1 : Int32))), (0, ml_r l0), (1, ml_i l1), (2, ml_i l2), (3, ml_i l3), (4, ml_i l4)]) dX10_heir_114 5 rfl (congrArg (l5 + ·) kc_i1) (ml_hn hL rfl) rfl <| ml_goto dX10_heir_117 <| ml_V.sub [1, 2, 3, 4, 5, 0] rfl (hk29 _ _ _ _ _ _ _ h)
def fX10_heir_109 (k29 : Nat → Int32 → Int32 → Int32 → Int32 → Int32 → ml_M → Option (Int32 × ml_M)) (l0 : Nat) (l1 : Int32) (l2 : Int32) (l5 : Int32) (l7 : Int32) (t0 : Int32) (m : ml_M) : Option (Int32 × ml_M) :=
    fX10_heir_114 k29 l0 l1 l2 l7 t0 l5 m
theorem vX10_heir_109 {E : ml_E} (hL : ml_eL E = 8) {rv : Int32} {rm : ml_M} (hr : ∀ (pc pc' : Nat) (lv : List (Nat × ml_X)), ml_d cX10_heir pc .ireturn 1 pc' → True → ml_V E "LostRoom" cX10_heir 5 false rm pc lv [ml_i rv]) {k29 : Nat → Int32 → Int32 → Int32 → Int32 → Int32 → ml_M → Option (Int32 × ml_M)} (hk29 : ∀ (l0 : Nat) (l1 : Int32) (l2 : Int32) (l3 : Int32) (l4 : Int32) (l5 : Int32) (m : ml_M), k29 l0 l1 l2 l3 l4 l5 m = some (rv, rm) → ml_V E "LostRoom" cX10_heir 5 false m 29 [(0, ml_r l0), (1, ml_i l1), (2, ml_i l2), (3, ml_i l3), (4, ml_i l4), (5, ml_i l5)] []) : ∀ (l0 : Nat) (l1 : Int32) (l2 : Int32) (l5 : Int32) (l7 : Int32) (t0 : Int32) (m : ml_M), fX10_heir_109 k29 l0 l1 l2 l5 l7 t0 m = some (rv, rm) → ml_V E "LostRoom" cX10_heir 5 false m 109 [(0, ml_r l0), (1, ml_i l1), (2, ml_i l2), (5, ml_i l5), (7, ml_i l7)] [ml_i t0] := by
  intro l0 l1 l2 l5 l7 t0 m h
  unfold fX10_heir_109 at h
  exact ml_istore (lv' := [(4, ml_i t0), (0, ml_r l0), (1, ml_i l1), (2, ml_i l2), (5, ml_i l5), (7, ml_i l7)]) dX10_heir_109 (ml_hn hL rfl) rfl <| ml_iload dX10_heir_111 5 rfl <| ml_istore_n (lv' := [(3, ml_i l7), (4, ml_i t0), (0, ml_r l0), (1, ml_i l1), (2, ml_i l2), (5, ml_i l5), (7, ml_i l7)]) dX10_heir_113 (ml_hn hL rfl) rfl <| ml_V.sub [2, 3, 4, 0, 1, 5] rfl (vX10_heir_114 hL hr hk29 _ _ _ _ _ _ _ h)
def fX10_heir_99 (k29 : Nat → Int32 → Int32 → Int32 → Int32 → Int32 → ml_M → Option (Int32 × ml_M)) (l0 : Nat) (l1 : Int32) (l2 : Int32) (l5 : Int32) (l6 : Nat) (l7 : Int32) (m : ml_M) : Option (Int32 × ml_M) :=
    if (ml_K m l6).1 = 2 then
    fX10_heir_109 k29 l0 l1 l2 l5 l7 (ml_I m l6 0) m
    else none
theorem vX10_heir_99 {E : ml_E} (hL : ml_eL E = 8) {rv : Int32} {rm : ml_M} (hr : ∀ (pc pc' : Nat) (lv : List (Nat × ml_X)), ml_d cX10_heir pc .ireturn 1 pc' → True → ml_V E "LostRoom" cX10_heir 5 false rm pc lv [ml_i rv]) {k29 : Nat → Int32 → Int32 → Int32 → Int32 → Int32 → ml_M → Option (Int32 × ml_M)} (hk29 : ∀ (l0 : Nat) (l1 : Int32) (l2 : Int32) (l3 : Int32) (l4 : Int32) (l5 : Int32) (m : ml_M), k29 l0 l1 l2 l3 l4 l5 m = some (rv, rm) → ml_V E "LostRoom" cX10_heir 5 false m 29 [(0, ml_r l0), (1, ml_i l1), (2, ml_i l2), (3, ml_i l3), (4, ml_i l4), (5, ml_i l5)] []) : ∀ (l0 : Nat) (l1 : Int32) (l2 : Int32) (l5 : Int32) (l6 : Nat) (l7 : Int32) (m : ml_M), fX10_heir_99 k29 l0 l1 l2 l5 l6 l7 m = some (rv, rm) → ml_V E "LostRoom" cX10_heir 5 false m 99 [(0, ml_r l0), (1, ml_i l1), (2, ml_i l2), (5, ml_i l5), (6, ml_r l6), (7, ml_i l7)] [] := by
  intro l0 l1 l2 l5 l6 l7 m h
  unfold fX10_heir_99 at h
  exact ml_aload dX10_heir_99 4 rfl <| ml_ck_of h fun hc3774 h => ml_getI dX10_heir_101 wb_482 hc3774 <| ml_goto dX10_heir_104 <| ml_V.sub [0, 1, 2, 3, 5] rfl (vX10_heir_109 hL hr hk29 _ _ _ _ _ _ _ h)
def fX10_heir_66 (k29 : Nat → Int32 → Int32 → Int32 → Int32 → Int32 → ml_M → Option (Int32 × ml_M)) (l0 : Nat) (l1 : Int32) (l2 : Int32) (l3 : Int32) (l4 : Int32) (l5 : Int32) (l6 : Nat) (t0 : Int32) (m : ml_M) : Option (Int32 × ml_M) :=
    if t0 < l2 then
    fX10_heir_114 k29 l0 l1 l2 l3 l4 l5 m
    else
    if l3 ≤ t0 then
    if l3 < t0 then
    fX10_heir_99 k29 l0 l1 l2 l5 l6 t0 m
    else
    if (ml_K m l6).1 = 2 then
    if l4 = (ml_I m l6 0) then
    fX10_heir_99 k29 l0 l1 l2 l5 l6 t0 m
    else
    fX10_heir_109 k29 l0 l1 l2 l5 t0 (-9 : Int32) m
    else none
    else
    fX10_heir_114 k29 l0 l1 l2 l3 l4 l5 m
theorem vX10_heir_66 {E : ml_E} (hL : ml_eL E = 8) {rv : Int32} {rm : ml_M} (hr : ∀ (pc pc' : Nat) (lv : List (Nat × ml_X)), ml_d cX10_heir pc .ireturn 1 pc' → True → ml_V E "LostRoom" cX10_heir 5 false rm pc lv [ml_i rv]) {k29 : Nat → Int32 → Int32 → Int32 → Int32 → Int32 → ml_M → Option (Int32 × ml_M)} (hk29 : ∀ (l0 : Nat) (l1 : Int32) (l2 : Int32) (l3 : Int32) (l4 : Int32) (l5 : Int32) (m : ml_M), k29 l0 l1 l2 l3 l4 l5 m = some (rv, rm) → ml_V E "LostRoom" cX10_heir 5 false m 29 [(0, ml_r l0), (1, ml_i l1), (2, ml_i l2), (3, ml_i l3), (4, ml_i l4), (5, ml_i l5)] []) : ∀ (l0 : Nat) (l1 : Int32) (l2 : Int32) (l3 : Int32) (l4 : Int32) (l5 : Int32) (l6 : Nat) (t0 : Int32) (m : ml_M), fX10_heir_66 k29 l0 l1 l2 l3 l4 l5 l6 t0 m = some (rv, rm) → ml_V E "LostRoom" cX10_heir 5 false m 66 [(0, ml_r l0), (1, ml_i l1), (2, ml_i l2), (3, ml_i l3), (4, ml_i l4), (5, ml_i l5), (6, ml_r l6)] [ml_i t0] := by
  intro l0 l1 l2 l3 l4 l5 l6 t0 m h
  unfold fX10_heir_66 at h
  exact ml_istore (lv' := [(7, ml_i t0), (0, ml_r l0), (1, ml_i l1), (2, ml_i l2), (3, ml_i l3), (4, ml_i l4), (5, ml_i l5), (6, ml_r l6)]) dX10_heir_66 (ml_hn hL rfl) rfl <| ml_iload dX10_heir_68 0 rfl <| ml_iload_n dX10_heir_70 3 rfl <| ml_icmp_lt dX10_heir_71 h (fun _ h => ml_V.sub [1, 2, 3, 4, 5, 6] rfl (vX10_heir_114 hL hr hk29 _ _ _ _ _ _ _ h)) (fun _ h => ml_iload dX10_heir_74 0 rfl <| ml_iload_n dX10_heir_76 4 rfl <| ml_icmp_ge dX10_heir_77 h (fun _ h => ml_iload dX10_heir_83 0 rfl <| ml_iload_n dX10_heir_85 4 rfl <| ml_icmp_gt dX10_heir_86 h (fun _ h => ml_V.sub [1, 2, 3, 6, 7, 0] rfl (vX10_heir_99 hL hr hk29 _ _ _ _ _ _ _ h)) (fun _ h => ml_iload dX10_heir_89 5 rfl <| ml_aload dX10_heir_91 7 rfl <| ml_ck_of h fun hc3775 h => ml_getI dX10_heir_93 wb_482 hc3775 <| ml_icmp_ne dX10_heir_96 h (fun _ h => ml_bipush dX10_heir_107 kc_bm9 <| ml_V.sub [1, 2, 3, 6, 0] rfl (vX10_heir_109 hL hr hk29 _ _ _ _ _ _ _ h)) (fun _ h => ml_V.sub [1, 2, 3, 6, 7, 0] rfl (vX10_heir_99 hL hr hk29 _ _ _ _ _ _ _ h)))) (fun _ h => ml_goto dX10_heir_80 <| ml_V.sub [1, 2, 3, 4, 5, 6] rfl (vX10_heir_114 hL hr hk29 _ _ _ _ _ _ _ h)))
def fX10_heir_120 (l0 : Nat) (l3 : Int32) (l4 : Int32) (m : ml_M) : Option (Int32 × ml_M) :=
    if l4 = (-9 : Int32) then
    some ((-9 : Int32), m)
    else
    if (ml_K m l0).1 = 10 then
    ml_let (ml_sI m l0 15 l3) fun m3777 =>
    some (l4, m3777)
    else none
theorem vX10_heir_120 {E : ml_E} (hL : ml_eL E = 8) {rv : Int32} {rm : ml_M} (hr : ∀ (pc pc' : Nat) (lv : List (Nat × ml_X)), ml_d cX10_heir pc .ireturn 1 pc' → True → ml_V E "LostRoom" cX10_heir 5 false rm pc lv [ml_i rv]) : ∀ (l0 : Nat) (l3 : Int32) (l4 : Int32) (m : ml_M), fX10_heir_120 l0 l3 l4 m = some (rv, rm) → ml_V E "LostRoom" cX10_heir 5 false m 120 [(0, ml_r l0), (3, ml_i l3), (4, ml_i l4)] [] := by
  intro l0 l3 l4 m h
  unfold fX10_heir_120 at h
  exact ml_iload dX10_heir_120 2 rfl <| ml_bipush dX10_heir_122 kc_bm9 <| ml_icmp_ne dX10_heir_124 h (fun _ h => ml_aload_n dX10_heir_130 0 rfl <| ml_iload_n dX10_heir_131 1 rfl <| ml_ck_of h fun hc3776 h => ml_putI dX10_heir_132 wb_106 hc3776 <| ml_lt (m := m) rfl h fun m3777 em3778 h => ml_iload dX10_heir_135 2 rfl <| ml_rI (mk := ml_i) hr dX10_heir_137 (fun _ => trivial) h) (fun _ h => ml_bipush dX10_heir_127 kc_bm9 <| ml_rI (mk := ml_i) hr dX10_heir_129 (fun _ => trivial) h)
def fX10_heir_29 : Nat → Nat → Int32 → Int32 → Int32 → Int32 → Int32 → ml_M → Option (Int32 × ml_M)
  | 0, _, _, _, _, _, _, _ => none
  | fu + 1, l0, l1, l2, l3, l4, l5, m =>
    if (ml_K m l0).1 = 10 then
    if (ml_I m l0 11) ≤ l5 then
    fX10_heir_120 l0 l3 l4 m
    else
    ml_let (ml_R m l0 10) fun a3780 =>
    if ml_in m a3780 26 l5 then
    ml_let (ml_R m a3780 l5.toNatClampNeg) fun a3782 =>
    if (ml_K m a3782).1 = 2 then
    if (ml_I m a3782 1) = l1 then
    ml_b1 (fX10_trueMarks l0 a3782 m) fun r3785 =>
    fX10_heir_66 (fX10_heir_29 fu) l0 l1 l2 l3 l4 l5 a3782 r3785 m
    else
    fX10_heir_66 (fX10_heir_29 fu) l0 l1 l2 l3 l4 l5 a3782 (0 : Int32) m
    else none
    else none
    else none
theorem vX10_heir_29 {E : ml_E} (hL : ml_eL E = 8) {rv : Int32} {rm : ml_M} (hr : ∀ (pc pc' : Nat) (lv : List (Nat × ml_X)), ml_d cX10_heir pc .ireturn 1 pc' → True → ml_V E "LostRoom" cX10_heir 5 false rm pc lv [ml_i rv]) : ∀ (fu : Nat) (l0 : Nat) (l1 : Int32) (l2 : Int32) (l3 : Int32) (l4 : Int32) (l5 : Int32) (m : ml_M), fX10_heir_29 fu l0 l1 l2 l3 l4 l5 m = some (rv, rm) → ml_V E "LostRoom" cX10_heir 5 false m 29 [(0, ml_r l0), (1, ml_i l1), (2, ml_i l2), (3, ml_i l3), (4, ml_i l4), (5, ml_i l5)] [] := by
  intro fu
  induction fu with
  | zero => intro l0 l1 l2 l3 l4 l5 m h; exact ml_none h
  | succ fu ih =>
    intro l0 l1 l2 l3 l4 l5 m h
    have hk29 := ih
    unfold fX10_heir_29 at h
    exact ml_iload dX10_heir_29 5 rfl <| ml_aload_n dX10_heir_31 0 rfl <| ml_ck_of h fun hc3779 h => ml_getI dX10_heir_32 wb_471 hc3779 <| ml_icmp_ge dX10_heir_35 h (fun _ h => ml_V.sub [0, 3, 4] rfl (vX10_heir_120 hL hr  _ _ _ _ h)) (fun _ h => ml_aload_n dX10_heir_38 0 rfl <| ml_getR dX10_heir_39 wb_470 hc3779 <| ml_lx (mk := ml_r) h fun a3780 h => ml_iload dX10_heir_42 5 rfl <| ml_ck_of h fun hi3781 h => ml_aald (kd := 26) dX10_heir_44 (by decide) hi3781 <| ml_lx (mk := ml_r) h fun a3782 h => ml_astore (lv' := [(6, ml_r a3782), (0, ml_r l0), (1, ml_i l1), (2, ml_i l2), (3, ml_i l3), (4, ml_i l4), (5, ml_i l5)]) dX10_heir_45 (ml_hn hL rfl) rfl <| ml_aload dX10_heir_47 0 rfl <| ml_ck_of h fun hc3783 h => ml_getI dX10_heir_49 wb_478 hc3783 <| ml_iload_n dX10_heir_52 2 rfl <| ml_icmp_ne dX10_heir_53 h (fun _ h => ml_iconst dX10_heir_65 kc_i0 <| ml_V.sub [1, 2, 3, 4, 5, 6, 0] rfl (vX10_heir_66 hL hr hk29 _ _ _ _ _ _ _ _ _ h)) (fun _ h => ml_aload_n dX10_heir_56 1 rfl <| ml_aload dX10_heir_57 0 rfl <| ml_b1_of h fun r3785 hv3784 h => ml_callV dX10_heir_59 wm_791 wb_480 hc3779 (sX10_trueMarks hv3784) rfl (Nat.le_of_ble_eq_true rfl) (Nat.le_of_ble_eq_true rfl) rfl <| ml_goto dX10_heir_62 <| ml_V.sub [1, 2, 3, 4, 5, 6, 0] rfl (vX10_heir_66 hL hr hk29 _ _ _ _ _ _ _ _ _ h)))
def fX10_heir (l0 : Nat) (l1 : Int32) (l2 : Int32) (m : ml_M) : Option (Int32 × ml_M) :=
    if (ml_K m l0).1 = 10 then
    ml_b1 (fX10_isTrunk l0 l1 m) fun r3788 =>
    if r3788 = 0 then
    some ((-1 : Int32), m)
    else
    ml_b1 (fX10_within l2 (1 : Int32) (24 : Int32) m) fun r3790 =>
    if r3790 = 0 then
    some ((-1 : Int32), m)
    else
    fX10_heir_29 ml_fu l0 l1 l2 (0 : Int32) (-9 : Int32) (0 : Int32) m
    else none
theorem wX10_heir_0 {E : ml_E} (hL : ml_eL E = 8) {rv : Int32} {rm : ml_M} (hr : ∀ (pc pc' : Nat) (lv : List (Nat × ml_X)), ml_d cX10_heir pc .ireturn 1 pc' → True → ml_V E "LostRoom" cX10_heir 5 false rm pc lv [ml_i rv]) : ∀ (l0 : Nat) (l1 : Int32) (l2 : Int32) (m : ml_M), fX10_heir l0 l1 l2 m = some (rv, rm) → ml_V E "LostRoom" cX10_heir 5 false m 0 [(0, ml_r l0), (1, ml_i l1), (2, ml_i l2)] [] := by
  intro l0 l1 l2 m h
  unfold fX10_heir at h
  exact ml_aload_n dX10_heir_0 0 rfl <| ml_iload_n dX10_heir_1 1 rfl <| ml_ck_of h fun hc3787 h => ml_b1_of h fun r3788 hv3786 h => ml_callV dX10_heir_2 wm_317 wb_225 hc3787 (sX10_isTrunk hv3786) rfl (Nat.le_of_ble_eq_true rfl) (Nat.le_of_ble_eq_true rfl) rfl <| ml_if_eq dX10_heir_5 h (fun _ h => ml_iconst dX10_heir_18 kc_im1 <| ml_rI (mk := ml_i) hr dX10_heir_19 (fun _ => trivial) h) (fun _ h => ml_iload_n dX10_heir_8 2 rfl <| ml_iconst dX10_heir_9 kc_i1 <| ml_bipush dX10_heir_10 kc_b24 <| ml_b1_of h fun r3790 hv3789 h => ml_callS dX10_heir_12 wm_124 wb_94 (sX10_within hv3789) rfl (Nat.le_of_ble_eq_true rfl) (Nat.le_of_ble_eq_true rfl) rfl <| ml_if_ne dX10_heir_15 h (fun _ h => ml_iconst dX10_heir_20 kc_i0 <| ml_istore_n (lv' := [(3, ml_i (0 : Int32)), (0, ml_r l0), (1, ml_i l1), (2, ml_i l2)]) dX10_heir_21 (ml_hn hL rfl) rfl <| ml_bipush dX10_heir_22 kc_bm9 <| ml_istore (lv' := [(4, ml_i (-9 : Int32)), (3, ml_i (0 : Int32)), (0, ml_r l0), (1, ml_i l1), (2, ml_i l2)]) dX10_heir_24 (ml_hn hL rfl) rfl <| ml_iconst dX10_heir_26 kc_i0 <| ml_istore (lv' := [(5, ml_i (0 : Int32)), (4, ml_i (-9 : Int32)), (3, ml_i (0 : Int32)), (0, ml_r l0), (1, ml_i l1), (2, ml_i l2)]) dX10_heir_27 (ml_hn hL rfl) rfl <| ml_V.sub [3, 4, 5, 2, 1, 0] rfl (vX10_heir_29 hL hr  ml_fu _ _ _ _ _ _ _ h)) (fun _ h => ml_iconst dX10_heir_18 kc_im1 <| ml_rI (mk := ml_i) hr dX10_heir_19 (fun _ => trivial) h))
theorem sX10_heir {l0 : Nat} {l1 : Int32} {l2 : Int32} {m : ml_M} {rv : Int32} {rm : ml_M} (h : fX10_heir l0 l1 l2 m = some (rv, rm)) : ml_Sn yX10_heir cX10_heir 8 (some .int) 5 [ml_r l0, ml_i l1, ml_i l2] m (some (ml_i rv)) rm :=
  ml_Sn_of (P := True) (ini := false) (by decide +kernel) (Nat.le_of_ble_eq_true rfl) (fun h => by cases h) (fun _ => ml_RkI rv) fun E hL hr => wX10_heir_0 hL hr _ _ _ _ h
theorem dX11_heir_0 : ml_d cX11_heir 0 (.aload_n 0) 1 1 := ⟨by decide +kernel, rfl⟩
theorem dX11_heir_1 : ml_d cX11_heir 1 (.iload_n 1) 1 2 := ⟨by decide +kernel, rfl⟩
theorem dX11_heir_2 : ml_d cX11_heir 2 (.invokevirtual 199) 3 5 := ⟨by decide +kernel, rfl⟩
theorem dX11_heir_5 : ml_j cX11_heir 5 (.ifCond .eq) 18 8 := ⟨13, by decide +kernel, by decide, rfl⟩
theorem dX11_heir_8 : ml_d cX11_heir 8 (.iload_n 2) 1 9 := ⟨by decide +kernel, rfl⟩
theorem dX11_heir_9 : ml_d cX11_heir 9 (.iconst 1) 1 10 := ⟨by decide +kernel, rfl⟩
theorem dX11_heir_10 : ml_d cX11_heir 10 (.bipush 24) 2 12 := ⟨by decide +kernel, rfl⟩
theorem dX11_heir_12 : ml_d cX11_heir 12 (.invokestatic 100) 3 15 := ⟨by decide +kernel, rfl⟩
theorem dX11_heir_15 : ml_j cX11_heir 15 (.ifCond .ne) 20 18 := ⟨5, by decide +kernel, by decide, rfl⟩
theorem dX11_heir_18 : ml_d cX11_heir 18 (.iconst (-1)) 1 19 := ⟨by decide +kernel, rfl⟩
theorem dX11_heir_19 : ml_d cX11_heir 19 (.ireturn) 1 20 := ⟨by decide +kernel, rfl⟩
theorem dX11_heir_20 : ml_d cX11_heir 20 (.bipush (-9)) 2 22 := ⟨by decide +kernel, rfl⟩
theorem dX11_heir_22 : ml_d cX11_heir 22 (.istore_n 3) 1 23 := ⟨by decide +kernel, rfl⟩
theorem dX11_heir_23 : ml_d cX11_heir 23 (.iconst 0) 1 24 := ⟨by decide +kernel, rfl⟩
theorem dX11_heir_24 : ml_d cX11_heir 24 (.istore 4) 2 26 := ⟨by decide +kernel, rfl⟩
theorem dX11_heir_26 : ml_d cX11_heir 26 (.iconst 0) 1 27 := ⟨by decide +kernel, rfl⟩
theorem dX11_heir_27 : ml_d cX11_heir 27 (.istore 5) 2 29 := ⟨by decide +kernel, rfl⟩
theorem dX11_heir_29 : ml_d cX11_heir 29 (.iconst 0) 1 30 := ⟨by decide +kernel, rfl⟩
theorem dX11_heir_30 : ml_d cX11_heir 30 (.istore 6) 2 32 := ⟨by decide +kernel, rfl⟩
theorem dX11_heir_32 : ml_d cX11_heir 32 (.iload 6) 2 34 := ⟨by decide +kernel, rfl⟩
theorem dX11_heir_34 : ml_d cX11_heir 34 (.aload_n 0) 1 35 := ⟨by decide +kernel, rfl⟩
theorem dX11_heir_35 : ml_d cX11_heir 35 (.getfield 190) 3 38 := ⟨by decide +kernel, rfl⟩
theorem dX11_heir_38 : ml_j cX11_heir 38 (.if_icmp .ge) 136 41 := ⟨98, by decide +kernel, by decide, rfl⟩
theorem dX11_heir_41 : ml_d cX11_heir 41 (.aload_n 0) 1 42 := ⟨by decide +kernel, rfl⟩
theorem dX11_heir_42 : ml_d cX11_heir 42 (.getfield 90) 3 45 := ⟨by decide +kernel, rfl⟩
theorem dX11_heir_45 : ml_d cX11_heir 45 (.bipush 51) 2 47 := ⟨by decide +kernel, rfl⟩
theorem dX11_heir_47 : ml_d cX11_heir 47 (.iload 6) 2 49 := ⟨by decide +kernel, rfl⟩
theorem dX11_heir_49 : ml_d cX11_heir 49 (.imul) 1 50 := ⟨by decide +kernel, rfl⟩
theorem dX11_heir_50 : ml_d cX11_heir 50 (.iconst 1) 1 51 := ⟨by decide +kernel, rfl⟩
theorem dX11_heir_51 : ml_d cX11_heir 51 (.iadd) 1 52 := ⟨by decide +kernel, rfl⟩
theorem dX11_heir_52 : ml_d cX11_heir 52 (.iaload) 1 53 := ⟨by decide +kernel, rfl⟩
theorem dX11_heir_53 : ml_d cX11_heir 53 (.iload_n 1) 1 54 := ⟨by decide +kernel, rfl⟩
theorem dX11_heir_54 : ml_j cX11_heir 54 (.if_icmp .ne) 66 57 := ⟨12, by decide +kernel, by decide, rfl⟩
theorem dX11_heir_57 : ml_d cX11_heir 57 (.aload_n 0) 1 58 := ⟨by decide +kernel, rfl⟩
theorem dX11_heir_58 : ml_d cX11_heir 58 (.iload 6) 2 60 := ⟨by decide +kernel, rfl⟩
theorem dX11_heir_60 : ml_d cX11_heir 60 (.invokevirtual 353) 3 63 := ⟨by decide +kernel, rfl⟩
theorem dX11_heir_63 : ml_j cX11_heir 63 .goto 67 66 := ⟨4, by decide +kernel, by decide, rfl⟩
theorem dX11_heir_66 : ml_d cX11_heir 66 (.iconst (-1)) 1 67 := ⟨by decide +kernel, rfl⟩
theorem dX11_heir_67 : ml_d cX11_heir 67 (.istore 7) 2 69 := ⟨by decide +kernel, rfl⟩
theorem dX11_heir_69 : ml_d cX11_heir 69 (.iload 7) 2 71 := ⟨by decide +kernel, rfl⟩
theorem dX11_heir_71 : ml_d cX11_heir 71 (.iload_n 2) 1 72 := ⟨by decide +kernel, rfl⟩
theorem dX11_heir_72 : ml_j cX11_heir 72 (.if_icmp .lt) 130 75 := ⟨58, by decide +kernel, by decide, rfl⟩
theorem dX11_heir_75 : ml_d cX11_heir 75 (.iload 7) 2 77 := ⟨by decide +kernel, rfl⟩
theorem dX11_heir_77 : ml_d cX11_heir 77 (.iload 4) 2 79 := ⟨by decide +kernel, rfl⟩
theorem dX11_heir_79 : ml_j cX11_heir 79 (.if_icmp .lt) 130 82 := ⟨51, by decide +kernel, by decide, rfl⟩
theorem dX11_heir_82 : ml_d cX11_heir 82 (.iload 7) 2 84 := ⟨by decide +kernel, rfl⟩
theorem dX11_heir_84 : ml_d cX11_heir 84 (.iload 4) 2 86 := ⟨by decide +kernel, rfl⟩
theorem dX11_heir_86 : ml_j cX11_heir 86 (.if_icmp .ne) 112 89 := ⟨26, by decide +kernel, by decide, rfl⟩
theorem dX11_heir_89 : ml_d cX11_heir 89 (.iload 5) 2 91 := ⟨by decide +kernel, rfl⟩
theorem dX11_heir_91 : ml_j cX11_heir 91 (.ifCond .ne) 108 94 := ⟨17, by decide +kernel, by decide, rfl⟩
theorem dX11_heir_94 : ml_d cX11_heir 94 (.iload_n 3) 1 95 := ⟨by decide +kernel, rfl⟩
theorem dX11_heir_95 : ml_d cX11_heir 95 (.aload_n 0) 1 96 := ⟨by decide +kernel, rfl⟩
theorem dX11_heir_96 : ml_d cX11_heir 96 (.getfield 90) 3 99 := ⟨by decide +kernel, rfl⟩
theorem dX11_heir_99 : ml_d cX11_heir 99 (.bipush 51) 2 101 := ⟨by decide +kernel, rfl⟩
theorem dX11_heir_101 : ml_d cX11_heir 101 (.iload 6) 2 103 := ⟨by decide +kernel, rfl⟩
theorem dX11_heir_103 : ml_d cX11_heir 103 (.imul) 1 104 := ⟨by decide +kernel, rfl⟩
theorem dX11_heir_104 : ml_d cX11_heir 104 (.iaload) 1 105 := ⟨by decide +kernel, rfl⟩
theorem dX11_heir_105 : ml_j cX11_heir 105 (.if_icmp .eq) 112 108 := ⟨7, by decide +kernel, by decide, rfl⟩
theorem dX11_heir_108 : ml_d cX11_heir 108 (.iconst 1) 1 109 := ⟨by decide +kernel, rfl⟩
theorem dX11_heir_109 : ml_j cX11_heir 109 .goto 113 112 := ⟨4, by decide +kernel, by decide, rfl⟩
theorem dX11_heir_112 : ml_d cX11_heir 112 (.iconst 0) 1 113 := ⟨by decide +kernel, rfl⟩
theorem dX11_heir_113 : ml_d cX11_heir 113 (.istore 5) 2 115 := ⟨by decide +kernel, rfl⟩
theorem dX11_heir_115 : ml_d cX11_heir 115 (.aload_n 0) 1 116 := ⟨by decide +kernel, rfl⟩
theorem dX11_heir_116 : ml_d cX11_heir 116 (.getfield 90) 3 119 := ⟨by decide +kernel, rfl⟩
theorem dX11_heir_119 : ml_d cX11_heir 119 (.bipush 51) 2 121 := ⟨by decide +kernel, rfl⟩
theorem dX11_heir_121 : ml_d cX11_heir 121 (.iload 6) 2 123 := ⟨by decide +kernel, rfl⟩
theorem dX11_heir_123 : ml_d cX11_heir 123 (.imul) 1 124 := ⟨by decide +kernel, rfl⟩
theorem dX11_heir_124 : ml_d cX11_heir 124 (.iaload) 1 125 := ⟨by decide +kernel, rfl⟩
theorem dX11_heir_125 : ml_d cX11_heir 125 (.istore_n 3) 1 126 := ⟨by decide +kernel, rfl⟩
theorem dX11_heir_126 : ml_d cX11_heir 126 (.iload 7) 2 128 := ⟨by decide +kernel, rfl⟩
theorem dX11_heir_128 : ml_d cX11_heir 128 (.istore 4) 2 130 := ⟨by decide +kernel, rfl⟩
theorem dX11_heir_130 : ml_d cX11_heir 130 (.iinc 6 1) 3 133 := ⟨by decide +kernel, rfl⟩
theorem dX11_heir_133 : ml_j cX11_heir 133 .goto 32 136 := ⟨(-101), by decide +kernel, by decide, rfl⟩
theorem dX11_heir_136 : ml_d cX11_heir 136 (.iload_n 3) 1 137 := ⟨by decide +kernel, rfl⟩
theorem dX11_heir_137 : ml_d cX11_heir 137 (.bipush (-9)) 2 139 := ⟨by decide +kernel, rfl⟩
theorem dX11_heir_139 : ml_j cX11_heir 139 (.if_icmp .eq) 147 142 := ⟨8, by decide +kernel, by decide, rfl⟩
theorem dX11_heir_142 : ml_d cX11_heir 142 (.iload 5) 2 144 := ⟨by decide +kernel, rfl⟩
theorem dX11_heir_144 : ml_j cX11_heir 144 (.ifCond .eq) 152 147 := ⟨8, by decide +kernel, by decide, rfl⟩
theorem dX11_heir_147 : ml_d cX11_heir 147 (.bipush (-9)) 2 149 := ⟨by decide +kernel, rfl⟩
theorem dX11_heir_149 : ml_j cX11_heir 149 .goto 159 152 := ⟨10, by decide +kernel, by decide, rfl⟩
theorem dX11_heir_152 : ml_d cX11_heir 152 (.aload_n 0) 1 153 := ⟨by decide +kernel, rfl⟩
theorem dX11_heir_153 : ml_d cX11_heir 153 (.iload 4) 2 155 := ⟨by decide +kernel, rfl⟩
theorem dX11_heir_155 : ml_d cX11_heir 155 (.iload_n 3) 1 156 := ⟨by decide +kernel, rfl⟩
theorem dX11_heir_156 : ml_d cX11_heir 156 (.invokevirtual 123) 3 159 := ⟨by decide +kernel, rfl⟩
theorem dX11_heir_159 : ml_d cX11_heir 159 (.ireturn) 1 160 := ⟨by decide +kernel, rfl⟩
def fX11_heir_130 (k32 : Nat → Int32 → Int32 → Int32 → Int32 → Int32 → Int32 → ml_M → Option (Int32 × ml_M)) (l0 : Nat) (l1 : Int32) (l2 : Int32) (l3 : Int32) (l4 : Int32) (l5 : Int32) (l6 : Int32) (m : ml_M) : Option (Int32 × ml_M) :=
    k32 l0 l1 l2 l3 l4 l5 (l6 + (1 : Int32)) m
theorem vX11_heir_130 {E : ml_E} (hL : ml_eL E = 8) {rv : Int32} {rm : ml_M} (hr : ∀ (pc pc' : Nat) (lv : List (Nat × ml_X)), ml_d cX11_heir pc .ireturn 1 pc' → True → ml_V E "LostRoomModel" cX11_heir 5 false rm pc lv [ml_i rv]) {k32 : Nat → Int32 → Int32 → Int32 → Int32 → Int32 → Int32 → ml_M → Option (Int32 × ml_M)} (hk32 : ∀ (l0 : Nat) (l1 : Int32) (l2 : Int32) (l3 : Int32) (l4 : Int32) (l5 : Int32) (l6 : Int32) (m : ml_M), k32 l0 l1 l2 l3 l4 l5 l6 m = some (rv, rm) → ml_V E "LostRoomModel" cX11_heir 5 false m 32 [(0, ml_r l0), (1, ml_i l1), (2, ml_i l2), (3, ml_i l3), (4, ml_i l4), (5, ml_i l5), (6, ml_i l6)] []) : ∀ (l0 : Nat) (l1 : Int32) (l2 : Int32) (l3 : Int32) (l4 : Int32) (l5 : Int32) (l6 : Int32) (m : ml_M), fX11_heir_130 k32 l0 l1 l2 l3 l4 l5 l6 m = some (rv, rm) → ml_V E "LostRoomModel" cX11_heir 5 false m 130 [(0, ml_r l0), (1, ml_i l1), (2, ml_i l2), (3, ml_i l3), (4, ml_i l4), (5, ml_i l5), (6, ml_i l6)] [] := by
  intro l0 l1 l2 l3 l4 l5 l6 m h
  unfold fX11_heir_130 at h
  exact ml_iinc (lv' := [(6, ml_i (l6 + (1 : Int32))), (0, ml_r l0), (1, ml_i l1), (2, ml_i l2), (3, ml_i l3), (4, ml_i l4), (5, ml_i l5)]) dX11_heir_130 6 rfl (congrArg (l6 + ·) kc_i1) (ml_hn hL rfl) rfl <| ml_goto dX11_heir_133 <| ml_V.sub [1, 2, 3, 4, 5, 6, 0] rfl (hk32 _ _ _ _ _ _ _ _ h)
def fX11_heir_113 (k32 : Nat → Int32 → Int32 → Int32 → Int32 → Int32 → Int32 → ml_M → Option (Int32 × ml_M)) (l0 : Nat) (l1 : Int32) (l2 : Int32) (l6 : Int32) (l7 : Int32) (t0 : Int32) (m : ml_M) : Option (Int32 × ml_M) :=
    if (ml_K m l0).1 = 11 then
    ml_let (ml_R m l0 47) fun a3792 =>
    if ml_in m a3792 20 ((51 : Int32) * l6) then
    ml_let (ml_I m a3792 ((51 : Int32) * l6).toNatClampNeg) fun x3794 =>
    fX11_heir_130 k32 l0 l1 l2 x3794 l7 t0 l6 m
    else none
    else none
theorem vX11_heir_113 {E : ml_E} (hL : ml_eL E = 8) {rv : Int32} {rm : ml_M} (hr : ∀ (pc pc' : Nat) (lv : List (Nat × ml_X)), ml_d cX11_heir pc .ireturn 1 pc' → True → ml_V E "LostRoomModel" cX11_heir 5 false rm pc lv [ml_i rv]) {k32 : Nat → Int32 → Int32 → Int32 → Int32 → Int32 → Int32 → ml_M → Option (Int32 × ml_M)} (hk32 : ∀ (l0 : Nat) (l1 : Int32) (l2 : Int32) (l3 : Int32) (l4 : Int32) (l5 : Int32) (l6 : Int32) (m : ml_M), k32 l0 l1 l2 l3 l4 l5 l6 m = some (rv, rm) → ml_V E "LostRoomModel" cX11_heir 5 false m 32 [(0, ml_r l0), (1, ml_i l1), (2, ml_i l2), (3, ml_i l3), (4, ml_i l4), (5, ml_i l5), (6, ml_i l6)] []) : ∀ (l0 : Nat) (l1 : Int32) (l2 : Int32) (l6 : Int32) (l7 : Int32) (t0 : Int32) (m : ml_M), fX11_heir_113 k32 l0 l1 l2 l6 l7 t0 m = some (rv, rm) → ml_V E "LostRoomModel" cX11_heir 5 false m 113 [(0, ml_r l0), (1, ml_i l1), (2, ml_i l2), (6, ml_i l6), (7, ml_i l7)] [ml_i t0] := by
  intro l0 l1 l2 l6 l7 t0 m h
  unfold fX11_heir_113 at h
  exact ml_istore (lv' := [(5, ml_i t0), (0, ml_r l0), (1, ml_i l1), (2, ml_i l2), (6, ml_i l6), (7, ml_i l7)]) dX11_heir_113 (ml_hn hL rfl) rfl <| ml_aload_n dX11_heir_115 1 rfl <| ml_ck_of h fun hc3791 h => ml_getR dX11_heir_116 wb_476 hc3791 <| ml_lx (mk := ml_r) h fun a3792 h => ml_bipush dX11_heir_119 kc_b51 <| ml_iload dX11_heir_121 4 rfl <| ml_imul dX11_heir_123 <| ml_ck_of h fun hi3793 h => ml_iald dX11_heir_124 hi3793 <| ml_lx (mk := ml_i) h fun x3794 h => ml_istore_n (lv' := [(3, ml_i x3794), (5, ml_i t0), (0, ml_r l0), (1, ml_i l1), (2, ml_i l2), (6, ml_i l6), (7, ml_i l7)]) dX11_heir_125 (ml_hn hL rfl) rfl <| ml_iload dX11_heir_126 6 rfl <| ml_istore (lv' := [(4, ml_i l7), (3, ml_i x3794), (5, ml_i t0), (0, ml_r l0), (1, ml_i l1), (2, ml_i l2), (6, ml_i l6), (7, ml_i l7)]) dX11_heir_128 (ml_hn hL rfl) rfl <| ml_V.sub [3, 4, 5, 1, 0, 2, 6] rfl (vX11_heir_130 hL hr hk32 _ _ _ _ _ _ _ _ h)
def fX11_heir_108 (k32 : Nat → Int32 → Int32 → Int32 → Int32 → Int32 → Int32 → ml_M → Option (Int32 × ml_M)) (l0 : Nat) (l1 : Int32) (l2 : Int32) (l6 : Int32) (l7 : Int32) (m : ml_M) : Option (Int32 × ml_M) :=
    fX11_heir_113 k32 l0 l1 l2 l6 l7 (1 : Int32) m
theorem vX11_heir_108 {E : ml_E} (hL : ml_eL E = 8) {rv : Int32} {rm : ml_M} (hr : ∀ (pc pc' : Nat) (lv : List (Nat × ml_X)), ml_d cX11_heir pc .ireturn 1 pc' → True → ml_V E "LostRoomModel" cX11_heir 5 false rm pc lv [ml_i rv]) {k32 : Nat → Int32 → Int32 → Int32 → Int32 → Int32 → Int32 → ml_M → Option (Int32 × ml_M)} (hk32 : ∀ (l0 : Nat) (l1 : Int32) (l2 : Int32) (l3 : Int32) (l4 : Int32) (l5 : Int32) (l6 : Int32) (m : ml_M), k32 l0 l1 l2 l3 l4 l5 l6 m = some (rv, rm) → ml_V E "LostRoomModel" cX11_heir 5 false m 32 [(0, ml_r l0), (1, ml_i l1), (2, ml_i l2), (3, ml_i l3), (4, ml_i l4), (5, ml_i l5), (6, ml_i l6)] []) : ∀ (l0 : Nat) (l1 : Int32) (l2 : Int32) (l6 : Int32) (l7 : Int32) (m : ml_M), fX11_heir_108 k32 l0 l1 l2 l6 l7 m = some (rv, rm) → ml_V E "LostRoomModel" cX11_heir 5 false m 108 [(0, ml_r l0), (1, ml_i l1), (2, ml_i l2), (6, ml_i l6), (7, ml_i l7)] [] := by
  intro l0 l1 l2 l6 l7 m h
  unfold fX11_heir_108 at h
  exact ml_iconst dX11_heir_108 kc_i1 <| ml_goto dX11_heir_109 <| ml_V.sub [0, 1, 2, 3, 4] rfl (vX11_heir_113 hL hr hk32 _ _ _ _ _ _ _ h)
def fX11_heir_112 (k32 : Nat → Int32 → Int32 → Int32 → Int32 → Int32 → Int32 → ml_M → Option (Int32 × ml_M)) (l0 : Nat) (l1 : Int32) (l2 : Int32) (l6 : Int32) (l7 : Int32) (m : ml_M) : Option (Int32 × ml_M) :=
    fX11_heir_113 k32 l0 l1 l2 l6 l7 (0 : Int32) m
theorem vX11_heir_112 {E : ml_E} (hL : ml_eL E = 8) {rv : Int32} {rm : ml_M} (hr : ∀ (pc pc' : Nat) (lv : List (Nat × ml_X)), ml_d cX11_heir pc .ireturn 1 pc' → True → ml_V E "LostRoomModel" cX11_heir 5 false rm pc lv [ml_i rv]) {k32 : Nat → Int32 → Int32 → Int32 → Int32 → Int32 → Int32 → ml_M → Option (Int32 × ml_M)} (hk32 : ∀ (l0 : Nat) (l1 : Int32) (l2 : Int32) (l3 : Int32) (l4 : Int32) (l5 : Int32) (l6 : Int32) (m : ml_M), k32 l0 l1 l2 l3 l4 l5 l6 m = some (rv, rm) → ml_V E "LostRoomModel" cX11_heir 5 false m 32 [(0, ml_r l0), (1, ml_i l1), (2, ml_i l2), (3, ml_i l3), (4, ml_i l4), (5, ml_i l5), (6, ml_i l6)] []) : ∀ (l0 : Nat) (l1 : Int32) (l2 : Int32) (l6 : Int32) (l7 : Int32) (m : ml_M), fX11_heir_112 k32 l0 l1 l2 l6 l7 m = some (rv, rm) → ml_V E "LostRoomModel" cX11_heir 5 false m 112 [(0, ml_r l0), (1, ml_i l1), (2, ml_i l2), (6, ml_i l6), (7, ml_i l7)] [] := by
  intro l0 l1 l2 l6 l7 m h
  unfold fX11_heir_112 at h
  exact ml_iconst dX11_heir_112 kc_i0 <| ml_V.sub [0, 1, 2, 3, 4] rfl (vX11_heir_113 hL hr hk32 _ _ _ _ _ _ _ h)
def fX11_heir_67 (k32 : Nat → Int32 → Int32 → Int32 → Int32 → Int32 → Int32 → ml_M → Option (Int32 × ml_M)) (l0 : Nat) (l1 : Int32) (l2 : Int32) (l3 : Int32) (l4 : Int32) (l5 : Int32) (l6 : Int32) (t0 : Int32) (m : ml_M) : Option (Int32 × ml_M) :=
    if t0 < l2 then
    fX11_heir_130 k32 l0 l1 l2 l3 l4 l5 l6 m
    else
    if t0 < l4 then
    fX11_heir_130 k32 l0 l1 l2 l3 l4 l5 l6 m
    else
    if t0 = l4 then
    if l5 = 0 then
    if (ml_K m l0).1 = 11 then
    ml_let (ml_R m l0 47) fun a3796 =>
    if ml_in m a3796 20 ((51 : Int32) * l6) then
    if l3 = (ml_I m a3796 ((51 : Int32) * l6).toNatClampNeg) then
    fX11_heir_112 k32 l0 l1 l2 l6 t0 m
    else
    fX11_heir_108 k32 l0 l1 l2 l6 t0 m
    else none
    else none
    else
    fX11_heir_108 k32 l0 l1 l2 l6 t0 m
    else
    fX11_heir_112 k32 l0 l1 l2 l6 t0 m
theorem vX11_heir_67 {E : ml_E} (hL : ml_eL E = 8) {rv : Int32} {rm : ml_M} (hr : ∀ (pc pc' : Nat) (lv : List (Nat × ml_X)), ml_d cX11_heir pc .ireturn 1 pc' → True → ml_V E "LostRoomModel" cX11_heir 5 false rm pc lv [ml_i rv]) {k32 : Nat → Int32 → Int32 → Int32 → Int32 → Int32 → Int32 → ml_M → Option (Int32 × ml_M)} (hk32 : ∀ (l0 : Nat) (l1 : Int32) (l2 : Int32) (l3 : Int32) (l4 : Int32) (l5 : Int32) (l6 : Int32) (m : ml_M), k32 l0 l1 l2 l3 l4 l5 l6 m = some (rv, rm) → ml_V E "LostRoomModel" cX11_heir 5 false m 32 [(0, ml_r l0), (1, ml_i l1), (2, ml_i l2), (3, ml_i l3), (4, ml_i l4), (5, ml_i l5), (6, ml_i l6)] []) : ∀ (l0 : Nat) (l1 : Int32) (l2 : Int32) (l3 : Int32) (l4 : Int32) (l5 : Int32) (l6 : Int32) (t0 : Int32) (m : ml_M), fX11_heir_67 k32 l0 l1 l2 l3 l4 l5 l6 t0 m = some (rv, rm) → ml_V E "LostRoomModel" cX11_heir 5 false m 67 [(0, ml_r l0), (1, ml_i l1), (2, ml_i l2), (3, ml_i l3), (4, ml_i l4), (5, ml_i l5), (6, ml_i l6)] [ml_i t0] := by
  intro l0 l1 l2 l3 l4 l5 l6 t0 m h
  unfold fX11_heir_67 at h
  exact ml_istore (lv' := [(7, ml_i t0), (0, ml_r l0), (1, ml_i l1), (2, ml_i l2), (3, ml_i l3), (4, ml_i l4), (5, ml_i l5), (6, ml_i l6)]) dX11_heir_67 (ml_hn hL rfl) rfl <| ml_iload dX11_heir_69 0 rfl <| ml_iload_n dX11_heir_71 3 rfl <| ml_icmp_lt dX11_heir_72 h (fun _ h => ml_V.sub [1, 2, 3, 4, 5, 6, 7] rfl (vX11_heir_130 hL hr hk32 _ _ _ _ _ _ _ _ h)) (fun _ h => ml_iload dX11_heir_75 0 rfl <| ml_iload dX11_heir_77 5 rfl <| ml_icmp_lt dX11_heir_79 h (fun _ h => ml_V.sub [1, 2, 3, 4, 5, 6, 7] rfl (vX11_heir_130 hL hr hk32 _ _ _ _ _ _ _ _ h)) (fun _ h => ml_iload dX11_heir_82 0 rfl <| ml_iload dX11_heir_84 5 rfl <| ml_icmp_ne dX11_heir_86 h (fun _ h => ml_V.sub [1, 2, 3, 7, 0] rfl (vX11_heir_112 hL hr hk32 _ _ _ _ _ _ h)) (fun _ h => ml_iload dX11_heir_89 6 rfl <| ml_if_ne dX11_heir_91 h (fun _ h => ml_V.sub [1, 2, 3, 7, 0] rfl (vX11_heir_108 hL hr hk32 _ _ _ _ _ _ h)) (fun _ h => ml_iload_n dX11_heir_94 4 rfl <| ml_aload_n dX11_heir_95 1 rfl <| ml_ck_of h fun hc3795 h => ml_getR dX11_heir_96 wb_476 hc3795 <| ml_lx (mk := ml_r) h fun a3796 h => ml_bipush dX11_heir_99 kc_b51 <| ml_iload dX11_heir_101 7 rfl <| ml_imul dX11_heir_103 <| ml_ck_of h fun hi3797 h => ml_iald dX11_heir_104 hi3797 <| ml_icmp_eq dX11_heir_105 h (fun _ h => ml_V.sub [1, 2, 3, 7, 0] rfl (vX11_heir_112 hL hr hk32 _ _ _ _ _ _ h)) (fun _ h => ml_V.sub [1, 2, 3, 7, 0] rfl (vX11_heir_108 hL hr hk32 _ _ _ _ _ _ h))))))
def fX11_heir_147 (m : ml_M) : Option (Int32 × ml_M) :=
    some ((-9 : Int32), m)
theorem vX11_heir_147 {E : ml_E} (hL : ml_eL E = 8) {rv : Int32} {rm : ml_M} (hr : ∀ (pc pc' : Nat) (lv : List (Nat × ml_X)), ml_d cX11_heir pc .ireturn 1 pc' → True → ml_V E "LostRoomModel" cX11_heir 5 false rm pc lv [ml_i rv]) : ∀  (m : ml_M), fX11_heir_147  m = some (rv, rm) → ml_V E "LostRoomModel" cX11_heir 5 false m 147 [] [] := by
  intro  m h
  unfold fX11_heir_147 at h
  exact ml_bipush dX11_heir_147 kc_bm9 <| ml_goto dX11_heir_149 <| ml_rI (mk := ml_i) hr dX11_heir_159 (fun _ => trivial) h
def fX11_heir_136 (l0 : Nat) (l3 : Int32) (l4 : Int32) (l5 : Int32) (m : ml_M) : Option (Int32 × ml_M) :=
    if l3 = (-9 : Int32) then
    fX11_heir_147 m
    else
    if l5 = 0 then
    if (ml_K m l0).1 = 11 then
    ml_b2 (fX11_tells l0 l4 l3 m) fun r3800 m3801 =>
    some (r3800, m3801)
    else none
    else
    fX11_heir_147 m
theorem vX11_heir_136 {E : ml_E} (hL : ml_eL E = 8) {rv : Int32} {rm : ml_M} (hr : ∀ (pc pc' : Nat) (lv : List (Nat × ml_X)), ml_d cX11_heir pc .ireturn 1 pc' → True → ml_V E "LostRoomModel" cX11_heir 5 false rm pc lv [ml_i rv]) : ∀ (l0 : Nat) (l3 : Int32) (l4 : Int32) (l5 : Int32) (m : ml_M), fX11_heir_136 l0 l3 l4 l5 m = some (rv, rm) → ml_V E "LostRoomModel" cX11_heir 5 false m 136 [(0, ml_r l0), (3, ml_i l3), (4, ml_i l4), (5, ml_i l5)] [] := by
  intro l0 l3 l4 l5 m h
  unfold fX11_heir_136 at h
  exact ml_iload_n dX11_heir_136 1 rfl <| ml_bipush dX11_heir_137 kc_bm9 <| ml_icmp_eq dX11_heir_139 h (fun _ h => ml_V.sub [] rfl (vX11_heir_147 hL hr  _ h)) (fun _ h => ml_iload dX11_heir_142 3 rfl <| ml_if_eq dX11_heir_144 h (fun _ h => ml_aload_n dX11_heir_152 0 rfl <| ml_iload dX11_heir_153 2 rfl <| ml_iload_n dX11_heir_155 1 rfl <| ml_ck_of h fun hc3799 h => ml_b2_of h fun r3800 m3801 hv3798 h => ml_callV dX11_heir_156 wm_158 wb_110 hc3799 (sX11_tells hv3798) rfl (Nat.le_of_ble_eq_true rfl) (Nat.le_of_ble_eq_true rfl) rfl <| ml_rI (mk := ml_i) hr dX11_heir_159 (fun _ => trivial) h) (fun _ h => ml_V.sub [] rfl (vX11_heir_147 hL hr  _ h)))
def fX11_heir_32 : Nat → Nat → Int32 → Int32 → Int32 → Int32 → Int32 → Int32 → ml_M → Option (Int32 × ml_M)
  | 0, _, _, _, _, _, _, _, _ => none
  | fu + 1, l0, l1, l2, l3, l4, l5, l6, m =>
    if (ml_K m l0).1 = 11 then
    if (ml_I m l0 46) ≤ l6 then
    fX11_heir_136 l0 l3 l4 l5 m
    else
    ml_let (ml_R m l0 47) fun a3803 =>
    if ml_in m a3803 20 (((51 : Int32) * l6) + (1 : Int32)) then
    if (ml_I m a3803 (((51 : Int32) * l6) + (1 : Int32)).toNatClampNeg) = l1 then
    ml_b1 (fX11_trueMany l0 l6 m) fun r3806 =>
    fX11_heir_67 (fX11_heir_32 fu) l0 l1 l2 l3 l4 l5 l6 r3806 m
    else
    fX11_heir_67 (fX11_heir_32 fu) l0 l1 l2 l3 l4 l5 l6 (-1 : Int32) m
    else none
    else none
theorem vX11_heir_32 {E : ml_E} (hL : ml_eL E = 8) {rv : Int32} {rm : ml_M} (hr : ∀ (pc pc' : Nat) (lv : List (Nat × ml_X)), ml_d cX11_heir pc .ireturn 1 pc' → True → ml_V E "LostRoomModel" cX11_heir 5 false rm pc lv [ml_i rv]) : ∀ (fu : Nat) (l0 : Nat) (l1 : Int32) (l2 : Int32) (l3 : Int32) (l4 : Int32) (l5 : Int32) (l6 : Int32) (m : ml_M), fX11_heir_32 fu l0 l1 l2 l3 l4 l5 l6 m = some (rv, rm) → ml_V E "LostRoomModel" cX11_heir 5 false m 32 [(0, ml_r l0), (1, ml_i l1), (2, ml_i l2), (3, ml_i l3), (4, ml_i l4), (5, ml_i l5), (6, ml_i l6)] [] := by
  intro fu
  induction fu with
  | zero => intro l0 l1 l2 l3 l4 l5 l6 m h; exact ml_none h
  | succ fu ih =>
    intro l0 l1 l2 l3 l4 l5 l6 m h
    have hk32 := ih
    unfold fX11_heir_32 at h
    exact ml_iload dX11_heir_32 6 rfl <| ml_aload_n dX11_heir_34 0 rfl <| ml_ck_of h fun hc3802 h => ml_getI dX11_heir_35 wb_475 hc3802 <| ml_icmp_ge dX11_heir_38 h (fun _ h => ml_V.sub [0, 3, 4, 5] rfl (vX11_heir_136 hL hr  _ _ _ _ _ h)) (fun _ h => ml_aload_n dX11_heir_41 0 rfl <| ml_getR dX11_heir_42 wb_476 hc3802 <| ml_lx (mk := ml_r) h fun a3803 h => ml_bipush dX11_heir_45 kc_b51 <| ml_iload dX11_heir_47 6 rfl <| ml_imul dX11_heir_49 <| ml_iconst dX11_heir_50 kc_i1 <| ml_iadd dX11_heir_51 <| ml_ck_of h fun hi3804 h => ml_iald dX11_heir_52 hi3804 <| ml_iload_n dX11_heir_53 1 rfl <| ml_icmp_ne dX11_heir_54 h (fun _ h => ml_iconst dX11_heir_66 kc_im1 <| ml_V.sub [0, 1, 2, 3, 4, 5, 6] rfl (vX11_heir_67 hL hr hk32 _ _ _ _ _ _ _ _ _ h)) (fun _ h => ml_aload_n dX11_heir_57 0 rfl <| ml_iload dX11_heir_58 6 rfl <| ml_b1_of h fun r3806 hv3805 h => ml_callV dX11_heir_60 wm_795 wb_481 hc3802 (sX11_trueMany hv3805) rfl (Nat.le_of_ble_eq_true rfl) (Nat.le_of_ble_eq_true rfl) rfl <| ml_goto dX11_heir_63 <| ml_V.sub [0, 1, 2, 3, 4, 5, 6] rfl (vX11_heir_67 hL hr hk32 _ _ _ _ _ _ _ _ _ h)))
def fX11_heir (l0 : Nat) (l1 : Int32) (l2 : Int32) (m : ml_M) : Option (Int32 × ml_M) :=
    if (ml_K m l0).1 = 11 then
    ml_b1 (fX11_isTrunk l0 l1 m) fun r3809 =>
    if r3809 = 0 then
    some ((-1 : Int32), m)
    else
    ml_b1 (fX11_in l2 (1 : Int32) (24 : Int32) m) fun r3811 =>
    if r3811 = 0 then
    some ((-1 : Int32), m)
    else
    fX11_heir_32 ml_fu l0 l1 l2 (-9 : Int32) (0 : Int32) (0 : Int32) (0 : Int32) m
    else none
theorem wX11_heir_0 {E : ml_E} (hL : ml_eL E = 8) {rv : Int32} {rm : ml_M} (hr : ∀ (pc pc' : Nat) (lv : List (Nat × ml_X)), ml_d cX11_heir pc .ireturn 1 pc' → True → ml_V E "LostRoomModel" cX11_heir 5 false rm pc lv [ml_i rv]) : ∀ (l0 : Nat) (l1 : Int32) (l2 : Int32) (m : ml_M), fX11_heir l0 l1 l2 m = some (rv, rm) → ml_V E "LostRoomModel" cX11_heir 5 false m 0 [(0, ml_r l0), (1, ml_i l1), (2, ml_i l2)] [] := by
  intro l0 l1 l2 m h
  unfold fX11_heir at h
  exact ml_aload_n dX11_heir_0 0 rfl <| ml_iload_n dX11_heir_1 1 rfl <| ml_ck_of h fun hc3808 h => ml_b1_of h fun r3809 hv3807 h => ml_callV dX11_heir_2 wm_333 wb_232 hc3808 (sX11_isTrunk hv3807) rfl (Nat.le_of_ble_eq_true rfl) (Nat.le_of_ble_eq_true rfl) rfl <| ml_if_eq dX11_heir_5 h (fun _ h => ml_iconst dX11_heir_18 kc_im1 <| ml_rI (mk := ml_i) hr dX11_heir_19 (fun _ => trivial) h) (fun _ h => ml_iload_n dX11_heir_8 2 rfl <| ml_iconst dX11_heir_9 kc_i1 <| ml_bipush dX11_heir_10 kc_b24 <| ml_b1_of h fun r3811 hv3810 h => ml_callS dX11_heir_12 wm_136 wb_100 (sX11_in hv3810) rfl (Nat.le_of_ble_eq_true rfl) (Nat.le_of_ble_eq_true rfl) rfl <| ml_if_ne dX11_heir_15 h (fun _ h => ml_bipush dX11_heir_20 kc_bm9 <| ml_istore_n (lv' := [(3, ml_i (-9 : Int32)), (0, ml_r l0), (1, ml_i l1), (2, ml_i l2)]) dX11_heir_22 (ml_hn hL rfl) rfl <| ml_iconst dX11_heir_23 kc_i0 <| ml_istore (lv' := [(4, ml_i (0 : Int32)), (3, ml_i (-9 : Int32)), (0, ml_r l0), (1, ml_i l1), (2, ml_i l2)]) dX11_heir_24 (ml_hn hL rfl) rfl <| ml_iconst dX11_heir_26 kc_i0 <| ml_istore (lv' := [(5, ml_i (0 : Int32)), (4, ml_i (0 : Int32)), (3, ml_i (-9 : Int32)), (0, ml_r l0), (1, ml_i l1), (2, ml_i l2)]) dX11_heir_27 (ml_hn hL rfl) rfl <| ml_iconst dX11_heir_29 kc_i0 <| ml_istore (lv' := [(6, ml_i (0 : Int32)), (5, ml_i (0 : Int32)), (4, ml_i (0 : Int32)), (3, ml_i (-9 : Int32)), (0, ml_r l0), (1, ml_i l1), (2, ml_i l2)]) dX11_heir_30 (ml_hn hL rfl) rfl <| ml_V.sub [4, 5, 6, 3, 2, 1, 0] rfl (vX11_heir_32 hL hr  ml_fu _ _ _ _ _ _ _ _ h)) (fun _ h => ml_iconst dX11_heir_18 kc_im1 <| ml_rI (mk := ml_i) hr dX11_heir_19 (fun _ => trivial) h))
theorem sX11_heir {l0 : Nat} {l1 : Int32} {l2 : Int32} {m : ml_M} {rv : Int32} {rm : ml_M} (h : fX11_heir l0 l1 l2 m = some (rv, rm)) : ml_Sn yX11_heir cX11_heir 8 (some .int) 5 [ml_r l0, ml_i l1, ml_i l2] m (some (ml_i rv)) rm :=
  ml_Sn_of (P := True) (ini := false) (by decide +kernel) (Nat.le_of_ble_eq_true rfl) (fun h => by cases h) (fun _ => ml_RkI rv) fun E hL hr => wX11_heir_0 hL hr _ _ _ _ h
theorem dX10_asked_0 : ml_d cX10_asked 0 (.aload_n 0) 1 1 := ⟨by decide +kernel, rfl⟩
theorem dX10_asked_1 : ml_d cX10_asked 1 (.getfield 203) 3 4 := ⟨by decide +kernel, rfl⟩
theorem dX10_asked_4 : ml_d cX10_asked 4 (.ireturn) 1 5 := ⟨by decide +kernel, rfl⟩
def fX10_asked (l0 : Nat) (m : ml_M) : Option Int32 :=
    if (ml_K m l0).1 = 10 then
    some (ml_I m l0 15)
    else none
theorem wX10_asked_0 {E : ml_E} (hL : ml_eL E = 1) {rv : Int32} {m : ml_M} (hr : ∀ (pc pc' : Nat) (lv : List (Nat × ml_X)), ml_d cX10_asked pc .ireturn 1 pc' → True → ml_V E "LostRoom" cX10_asked 2 false m pc lv [ml_i rv]) : ∀ (l0 : Nat), fX10_asked l0 m = some rv → ml_V E "LostRoom" cX10_asked 2 false m 0 [(0, ml_r l0)] [] := by
  intro l0 h
  unfold fX10_asked at h
  exact ml_aload_n dX10_asked_0 0 rfl <| ml_ck_of h fun hc3812 h => ml_getI dX10_asked_1 wb_483 hc3812 <| ml_rp (mk := ml_i) hr dX10_asked_4 (fun _ => trivial) h
theorem sX10_asked {l0 : Nat} {m : ml_M} {rv : Int32} (h : fX10_asked l0 m = some rv) : ml_Sn yX10_asked cX10_asked 1 (some .int) 2 [ml_r l0] m (some (ml_i rv)) m :=
  ml_Sn_of (P := True) (ini := false) (by decide +kernel) (Nat.le_of_ble_eq_true rfl) (fun h => by cases h) (fun _ => ml_RkI rv) fun E hL hr => wX10_asked_0 hL hr _ h
theorem dX11_asked_0 : ml_d cX11_asked 0 (.aload_n 0) 1 1 := ⟨by decide +kernel, rfl⟩
theorem dX11_asked_1 : ml_d cX11_asked 1 (.getfield 104) 3 4 := ⟨by decide +kernel, rfl⟩
theorem dX11_asked_4 : ml_d cX11_asked 4 (.ireturn) 1 5 := ⟨by decide +kernel, rfl⟩
def fX11_asked (l0 : Nat) (m : ml_M) : Option Int32 :=
    if (ml_K m l0).1 = 11 then
    some (ml_I m l0 2)
    else none
theorem wX11_asked_0 {E : ml_E} (hL : ml_eL E = 1) {rv : Int32} {m : ml_M} (hr : ∀ (pc pc' : Nat) (lv : List (Nat × ml_X)), ml_d cX11_asked pc .ireturn 1 pc' → True → ml_V E "LostRoomModel" cX11_asked 2 false m pc lv [ml_i rv]) : ∀ (l0 : Nat), fX11_asked l0 m = some rv → ml_V E "LostRoomModel" cX11_asked 2 false m 0 [(0, ml_r l0)] [] := by
  intro l0 h
  unfold fX11_asked at h
  exact ml_aload_n dX11_asked_0 0 rfl <| ml_ck_of h fun hc3813 h => ml_getI dX11_asked_1 wb_484 hc3813 <| ml_rp (mk := ml_i) hr dX11_asked_4 (fun _ => trivial) h
theorem sX11_asked {l0 : Nat} {m : ml_M} {rv : Int32} (h : fX11_asked l0 m = some rv) : ml_Sn yX11_asked cX11_asked 1 (some .int) 2 [ml_r l0] m (some (ml_i rv)) m :=
  ml_Sn_of (P := True) (ini := false) (by decide +kernel) (Nat.le_of_ble_eq_true rfl) (fun h => by cases h) (fun _ => ml_RkI rv) fun E hL hr => wX11_asked_0 hL hr _ h
theorem dX10_many_0 : ml_d cX10_many 0 (.aload_n 0) 1 1 := ⟨by decide +kernel, rfl⟩
theorem dX10_many_1 : ml_d cX10_many 1 (.getfield 206) 3 4 := ⟨by decide +kernel, rfl⟩
theorem dX10_many_4 : ml_d cX10_many 4 (.lreturn) 1 5 := ⟨by decide +kernel, rfl⟩
def fX10_many (l0 : Nat) (m : ml_M) : Option Int64 :=
    if (ml_K m l0).1 = 10 then
    some (ml_J m l0 16)
    else none
theorem wX10_many_0 {E : ml_E} (hL : ml_eL E = 1) {rv : Int64} {m : ml_M} (hr : ∀ (pc pc' : Nat) (lv : List (Nat × ml_X)), ml_d cX10_many pc .lreturn 1 pc' → True → ml_V E "LostRoom" cX10_many 2 false m pc lv [ml_l rv]) : ∀ (l0 : Nat), fX10_many l0 m = some rv → ml_V E "LostRoom" cX10_many 2 false m 0 [(0, ml_r l0)] [] := by
  intro l0 h
  unfold fX10_many at h
  exact ml_aload_n dX10_many_0 0 rfl <| ml_ck_of h fun hc3814 h => ml_getJ dX10_many_1 wb_485 hc3814 <| ml_rp (mk := ml_l) hr dX10_many_4 (fun _ => trivial) h
theorem sX10_many {l0 : Nat} {m : ml_M} {rv : Int64} (h : fX10_many l0 m = some rv) : ml_Sn yX10_many cX10_many 1 (some .long) 2 [ml_r l0] m (some (ml_l rv)) m :=
  ml_Sn_of (P := True) (ini := false) (by decide +kernel) (Nat.le_of_ble_eq_true rfl) (fun h => by cases h) (fun _ => ml_RkJ rv) fun E hL hr => wX10_many_0 hL hr _ h
theorem dX11_many_0 : ml_d cX11_many 0 (.aload_n 0) 1 1 := ⟨by decide +kernel, rfl⟩
theorem dX11_many_1 : ml_d cX11_many 1 (.getfield 107) 3 4 := ⟨by decide +kernel, rfl⟩
theorem dX11_many_4 : ml_d cX11_many 4 (.lreturn) 1 5 := ⟨by decide +kernel, rfl⟩
def fX11_many (l0 : Nat) (m : ml_M) : Option Int64 :=
    if (ml_K m l0).1 = 11 then
    some (ml_J m l0 3)
    else none
theorem wX11_many_0 {E : ml_E} (hL : ml_eL E = 1) {rv : Int64} {m : ml_M} (hr : ∀ (pc pc' : Nat) (lv : List (Nat × ml_X)), ml_d cX11_many pc .lreturn 1 pc' → True → ml_V E "LostRoomModel" cX11_many 2 false m pc lv [ml_l rv]) : ∀ (l0 : Nat), fX11_many l0 m = some rv → ml_V E "LostRoomModel" cX11_many 2 false m 0 [(0, ml_r l0)] [] := by
  intro l0 h
  unfold fX11_many at h
  exact ml_aload_n dX11_many_0 0 rfl <| ml_ck_of h fun hc3815 h => ml_getJ dX11_many_1 wb_291 hc3815 <| ml_rp (mk := ml_l) hr dX11_many_4 (fun _ => trivial) h
theorem sX11_many {l0 : Nat} {m : ml_M} {rv : Int64} (h : fX11_many l0 m = some rv) : ml_Sn yX11_many cX11_many 1 (some .long) 2 [ml_r l0] m (some (ml_l rv)) m :=
  ml_Sn_of (P := True) (ini := false) (by decide +kernel) (Nat.le_of_ble_eq_true rfl) (fun h => by cases h) (fun _ => ml_RkJ rv) fun E hL hr => wX11_many_0 hL hr _ h
theorem dX10_letters_0 : ml_d cX10_letters 0 (.iconst 0) 1 1 := ⟨by decide +kernel, rfl⟩
theorem dX10_letters_1 : ml_d cX10_letters 1 (.istore_n 1) 1 2 := ⟨by decide +kernel, rfl⟩
theorem dX10_letters_2 : ml_d cX10_letters 2 (.iconst 0) 1 3 := ⟨by decide +kernel, rfl⟩
theorem dX10_letters_3 : ml_d cX10_letters 3 (.istore_n 2) 1 4 := ⟨by decide +kernel, rfl⟩
theorem dX10_letters_4 : ml_d cX10_letters 4 (.iload_n 2) 1 5 := ⟨by decide +kernel, rfl⟩
theorem dX10_letters_5 : ml_d cX10_letters 5 (.aload_n 0) 1 6 := ⟨by decide +kernel, rfl⟩
theorem dX10_letters_6 : ml_d cX10_letters 6 (.getfield 118) 3 9 := ⟨by decide +kernel, rfl⟩
theorem dX10_letters_9 : ml_j cX10_letters 9 (.if_icmp .ge) 34 12 := ⟨25, by decide +kernel, by decide, rfl⟩
theorem dX10_letters_12 : ml_d cX10_letters 12 (.aload_n 0) 1 13 := ⟨by decide +kernel, rfl⟩
theorem dX10_letters_13 : ml_d cX10_letters 13 (.getfield 36) 3 16 := ⟨by decide +kernel, rfl⟩
theorem dX10_letters_16 : ml_d cX10_letters 16 (.iload_n 2) 1 17 := ⟨by decide +kernel, rfl⟩
theorem dX10_letters_17 : ml_d cX10_letters 17 (.aaload) 1 18 := ⟨by decide +kernel, rfl⟩
theorem dX10_letters_18 : ml_d cX10_letters 18 (.iconst 2) 1 19 := ⟨by decide +kernel, rfl⟩
theorem dX10_letters_19 : ml_d cX10_letters 19 (.invokevirtual 187) 3 22 := ⟨by decide +kernel, rfl⟩
theorem dX10_letters_22 : ml_j cX10_letters 22 (.ifCond .eq) 28 25 := ⟨6, by decide +kernel, by decide, rfl⟩
theorem dX10_letters_25 : ml_d cX10_letters 25 (.iinc 1 1) 3 28 := ⟨by decide +kernel, rfl⟩
theorem dX10_letters_28 : ml_d cX10_letters 28 (.iinc 2 1) 3 31 := ⟨by decide +kernel, rfl⟩
theorem dX10_letters_31 : ml_j cX10_letters 31 .goto 4 34 := ⟨(-27), by decide +kernel, by decide, rfl⟩
theorem dX10_letters_34 : ml_d cX10_letters 34 (.iload_n 1) 1 35 := ⟨by decide +kernel, rfl⟩
theorem dX10_letters_35 : ml_d cX10_letters 35 (.ireturn) 1 36 := ⟨by decide +kernel, rfl⟩
def fX10_letters_28 (k4 : Nat → Int32 → Int32 → ml_M → Option Int32) (l0 : Nat) (l1 : Int32) (l2 : Int32) (m : ml_M) : Option Int32 :=
    k4 l0 l1 (l2 + (1 : Int32)) m
theorem vX10_letters_28 {E : ml_E} (hL : ml_eL E = 3) {rv : Int32} {m : ml_M} (hr : ∀ (pc pc' : Nat) (lv : List (Nat × ml_X)), ml_d cX10_letters pc .ireturn 1 pc' → True → ml_V E "LostRoom" cX10_letters 3 false m pc lv [ml_i rv]) {k4 : Nat → Int32 → Int32 → ml_M → Option Int32} (hk4 : ∀ (l0 : Nat) (l1 : Int32) (l2 : Int32), k4 l0 l1 l2 m = some rv → ml_V E "LostRoom" cX10_letters 3 false m 4 [(0, ml_r l0), (1, ml_i l1), (2, ml_i l2)] []) : ∀ (l0 : Nat) (l1 : Int32) (l2 : Int32), fX10_letters_28 k4 l0 l1 l2 m = some rv → ml_V E "LostRoom" cX10_letters 3 false m 28 [(0, ml_r l0), (1, ml_i l1), (2, ml_i l2)] [] := by
  intro l0 l1 l2 h
  unfold fX10_letters_28 at h
  exact ml_iinc (lv' := [(2, ml_i (l2 + (1 : Int32))), (0, ml_r l0), (1, ml_i l1)]) dX10_letters_28 2 rfl (congrArg (l2 + ·) kc_i1) (ml_hn hL rfl) rfl <| ml_goto dX10_letters_31 <| ml_V.sub [1, 2, 0] rfl (hk4 _ _ _ h)
def fX10_letters_4 : Nat → Nat → Int32 → Int32 → ml_M → Option Int32
  | 0, _, _, _, _ => none
  | fu + 1, l0, l1, l2, m =>
    if (ml_K m l0).1 = 10 then
    if (ml_I m l0 5) ≤ l2 then
    some l1
    else
    ml_let (ml_R m l0 4) fun a3817 =>
    if ml_in m a3817 29 l2 then
    ml_let (ml_R m a3817 l2.toNatClampNeg) fun a3819 =>
    if (ml_K m a3819).1 = 8 then
    ml_b1 (fX8_isOf a3819 (2 : Int32) m) fun r3822 =>
    if r3822 = 0 then
    fX10_letters_28 (fX10_letters_4 fu) l0 l1 l2 m
    else
    fX10_letters_28 (fX10_letters_4 fu) l0 (l1 + (1 : Int32)) l2 m
    else none
    else none
    else none
theorem vX10_letters_4 {E : ml_E} (hL : ml_eL E = 3) {rv : Int32} {m : ml_M} (hr : ∀ (pc pc' : Nat) (lv : List (Nat × ml_X)), ml_d cX10_letters pc .ireturn 1 pc' → True → ml_V E "LostRoom" cX10_letters 3 false m pc lv [ml_i rv]) : ∀ (fu : Nat) (l0 : Nat) (l1 : Int32) (l2 : Int32), fX10_letters_4 fu l0 l1 l2 m = some rv → ml_V E "LostRoom" cX10_letters 3 false m 4 [(0, ml_r l0), (1, ml_i l1), (2, ml_i l2)] [] := by
  intro fu
  induction fu with
  | zero => intro l0 l1 l2 h; exact ml_none h
  | succ fu ih =>
    intro l0 l1 l2 h
    have hk4 := ih
    unfold fX10_letters_4 at h
    exact ml_iload_n dX10_letters_4 2 rfl <| ml_aload_n dX10_letters_5 0 rfl <| ml_ck_of h fun hc3816 h => ml_getI dX10_letters_6 wb_217 hc3816 <| ml_icmp_ge dX10_letters_9 h (fun _ h => ml_iload_n dX10_letters_34 1 rfl <| ml_rp (mk := ml_i) hr dX10_letters_35 (fun _ => trivial) h) (fun _ h => ml_aload_n dX10_letters_12 0 rfl <| ml_getR dX10_letters_13 wb_218 hc3816 <| ml_lx (mk := ml_r) h fun a3817 h => ml_iload_n dX10_letters_16 2 rfl <| ml_ck_of h fun hi3818 h => ml_aald (kd := 29) dX10_letters_17 (by decide) hi3818 <| ml_lx (mk := ml_r) h fun a3819 h => ml_iconst dX10_letters_18 kc_i2 <| ml_ck_of h fun hc3821 h => ml_b1_of h fun r3822 hv3820 h => ml_callV dX10_letters_19 wm_412 wb_274 hc3821 (sX8_isOf hv3820) rfl (Nat.le_of_ble_eq_true rfl) (Nat.le_of_ble_eq_true rfl) rfl <| ml_if_eq dX10_letters_22 h (fun _ h => ml_V.sub [0, 1, 2] rfl (vX10_letters_28 hL hr hk4 _ _ _ h)) (fun _ h => ml_iinc (lv' := [(1, ml_i (l1 + (1 : Int32))), (0, ml_r l0), (2, ml_i l2)]) dX10_letters_25 1 rfl (congrArg (l1 + ·) kc_i1) (ml_hn hL rfl) rfl <| ml_V.sub [1, 0, 2] rfl (vX10_letters_28 hL hr hk4 _ _ _ h)))
def fX10_letters (l0 : Nat) (m : ml_M) : Option Int32 :=
    fX10_letters_4 ml_fu l0 (0 : Int32) (0 : Int32) m
theorem wX10_letters_0 {E : ml_E} (hL : ml_eL E = 3) {rv : Int32} {m : ml_M} (hr : ∀ (pc pc' : Nat) (lv : List (Nat × ml_X)), ml_d cX10_letters pc .ireturn 1 pc' → True → ml_V E "LostRoom" cX10_letters 3 false m pc lv [ml_i rv]) : ∀ (l0 : Nat), fX10_letters l0 m = some rv → ml_V E "LostRoom" cX10_letters 3 false m 0 [(0, ml_r l0)] [] := by
  intro l0 h
  unfold fX10_letters at h
  exact ml_iconst dX10_letters_0 kc_i0 <| ml_istore_n (lv' := [(1, ml_i (0 : Int32)), (0, ml_r l0)]) dX10_letters_1 (ml_hn hL rfl) rfl <| ml_iconst dX10_letters_2 kc_i0 <| ml_istore_n (lv' := [(2, ml_i (0 : Int32)), (1, ml_i (0 : Int32)), (0, ml_r l0)]) dX10_letters_3 (ml_hn hL rfl) rfl <| ml_V.sub [2, 1, 0] rfl (vX10_letters_4 hL hr  ml_fu _ _ _ h)
theorem sX10_letters {l0 : Nat} {m : ml_M} {rv : Int32} (h : fX10_letters l0 m = some rv) : ml_Sn yX10_letters cX10_letters 3 (some .int) 3 [ml_r l0] m (some (ml_i rv)) m :=
  ml_Sn_of (P := True) (ini := false) (by decide +kernel) (Nat.le_of_ble_eq_true rfl) (fun h => by cases h) (fun _ => ml_RkI rv) fun E hL hr => wX10_letters_0 hL hr _ h

/-! printed by wip/p51/emit.py out of the claim's own listing -/
theorem dJ6_bitCount_0f7a4_0 : ml_d cJ6_bitCount_0f7a4 0 (.iload_n 0) 1 1 := ⟨by decide +kernel, rfl⟩
theorem dJ6_bitCount_0f7a4_1 : ml_d cJ6_bitCount_0f7a4 1 (.iload_n 0) 1 2 := ⟨by decide +kernel, rfl⟩
theorem dJ6_bitCount_0f7a4_2 : ml_d cJ6_bitCount_0f7a4 2 (.iconst 1) 1 3 := ⟨by decide +kernel, rfl⟩
theorem dJ6_bitCount_0f7a4_3 : ml_d cJ6_bitCount_0f7a4 3 (.iushr) 1 4 := ⟨by decide +kernel, rfl⟩
theorem dJ6_bitCount_0f7a4_4 : ml_d cJ6_bitCount_0f7a4 4 (.ldc_w 265) 3 7 := ⟨by decide +kernel, rfl⟩
theorem dJ6_bitCount_0f7a4_7 : ml_d cJ6_bitCount_0f7a4 7 (.iand) 1 8 := ⟨by decide +kernel, rfl⟩
theorem dJ6_bitCount_0f7a4_8 : ml_d cJ6_bitCount_0f7a4 8 (.isub) 1 9 := ⟨by decide +kernel, rfl⟩
theorem dJ6_bitCount_0f7a4_9 : ml_d cJ6_bitCount_0f7a4 9 (.istore_n 0) 1 10 := ⟨by decide +kernel, rfl⟩
theorem dJ6_bitCount_0f7a4_10 : ml_d cJ6_bitCount_0f7a4 10 (.iload_n 0) 1 11 := ⟨by decide +kernel, rfl⟩
theorem dJ6_bitCount_0f7a4_11 : ml_d cJ6_bitCount_0f7a4 11 (.ldc_w 266) 3 14 := ⟨by decide +kernel, rfl⟩
theorem dJ6_bitCount_0f7a4_14 : ml_d cJ6_bitCount_0f7a4 14 (.iand) 1 15 := ⟨by decide +kernel, rfl⟩
theorem dJ6_bitCount_0f7a4_15 : ml_d cJ6_bitCount_0f7a4 15 (.iload_n 0) 1 16 := ⟨by decide +kernel, rfl⟩
theorem dJ6_bitCount_0f7a4_16 : ml_d cJ6_bitCount_0f7a4 16 (.iconst 2) 1 17 := ⟨by decide +kernel, rfl⟩
theorem dJ6_bitCount_0f7a4_17 : ml_d cJ6_bitCount_0f7a4 17 (.iushr) 1 18 := ⟨by decide +kernel, rfl⟩
theorem dJ6_bitCount_0f7a4_18 : ml_d cJ6_bitCount_0f7a4 18 (.ldc_w 266) 3 21 := ⟨by decide +kernel, rfl⟩
theorem dJ6_bitCount_0f7a4_21 : ml_d cJ6_bitCount_0f7a4 21 (.iand) 1 22 := ⟨by decide +kernel, rfl⟩
theorem dJ6_bitCount_0f7a4_22 : ml_d cJ6_bitCount_0f7a4 22 (.iadd) 1 23 := ⟨by decide +kernel, rfl⟩
theorem dJ6_bitCount_0f7a4_23 : ml_d cJ6_bitCount_0f7a4 23 (.istore_n 0) 1 24 := ⟨by decide +kernel, rfl⟩
theorem dJ6_bitCount_0f7a4_24 : ml_d cJ6_bitCount_0f7a4 24 (.iload_n 0) 1 25 := ⟨by decide +kernel, rfl⟩
theorem dJ6_bitCount_0f7a4_25 : ml_d cJ6_bitCount_0f7a4 25 (.iload_n 0) 1 26 := ⟨by decide +kernel, rfl⟩
theorem dJ6_bitCount_0f7a4_26 : ml_d cJ6_bitCount_0f7a4 26 (.iconst 4) 1 27 := ⟨by decide +kernel, rfl⟩
theorem dJ6_bitCount_0f7a4_27 : ml_d cJ6_bitCount_0f7a4 27 (.iushr) 1 28 := ⟨by decide +kernel, rfl⟩
theorem dJ6_bitCount_0f7a4_28 : ml_d cJ6_bitCount_0f7a4 28 (.iadd) 1 29 := ⟨by decide +kernel, rfl⟩
theorem dJ6_bitCount_0f7a4_29 : ml_d cJ6_bitCount_0f7a4 29 (.ldc_w 267) 3 32 := ⟨by decide +kernel, rfl⟩
theorem dJ6_bitCount_0f7a4_32 : ml_d cJ6_bitCount_0f7a4 32 (.iand) 1 33 := ⟨by decide +kernel, rfl⟩
theorem dJ6_bitCount_0f7a4_33 : ml_d cJ6_bitCount_0f7a4 33 (.istore_n 0) 1 34 := ⟨by decide +kernel, rfl⟩
theorem dJ6_bitCount_0f7a4_34 : ml_d cJ6_bitCount_0f7a4 34 (.iload_n 0) 1 35 := ⟨by decide +kernel, rfl⟩
theorem dJ6_bitCount_0f7a4_35 : ml_d cJ6_bitCount_0f7a4 35 (.iload_n 0) 1 36 := ⟨by decide +kernel, rfl⟩
theorem dJ6_bitCount_0f7a4_36 : ml_d cJ6_bitCount_0f7a4 36 (.bipush 8) 2 38 := ⟨by decide +kernel, rfl⟩
theorem dJ6_bitCount_0f7a4_38 : ml_d cJ6_bitCount_0f7a4 38 (.iushr) 1 39 := ⟨by decide +kernel, rfl⟩
theorem dJ6_bitCount_0f7a4_39 : ml_d cJ6_bitCount_0f7a4 39 (.iadd) 1 40 := ⟨by decide +kernel, rfl⟩
theorem dJ6_bitCount_0f7a4_40 : ml_d cJ6_bitCount_0f7a4 40 (.istore_n 0) 1 41 := ⟨by decide +kernel, rfl⟩
theorem dJ6_bitCount_0f7a4_41 : ml_d cJ6_bitCount_0f7a4 41 (.iload_n 0) 1 42 := ⟨by decide +kernel, rfl⟩
theorem dJ6_bitCount_0f7a4_42 : ml_d cJ6_bitCount_0f7a4 42 (.iload_n 0) 1 43 := ⟨by decide +kernel, rfl⟩
theorem dJ6_bitCount_0f7a4_43 : ml_d cJ6_bitCount_0f7a4 43 (.bipush 16) 2 45 := ⟨by decide +kernel, rfl⟩
theorem dJ6_bitCount_0f7a4_45 : ml_d cJ6_bitCount_0f7a4 45 (.iushr) 1 46 := ⟨by decide +kernel, rfl⟩
theorem dJ6_bitCount_0f7a4_46 : ml_d cJ6_bitCount_0f7a4 46 (.iadd) 1 47 := ⟨by decide +kernel, rfl⟩
theorem dJ6_bitCount_0f7a4_47 : ml_d cJ6_bitCount_0f7a4 47 (.istore_n 0) 1 48 := ⟨by decide +kernel, rfl⟩
theorem dJ6_bitCount_0f7a4_48 : ml_d cJ6_bitCount_0f7a4 48 (.iload_n 0) 1 49 := ⟨by decide +kernel, rfl⟩
theorem dJ6_bitCount_0f7a4_49 : ml_d cJ6_bitCount_0f7a4 49 (.bipush 63) 2 51 := ⟨by decide +kernel, rfl⟩
theorem dJ6_bitCount_0f7a4_51 : ml_d cJ6_bitCount_0f7a4 51 (.iand) 1 52 := ⟨by decide +kernel, rfl⟩
theorem dJ6_bitCount_0f7a4_52 : ml_d cJ6_bitCount_0f7a4 52 (.ireturn) 1 53 := ⟨by decide +kernel, rfl⟩
def fJ6_bitCount_0f7a4 (l0 : Int32) (m : ml_M) : Option Int32 :=
    ml_let (l0 - ((l0.toUInt32 >>> ((1 : Int32).toUInt32 &&& Int32.toUInt32 31)).toInt32 &&& (1431655765 : Int32))) fun x1 =>
    ml_let ((x1 &&& (858993459 : Int32)) + ((x1.toUInt32 >>> ((2 : Int32).toUInt32 &&& Int32.toUInt32 31)).toInt32 &&& (858993459 : Int32))) fun x2 =>
    ml_let ((x2 + (x2.toUInt32 >>> ((4 : Int32).toUInt32 &&& Int32.toUInt32 31)).toInt32) &&& (252645135 : Int32)) fun x3 =>
    ml_let (x3 + (x3.toUInt32 >>> ((8 : Int32).toUInt32 &&& Int32.toUInt32 31)).toInt32) fun x4 =>
    ml_let (x4 + (x4.toUInt32 >>> ((16 : Int32).toUInt32 &&& Int32.toUInt32 31)).toInt32) fun x5 =>
    some (x5 &&& (63 : Int32))
theorem wJ6_bitCount_0f7a4_0 {E : ml_E} (hL : ml_eL E = 1) {rv : Int32} {m : ml_M} (hr : ∀ (pc pc' : Nat) (lv : List (Nat × ml_X)), ml_d cJ6_bitCount_0f7a4 pc .ireturn 1 pc' → True → ml_V E "java/lang/Integer" cJ6_bitCount_0f7a4 2 false m pc lv [ml_i rv]) : ∀ (l0 : Int32), fJ6_bitCount_0f7a4 l0 m = some rv → ml_V E "java/lang/Integer" cJ6_bitCount_0f7a4 2 false m 0 [(0, ml_i l0)] [] := by
  intro l0 h
  unfold fJ6_bitCount_0f7a4 at h
  exact ml_iload_n dJ6_bitCount_0f7a4_0 0 rfl <| ml_iload_n dJ6_bitCount_0f7a4_1 0 rfl <| ml_iconst dJ6_bitCount_0f7a4_2 kc_i1 <| ml_iushr dJ6_bitCount_0f7a4_3 <| ml_ldcw dJ6_bitCount_0f7a4_4 wm_0 <| ml_iand dJ6_bitCount_0f7a4_7 <| ml_isub dJ6_bitCount_0f7a4_8 <| ml_lx (mk := ml_i) h fun x1 h => ml_istore_n (lv' := [(0, ml_i x1)]) dJ6_bitCount_0f7a4_9 (ml_hn hL rfl) rfl <| ml_iload_n dJ6_bitCount_0f7a4_10 0 rfl <| ml_ldcw dJ6_bitCount_0f7a4_11 wm_1 <| ml_iand dJ6_bitCount_0f7a4_14 <| ml_iload_n dJ6_bitCount_0f7a4_15 0 rfl <| ml_iconst dJ6_bitCount_0f7a4_16 kc_i2 <| ml_iushr dJ6_bitCount_0f7a4_17 <| ml_ldcw dJ6_bitCount_0f7a4_18 wm_1 <| ml_iand dJ6_bitCount_0f7a4_21 <| ml_iadd dJ6_bitCount_0f7a4_22 <| ml_lx (mk := ml_i) h fun x2 h => ml_istore_n (lv' := [(0, ml_i x2)]) dJ6_bitCount_0f7a4_23 (ml_hn hL rfl) rfl <| ml_iload_n dJ6_bitCount_0f7a4_24 0 rfl <| ml_iload_n dJ6_bitCount_0f7a4_25 0 rfl <| ml_iconst dJ6_bitCount_0f7a4_26 kc_i4 <| ml_iushr dJ6_bitCount_0f7a4_27 <| ml_iadd dJ6_bitCount_0f7a4_28 <| ml_ldcw dJ6_bitCount_0f7a4_29 wm_2 <| ml_iand dJ6_bitCount_0f7a4_32 <| ml_lx (mk := ml_i) h fun x3 h => ml_istore_n (lv' := [(0, ml_i x3)]) dJ6_bitCount_0f7a4_33 (ml_hn hL rfl) rfl <| ml_iload_n dJ6_bitCount_0f7a4_34 0 rfl <| ml_iload_n dJ6_bitCount_0f7a4_35 0 rfl <| ml_bipush dJ6_bitCount_0f7a4_36 kc_b8 <| ml_iushr dJ6_bitCount_0f7a4_38 <| ml_iadd dJ6_bitCount_0f7a4_39 <| ml_lx (mk := ml_i) h fun x4 h => ml_istore_n (lv' := [(0, ml_i x4)]) dJ6_bitCount_0f7a4_40 (ml_hn hL rfl) rfl <| ml_iload_n dJ6_bitCount_0f7a4_41 0 rfl <| ml_iload_n dJ6_bitCount_0f7a4_42 0 rfl <| ml_bipush dJ6_bitCount_0f7a4_43 kc_b16 <| ml_iushr dJ6_bitCount_0f7a4_45 <| ml_iadd dJ6_bitCount_0f7a4_46 <| ml_lx (mk := ml_i) h fun x5 h => ml_istore_n (lv' := [(0, ml_i x5)]) dJ6_bitCount_0f7a4_47 (ml_hn hL rfl) rfl <| ml_iload_n dJ6_bitCount_0f7a4_48 0 rfl <| ml_bipush dJ6_bitCount_0f7a4_49 kc_b63 <| ml_iand dJ6_bitCount_0f7a4_51 <| ml_rp (mk := ml_i) hr dJ6_bitCount_0f7a4_52 (fun _ => trivial) h
theorem sJ6_bitCount_0f7a4 {l0 : Int32} {m : ml_M} {rv : Int32} (h : fJ6_bitCount_0f7a4 l0 m = some rv) : ml_Sn yJ6_bitCount_0f7a4 cJ6_bitCount_0f7a4 1 (some .int) 2 [ml_i l0] m (some (ml_i rv)) m :=
  ml_Sn_of (P := True) (ini := false) (by decide +kernel) (Nat.le_of_ble_eq_true rfl) (fun h => by cases h) (fun _ => ml_RkI rv) fun E hL hr => wJ6_bitCount_0f7a4_0 hL hr _ h
theorem dJ7_copyOf_59c91_0 : ml_d cJ7_copyOf_59c91 0 (.iload_n 1) 1 1 := ⟨by decide +kernel, rfl⟩
theorem dJ7_copyOf_59c91_1 : ml_d cJ7_copyOf_59c91 1 (.aload_n 0) 1 2 := ⟨by decide +kernel, rfl⟩
theorem dJ7_copyOf_59c91_2 : ml_d cJ7_copyOf_59c91 2 (.arraylength) 1 3 := ⟨by decide +kernel, rfl⟩
theorem dJ7_copyOf_59c91_3 : ml_j cJ7_copyOf_59c91 3 (.if_icmp .ne) 14 6 := ⟨11, by decide +kernel, by decide, rfl⟩
theorem dJ7_copyOf_59c91_6 : ml_d cJ7_copyOf_59c91 6 (.aload_n 0) 1 7 := ⟨by decide +kernel, rfl⟩
theorem dJ7_copyOf_59c91_7 : ml_d cJ7_copyOf_59c91 7 (.invokevirtual 316) 3 10 := ⟨by decide +kernel, rfl⟩
theorem dJ7_copyOf_59c91_10 : ml_d cJ7_copyOf_59c91 10 (.checkcast 317) 3 13 := ⟨by decide +kernel, rfl⟩
theorem dJ7_copyOf_59c91_13 : ml_d cJ7_copyOf_59c91 13 (.areturn) 1 14 := ⟨by decide +kernel, rfl⟩
theorem dJ7_copyOf_59c91_14 : ml_d cJ7_copyOf_59c91 14 (.iload_n 1) 1 15 := ⟨by decide +kernel, rfl⟩
theorem dJ7_copyOf_59c91_15 : ml_d cJ7_copyOf_59c91 15 (.newarray .int) 2 17 := ⟨by decide +kernel, rfl⟩
theorem dJ7_copyOf_59c91_17 : ml_d cJ7_copyOf_59c91 17 (.astore_n 2) 1 18 := ⟨by decide +kernel, rfl⟩
theorem dJ7_copyOf_59c91_18 : ml_d cJ7_copyOf_59c91 18 (.aload_n 0) 1 19 := ⟨by decide +kernel, rfl⟩
theorem dJ7_copyOf_59c91_19 : ml_d cJ7_copyOf_59c91 19 (.iconst 0) 1 20 := ⟨by decide +kernel, rfl⟩
theorem dJ7_copyOf_59c91_20 : ml_d cJ7_copyOf_59c91 20 (.aload_n 2) 1 21 := ⟨by decide +kernel, rfl⟩
theorem dJ7_copyOf_59c91_21 : ml_d cJ7_copyOf_59c91 21 (.iconst 0) 1 22 := ⟨by decide +kernel, rfl⟩
theorem dJ7_copyOf_59c91_22 : ml_d cJ7_copyOf_59c91 22 (.aload_n 0) 1 23 := ⟨by decide +kernel, rfl⟩
theorem dJ7_copyOf_59c91_23 : ml_d cJ7_copyOf_59c91 23 (.arraylength) 1 24 := ⟨by decide +kernel, rfl⟩
theorem dJ7_copyOf_59c91_24 : ml_d cJ7_copyOf_59c91 24 (.iload_n 1) 1 25 := ⟨by decide +kernel, rfl⟩
theorem dJ7_copyOf_59c91_25 : ml_d cJ7_copyOf_59c91 25 (.invokestatic 304) 3 28 := ⟨by decide +kernel, rfl⟩
theorem dJ7_copyOf_59c91_28 : ml_d cJ7_copyOf_59c91 28 (.invokestatic 150) 3 31 := ⟨by decide +kernel, rfl⟩
theorem dJ7_copyOf_59c91_31 : ml_d cJ7_copyOf_59c91 31 (.aload_n 2) 1 32 := ⟨by decide +kernel, rfl⟩
theorem dJ7_copyOf_59c91_32 : ml_d cJ7_copyOf_59c91 32 (.areturn) 1 33 := ⟨by decide +kernel, rfl⟩
def fJ7_copyOf_59c91 (l0 : Nat) (l1 : Int32) (m : ml_M) : Option (Nat × ml_M) :=
    if (ml_K m l0).1 = 20 then
    if l1 = (Int32.ofNat (ml_K m l0).2) then
    ml_let (ml_n m + 1) fun a16 =>
    ml_let (ml_cl2 m l0) fun m17 =>
    some (a16, m17)
    else
    if ml_len l1 then
    ml_let (ml_n m + 1) fun a8 =>
    ml_let (ml_al m 20 l1.toNatClampNeg l1.toNatClampNeg) fun m9 =>
    if (ml_K m9 l0).1 = 20 then
    if ml_cpo m9 l0 a8 (0 : Int32) (0 : Int32) (if l1 < (Int32.ofNat (ml_K m9 l0).2) then l1 else (Int32.ofNat (ml_K m9 l0).2)) then
    ml_let (ml_cp m9 l0 (0 : Int32).toNatClampNeg a8 (0 : Int32).toNatClampNeg (if l1 < (Int32.ofNat (ml_K m9 l0).2) then l1 else (Int32.ofNat (ml_K m9 l0).2)).toNatClampNeg) fun m14 =>
    some (a8, m14)
    else none
    else none
    else none
    else none
theorem wJ7_copyOf_59c91_0 {E : ml_E} (hL : ml_eL E = 3) {rv : Nat} {rm : ml_M} (hr : ∀ (pc pc' : Nat) (lv : List (Nat × ml_X)), ml_d cJ7_copyOf_59c91 pc .areturn 1 pc' → True → ml_V E "java/util/Arrays" cJ7_copyOf_59c91 2 false rm pc lv [ml_r rv]) : ∀ (l0 : Nat) (l1 : Int32) (m : ml_M), fJ7_copyOf_59c91 l0 l1 m = some (rv, rm) → ml_V E "java/util/Arrays" cJ7_copyOf_59c91 2 false m 0 [(0, ml_r l0), (1, ml_i l1)] [] := by
  intro l0 l1 m h
  unfold fJ7_copyOf_59c91 at h
  exact ml_iload_n dJ7_copyOf_59c91_0 1 rfl <| ml_aload_n dJ7_copyOf_59c91_1 0 rfl <| ml_ck_of h fun hc6 h => ml_alen (kd := 20) dJ7_copyOf_59c91_2 (by decide) hc6 <| ml_icmp_ne dJ7_copyOf_59c91_3 h (fun _ h => ml_iload_n dJ7_copyOf_59c91_14 1 rfl <| ml_ck_of h fun hl7 h => ml_newAs (kd := 20) dJ7_copyOf_59c91_15 wb_0 hl7 h fun a8 m9 hn10 hc11 h => ml_astore_n (lv' := [(2, ml_r a8), (0, ml_r l0), (1, ml_i l1)]) dJ7_copyOf_59c91_17 (ml_hn hL rfl) rfl <| ml_aload_n dJ7_copyOf_59c91_18 1 rfl <| ml_iconst dJ7_copyOf_59c91_19 kc_i0 <| ml_aload_n dJ7_copyOf_59c91_20 0 rfl <| ml_iconst dJ7_copyOf_59c91_21 kc_i0 <| ml_aload_n dJ7_copyOf_59c91_22 1 rfl <| ml_ck_of h fun hc12 h => ml_alen (kd := 20) dJ7_copyOf_59c91_23 (by decide) hc12 <| ml_iload_n dJ7_copyOf_59c91_24 2 rfl <| ml_mmin dJ7_copyOf_59c91_25 wb_1 (Nat.le_of_ble_eq_true rfl) (Nat.le_of_ble_eq_true rfl) <| ml_ck_of h fun ho13 h => ml_copys dJ7_copyOf_59c91_28 wb_2 (Nat.le_of_ble_eq_true rfl) (Nat.le_of_ble_eq_true rfl) ho13 h fun m14 em15 h => ml_aload_n dJ7_copyOf_59c91_31 0 rfl <| ml_rI (mk := ml_r) hr dJ7_copyOf_59c91_32 (fun _ => trivial) h) (fun _ h => ml_aload_n dJ7_copyOf_59c91_6 0 rfl <| ml_clones dJ7_copyOf_59c91_7 wb_3 (Nat.le_of_ble_eq_true rfl) (Nat.le_of_ble_eq_true rfl) hc6 h fun a16 m17 hn18 hc19 h => ml_cast dJ7_copyOf_59c91_10 wm_17 hc19 <| ml_rI (mk := ml_r) hr dJ7_copyOf_59c91_13 (fun _ => trivial) h)
theorem sJ7_copyOf_59c91 {l0 : Nat} {l1 : Int32} {m : ml_M} {rv : Nat} {rm : ml_M} (h : fJ7_copyOf_59c91 l0 l1 m = some (rv, rm)) : ml_Sn yJ7_copyOf_59c91 cJ7_copyOf_59c91 3 (some (.array .int)) 2 [ml_r l0, ml_i l1] m (some (ml_r rv)) rm :=
  ml_Sn_of (P := True) (ini := false) (by decide +kernel) (Nat.le_of_ble_eq_true rfl) (fun h => by cases h) (fun _ => ml_RkA (Or.inr ⟨_, rfl⟩) rv) fun E hL hr => wJ7_copyOf_59c91_0 hL hr _ _ _ h
theorem dJ7_fill_031fb_0 : ml_d cJ7_fill_031fb 0 (.iconst 0) 1 1 := ⟨by decide +kernel, rfl⟩
theorem dJ7_fill_031fb_1 : ml_d cJ7_fill_031fb 1 (.istore_n 2) 1 2 := ⟨by decide +kernel, rfl⟩
theorem dJ7_fill_031fb_2 : ml_d cJ7_fill_031fb 2 (.aload_n 0) 1 3 := ⟨by decide +kernel, rfl⟩
theorem dJ7_fill_031fb_3 : ml_d cJ7_fill_031fb 3 (.arraylength) 1 4 := ⟨by decide +kernel, rfl⟩
theorem dJ7_fill_031fb_4 : ml_d cJ7_fill_031fb 4 (.istore_n 3) 1 5 := ⟨by decide +kernel, rfl⟩
theorem dJ7_fill_031fb_5 : ml_d cJ7_fill_031fb 5 (.iload_n 2) 1 6 := ⟨by decide +kernel, rfl⟩
theorem dJ7_fill_031fb_6 : ml_d cJ7_fill_031fb 6 (.iload_n 3) 1 7 := ⟨by decide +kernel, rfl⟩
theorem dJ7_fill_031fb_7 : ml_j cJ7_fill_031fb 7 (.if_icmp .ge) 20 10 := ⟨13, by decide +kernel, by decide, rfl⟩
theorem dJ7_fill_031fb_10 : ml_d cJ7_fill_031fb 10 (.aload_n 0) 1 11 := ⟨by decide +kernel, rfl⟩
theorem dJ7_fill_031fb_11 : ml_d cJ7_fill_031fb 11 (.iload_n 2) 1 12 := ⟨by decide +kernel, rfl⟩
theorem dJ7_fill_031fb_12 : ml_d cJ7_fill_031fb 12 (.iload_n 1) 1 13 := ⟨by decide +kernel, rfl⟩
theorem dJ7_fill_031fb_13 : ml_d cJ7_fill_031fb 13 (.bastore) 1 14 := ⟨by decide +kernel, rfl⟩
theorem dJ7_fill_031fb_14 : ml_d cJ7_fill_031fb 14 (.iinc 2 1) 3 17 := ⟨by decide +kernel, rfl⟩
theorem dJ7_fill_031fb_17 : ml_j cJ7_fill_031fb 17 .goto 5 20 := ⟨(-12), by decide +kernel, by decide, rfl⟩
theorem dJ7_fill_031fb_20 : ml_d cJ7_fill_031fb 20 (.return_) 1 21 := ⟨by decide +kernel, rfl⟩
def fJ7_fill_031fb_5 : Nat → Nat → Int32 → Int32 → Int32 → ml_M → Option ml_M
  | 0, _, _, _, _, _ => none
  | fu + 1, l0, l1, l2, l3, m =>
    if l3 ≤ l2 then
    some m
    else
    if ml_in m l0 21 l2 then
    ml_let (ml_sI m l0 l2.toNatClampNeg l1.toInt8.toInt32) fun m21 =>
    (fJ7_fill_031fb_5 fu) l0 l1 (l2 + (1 : Int32)) l3 m21
    else none
theorem vJ7_fill_031fb_5 {E : ml_E} (hL : ml_eL E = 4) {rm : ml_M} (hr : ∀ (pc pc' : Nat) (lv : List (Nat × ml_X)), ml_d cJ7_fill_031fb pc .return_ 1 pc' → True → ml_V E "java/util/Arrays" cJ7_fill_031fb 2 false rm pc lv []) : ∀ (fu : Nat) (l0 : Nat) (l1 : Int32) (l2 : Int32) (l3 : Int32) (m : ml_M), fJ7_fill_031fb_5 fu l0 l1 l2 l3 m = some rm → ml_V E "java/util/Arrays" cJ7_fill_031fb 2 false m 5 [(0, ml_r l0), (1, ml_i l1), (2, ml_i l2), (3, ml_i l3)] [] := by
  intro fu
  induction fu with
  | zero => intro l0 l1 l2 l3 m h; exact ml_none h
  | succ fu ih =>
    intro l0 l1 l2 l3 m h
    have hk5 := ih
    unfold fJ7_fill_031fb_5 at h
    exact ml_iload_n dJ7_fill_031fb_5 2 rfl <| ml_iload_n dJ7_fill_031fb_6 3 rfl <| ml_icmp_ge dJ7_fill_031fb_7 h (fun _ h => ml_rv hr dJ7_fill_031fb_20 trivial h) (fun _ h => ml_aload_n dJ7_fill_031fb_10 0 rfl <| ml_iload_n dJ7_fill_031fb_11 2 rfl <| ml_iload_n dJ7_fill_031fb_12 1 rfl <| ml_ck_of h fun hi20 h => ml_bast dJ7_fill_031fb_13 hi20 <| ml_lt (m := m) rfl h fun m21 em22 h => ml_iinc (lv' := [(2, ml_i (l2 + (1 : Int32))), (0, ml_r l0), (1, ml_i l1), (3, ml_i l3)]) dJ7_fill_031fb_14 2 rfl (congrArg (l2 + ·) kc_i1) (ml_hn hL rfl) rfl <| ml_goto dJ7_fill_031fb_17 <| ml_V.sub [1, 2, 0, 3] rfl (hk5 _ _ _ _ _ h))
def fJ7_fill_031fb (l0 : Nat) (l1 : Int32) (m : ml_M) : Option ml_M :=
    if (ml_K m l0).1 = 21 then
    ml_let (Int32.ofNat (ml_K m l0).2) fun x24 =>
    fJ7_fill_031fb_5 ml_fu l0 l1 (0 : Int32) x24 m
    else none
theorem wJ7_fill_031fb_0 {E : ml_E} (hL : ml_eL E = 4) {rm : ml_M} (hr : ∀ (pc pc' : Nat) (lv : List (Nat × ml_X)), ml_d cJ7_fill_031fb pc .return_ 1 pc' → True → ml_V E "java/util/Arrays" cJ7_fill_031fb 2 false rm pc lv []) : ∀ (l0 : Nat) (l1 : Int32) (m : ml_M), fJ7_fill_031fb l0 l1 m = some rm → ml_V E "java/util/Arrays" cJ7_fill_031fb 2 false m 0 [(0, ml_r l0), (1, ml_i l1)] [] := by
  intro l0 l1 m h
  unfold fJ7_fill_031fb at h
  exact ml_iconst dJ7_fill_031fb_0 kc_i0 <| ml_istore_n (lv' := [(2, ml_i (0 : Int32)), (0, ml_r l0), (1, ml_i l1)]) dJ7_fill_031fb_1 (ml_hn hL rfl) rfl <| ml_aload_n dJ7_fill_031fb_2 1 rfl <| ml_ck_of h fun hc23 h => ml_alen (kd := 21) dJ7_fill_031fb_3 (by decide) hc23 <| ml_lx (mk := ml_i) h fun x24 h => ml_istore_n (lv' := [(3, ml_i x24), (2, ml_i (0 : Int32)), (0, ml_r l0), (1, ml_i l1)]) dJ7_fill_031fb_4 (ml_hn hL rfl) rfl <| ml_V.sub [2, 3, 1, 0] rfl (vJ7_fill_031fb_5 hL hr  ml_fu _ _ _ _ _ h)
theorem sJ7_fill_031fb {l0 : Nat} {l1 : Int32} {m : ml_M} {rm : ml_M} (h : fJ7_fill_031fb l0 l1 m = some rm) : ml_Sn yJ7_fill_031fb cJ7_fill_031fb 4 none 2 [ml_r l0, ml_i l1] m none rm :=
  ml_Sn_of (P := True) (ini := false) (by decide +kernel) (Nat.le_of_ble_eq_true rfl) (fun h => by cases h) (fun _ => ml_RkV) fun E hL hr => wJ7_fill_031fb_0 hL hr _ _ _ h
theorem dJ7_fill_53178_0 : ml_d cJ7_fill_53178 0 (.iconst 0) 1 1 := ⟨by decide +kernel, rfl⟩
theorem dJ7_fill_53178_1 : ml_d cJ7_fill_53178 1 (.istore_n 2) 1 2 := ⟨by decide +kernel, rfl⟩
theorem dJ7_fill_53178_2 : ml_d cJ7_fill_53178 2 (.aload_n 0) 1 3 := ⟨by decide +kernel, rfl⟩
theorem dJ7_fill_53178_3 : ml_d cJ7_fill_53178 3 (.arraylength) 1 4 := ⟨by decide +kernel, rfl⟩
theorem dJ7_fill_53178_4 : ml_d cJ7_fill_53178 4 (.istore_n 3) 1 5 := ⟨by decide +kernel, rfl⟩
theorem dJ7_fill_53178_5 : ml_d cJ7_fill_53178 5 (.iload_n 2) 1 6 := ⟨by decide +kernel, rfl⟩
theorem dJ7_fill_53178_6 : ml_d cJ7_fill_53178 6 (.iload_n 3) 1 7 := ⟨by decide +kernel, rfl⟩
theorem dJ7_fill_53178_7 : ml_j cJ7_fill_53178 7 (.if_icmp .ge) 20 10 := ⟨13, by decide +kernel, by decide, rfl⟩
theorem dJ7_fill_53178_10 : ml_d cJ7_fill_53178 10 (.aload_n 0) 1 11 := ⟨by decide +kernel, rfl⟩
theorem dJ7_fill_53178_11 : ml_d cJ7_fill_53178 11 (.iload_n 2) 1 12 := ⟨by decide +kernel, rfl⟩
theorem dJ7_fill_53178_12 : ml_d cJ7_fill_53178 12 (.iload_n 1) 1 13 := ⟨by decide +kernel, rfl⟩
theorem dJ7_fill_53178_13 : ml_d cJ7_fill_53178 13 (.iastore) 1 14 := ⟨by decide +kernel, rfl⟩
theorem dJ7_fill_53178_14 : ml_d cJ7_fill_53178 14 (.iinc 2 1) 3 17 := ⟨by decide +kernel, rfl⟩
theorem dJ7_fill_53178_17 : ml_j cJ7_fill_53178 17 .goto 5 20 := ⟨(-12), by decide +kernel, by decide, rfl⟩
theorem dJ7_fill_53178_20 : ml_d cJ7_fill_53178 20 (.return_) 1 21 := ⟨by decide +kernel, rfl⟩
def fJ7_fill_53178_5 : Nat → Nat → Int32 → Int32 → Int32 → ml_M → Option ml_M
  | 0, _, _, _, _, _ => none
  | fu + 1, l0, l1, l2, l3, m =>
    if l3 ≤ l2 then
    some m
    else
    if ml_in m l0 20 l2 then
    ml_let (ml_sI m l0 l2.toNatClampNeg l1) fun m26 =>
    (fJ7_fill_53178_5 fu) l0 l1 (l2 + (1 : Int32)) l3 m26
    else none
theorem vJ7_fill_53178_5 {E : ml_E} (hL : ml_eL E = 4) {rm : ml_M} (hr : ∀ (pc pc' : Nat) (lv : List (Nat × ml_X)), ml_d cJ7_fill_53178 pc .return_ 1 pc' → True → ml_V E "java/util/Arrays" cJ7_fill_53178 2 false rm pc lv []) : ∀ (fu : Nat) (l0 : Nat) (l1 : Int32) (l2 : Int32) (l3 : Int32) (m : ml_M), fJ7_fill_53178_5 fu l0 l1 l2 l3 m = some rm → ml_V E "java/util/Arrays" cJ7_fill_53178 2 false m 5 [(0, ml_r l0), (1, ml_i l1), (2, ml_i l2), (3, ml_i l3)] [] := by
  intro fu
  induction fu with
  | zero => intro l0 l1 l2 l3 m h; exact ml_none h
  | succ fu ih =>
    intro l0 l1 l2 l3 m h
    have hk5 := ih
    unfold fJ7_fill_53178_5 at h
    exact ml_iload_n dJ7_fill_53178_5 2 rfl <| ml_iload_n dJ7_fill_53178_6 3 rfl <| ml_icmp_ge dJ7_fill_53178_7 h (fun _ h => ml_rv hr dJ7_fill_53178_20 trivial h) (fun _ h => ml_aload_n dJ7_fill_53178_10 0 rfl <| ml_iload_n dJ7_fill_53178_11 2 rfl <| ml_iload_n dJ7_fill_53178_12 1 rfl <| ml_ck_of h fun hi25 h => ml_iast dJ7_fill_53178_13 hi25 <| ml_lt (m := m) rfl h fun m26 em27 h => ml_iinc (lv' := [(2, ml_i (l2 + (1 : Int32))), (0, ml_r l0), (1, ml_i l1), (3, ml_i l3)]) dJ7_fill_53178_14 2 rfl (congrArg (l2 + ·) kc_i1) (ml_hn hL rfl) rfl <| ml_goto dJ7_fill_53178_17 <| ml_V.sub [1, 2, 0, 3] rfl (hk5 _ _ _ _ _ h))
def fJ7_fill_53178 (l0 : Nat) (l1 : Int32) (m : ml_M) : Option ml_M :=
    if (ml_K m l0).1 = 20 then
    ml_let (Int32.ofNat (ml_K m l0).2) fun x29 =>
    fJ7_fill_53178_5 ml_fu l0 l1 (0 : Int32) x29 m
    else none
theorem wJ7_fill_53178_0 {E : ml_E} (hL : ml_eL E = 4) {rm : ml_M} (hr : ∀ (pc pc' : Nat) (lv : List (Nat × ml_X)), ml_d cJ7_fill_53178 pc .return_ 1 pc' → True → ml_V E "java/util/Arrays" cJ7_fill_53178 2 false rm pc lv []) : ∀ (l0 : Nat) (l1 : Int32) (m : ml_M), fJ7_fill_53178 l0 l1 m = some rm → ml_V E "java/util/Arrays" cJ7_fill_53178 2 false m 0 [(0, ml_r l0), (1, ml_i l1)] [] := by
  intro l0 l1 m h
  unfold fJ7_fill_53178 at h
  exact ml_iconst dJ7_fill_53178_0 kc_i0 <| ml_istore_n (lv' := [(2, ml_i (0 : Int32)), (0, ml_r l0), (1, ml_i l1)]) dJ7_fill_53178_1 (ml_hn hL rfl) rfl <| ml_aload_n dJ7_fill_53178_2 1 rfl <| ml_ck_of h fun hc28 h => ml_alen (kd := 20) dJ7_fill_53178_3 (by decide) hc28 <| ml_lx (mk := ml_i) h fun x29 h => ml_istore_n (lv' := [(3, ml_i x29), (2, ml_i (0 : Int32)), (0, ml_r l0), (1, ml_i l1)]) dJ7_fill_53178_4 (ml_hn hL rfl) rfl <| ml_V.sub [2, 3, 1, 0] rfl (vJ7_fill_53178_5 hL hr  ml_fu _ _ _ _ _ h)
theorem sJ7_fill_53178 {l0 : Nat} {l1 : Int32} {m : ml_M} {rm : ml_M} (h : fJ7_fill_53178 l0 l1 m = some rm) : ml_Sn yJ7_fill_53178 cJ7_fill_53178 4 none 2 [ml_r l0, ml_i l1] m none rm :=
  ml_Sn_of (P := True) (ini := false) (by decide +kernel) (Nat.le_of_ble_eq_true rfl) (fun h => by cases h) (fun _ => ml_RkV) fun E hL hr => wJ7_fill_53178_0 hL hr _ _ _ h
theorem dL_bits_0 : ml_d cL_bits 0 (.iconst 0) 1 1 := ⟨by decide +kernel, rfl⟩
theorem dL_bits_1 : ml_d cL_bits 1 (.istore_n 1) 1 2 := ⟨by decide +kernel, rfl⟩
theorem dL_bits_2 : ml_d cL_bits 2 (.iconst 0) 1 3 := ⟨by decide +kernel, rfl⟩
theorem dL_bits_3 : ml_d cL_bits 3 (.istore_n 2) 1 4 := ⟨by decide +kernel, rfl⟩
theorem dL_bits_4 : ml_d cL_bits 4 (.iload_n 2) 1 5 := ⟨by decide +kernel, rfl⟩
theorem dL_bits_5 : ml_d cL_bits 5 (.bipush 20) 2 7 := ⟨by decide +kernel, rfl⟩
theorem dL_bits_7 : ml_j cL_bits 7 (.if_icmp .ge) 24 10 := ⟨17, by decide +kernel, by decide, rfl⟩
theorem dL_bits_10 : ml_d cL_bits 10 (.iload_n 1) 1 11 := ⟨by decide +kernel, rfl⟩
theorem dL_bits_11 : ml_d cL_bits 11 (.iload_n 0) 1 12 := ⟨by decide +kernel, rfl⟩
theorem dL_bits_12 : ml_d cL_bits 12 (.iload_n 2) 1 13 := ⟨by decide +kernel, rfl⟩
theorem dL_bits_13 : ml_d cL_bits 13 (.ishr) 1 14 := ⟨by decide +kernel, rfl⟩
theorem dL_bits_14 : ml_d cL_bits 14 (.iconst 1) 1 15 := ⟨by decide +kernel, rfl⟩
theorem dL_bits_15 : ml_d cL_bits 15 (.iand) 1 16 := ⟨by decide +kernel, rfl⟩
theorem dL_bits_16 : ml_d cL_bits 16 (.iadd) 1 17 := ⟨by decide +kernel, rfl⟩
theorem dL_bits_17 : ml_d cL_bits 17 (.istore_n 1) 1 18 := ⟨by decide +kernel, rfl⟩
theorem dL_bits_18 : ml_d cL_bits 18 (.iinc 2 1) 3 21 := ⟨by decide +kernel, rfl⟩
theorem dL_bits_21 : ml_j cL_bits 21 .goto 4 24 := ⟨(-17), by decide +kernel, by decide, rfl⟩
theorem dL_bits_24 : ml_d cL_bits 24 (.iload_n 1) 1 25 := ⟨by decide +kernel, rfl⟩
theorem dL_bits_25 : ml_d cL_bits 25 (.ireturn) 1 26 := ⟨by decide +kernel, rfl⟩
def fL_bits_4 : Nat → Int32 → Int32 → Int32 → ml_M → Option Int32
  | 0, _, _, _, _ => none
  | fu + 1, l0, l1, l2, m =>
    if (20 : Int32) ≤ l2 then
    some l1
    else
    ml_let (l1 + ((l0 >>> (l2 &&& 31)) &&& (1 : Int32))) fun x30 =>
    (fL_bits_4 fu) l0 x30 (l2 + (1 : Int32)) m
theorem vL_bits_4 {E : ml_E} (hL : ml_eL E = 3) {rv : Int32} {m : ml_M} (hr : ∀ (pc pc' : Nat) (lv : List (Nat × ml_X)), ml_d cL_bits pc .ireturn 1 pc' → True → ml_V E "LostRoomLaw" cL_bits 2 false m pc lv [ml_i rv]) : ∀ (fu : Nat) (l0 : Int32) (l1 : Int32) (l2 : Int32), fL_bits_4 fu l0 l1 l2 m = some rv → ml_V E "LostRoomLaw" cL_bits 2 false m 4 [(0, ml_i l0), (1, ml_i l1), (2, ml_i l2)] [] := by
  intro fu
  induction fu with
  | zero => intro l0 l1 l2 h; exact ml_none h
  | succ fu ih =>
    intro l0 l1 l2 h
    have hk4 := ih
    unfold fL_bits_4 at h
    exact ml_iload_n dL_bits_4 2 rfl <| ml_bipush dL_bits_5 kc_b20 <| ml_icmp_ge dL_bits_7 h (fun _ h => ml_iload_n dL_bits_24 1 rfl <| ml_rp (mk := ml_i) hr dL_bits_25 (fun _ => trivial) h) (fun _ h => ml_iload_n dL_bits_10 1 rfl <| ml_iload_n dL_bits_11 0 rfl <| ml_iload_n dL_bits_12 2 rfl <| ml_ishr dL_bits_13 <| ml_iconst dL_bits_14 kc_i1 <| ml_iand dL_bits_15 <| ml_iadd dL_bits_16 <| ml_lx (mk := ml_i) h fun x30 h => ml_istore_n (lv' := [(1, ml_i x30), (0, ml_i l0), (2, ml_i l2)]) dL_bits_17 (ml_hn hL rfl) rfl <| ml_iinc (lv' := [(2, ml_i (l2 + (1 : Int32))), (1, ml_i x30), (0, ml_i l0)]) dL_bits_18 2 rfl (congrArg (l2 + ·) kc_i1) (ml_hn hL rfl) rfl <| ml_goto dL_bits_21 <| ml_V.sub [2, 1, 0] rfl (hk4 _ _ _ h))
def fL_bits (l0 : Int32) (m : ml_M) : Option Int32 :=
    fL_bits_4 ml_fu l0 (0 : Int32) (0 : Int32) m
theorem wL_bits_0 {E : ml_E} (hL : ml_eL E = 3) {rv : Int32} {m : ml_M} (hr : ∀ (pc pc' : Nat) (lv : List (Nat × ml_X)), ml_d cL_bits pc .ireturn 1 pc' → True → ml_V E "LostRoomLaw" cL_bits 2 false m pc lv [ml_i rv]) : ∀ (l0 : Int32), fL_bits l0 m = some rv → ml_V E "LostRoomLaw" cL_bits 2 false m 0 [(0, ml_i l0)] [] := by
  intro l0 h
  unfold fL_bits at h
  exact ml_iconst dL_bits_0 kc_i0 <| ml_istore_n (lv' := [(1, ml_i (0 : Int32)), (0, ml_i l0)]) dL_bits_1 (ml_hn hL rfl) rfl <| ml_iconst dL_bits_2 kc_i0 <| ml_istore_n (lv' := [(2, ml_i (0 : Int32)), (1, ml_i (0 : Int32)), (0, ml_i l0)]) dL_bits_3 (ml_hn hL rfl) rfl <| ml_V.sub [2, 1, 0] rfl (vL_bits_4 hL hr  ml_fu _ _ _ h)
theorem sL_bits {l0 : Int32} {m : ml_M} {rv : Int32} (h : fL_bits l0 m = some rv) : ml_Sn yL_bits cL_bits 3 (some .int) 2 [ml_i l0] m (some (ml_i rv)) m :=
  ml_Sn_of (P := True) (ini := false) (by decide +kernel) (Nat.le_of_ble_eq_true rfl) (fun h => by cases h) (fun _ => ml_RkI rv) fun E hL hr => wL_bits_0 hL hr _ h
theorem dX10_within_0 : ml_d cX10_within 0 (.iload_n 0) 1 1 := ⟨by decide +kernel, rfl⟩
theorem dX10_within_1 : ml_d cX10_within 1 (.iload_n 1) 1 2 := ⟨by decide +kernel, rfl⟩
theorem dX10_within_2 : ml_j cX10_within 2 (.if_icmp .lt) 14 5 := ⟨12, by decide +kernel, by decide, rfl⟩
theorem dX10_within_5 : ml_d cX10_within 5 (.iload_n 0) 1 6 := ⟨by decide +kernel, rfl⟩
theorem dX10_within_6 : ml_d cX10_within 6 (.iload_n 2) 1 7 := ⟨by decide +kernel, rfl⟩
theorem dX10_within_7 : ml_j cX10_within 7 (.if_icmp .gt) 14 10 := ⟨7, by decide +kernel, by decide, rfl⟩
theorem dX10_within_10 : ml_d cX10_within 10 (.iconst 1) 1 11 := ⟨by decide +kernel, rfl⟩
theorem dX10_within_11 : ml_j cX10_within 11 .goto 15 14 := ⟨4, by decide +kernel, by decide, rfl⟩
theorem dX10_within_14 : ml_d cX10_within 14 (.iconst 0) 1 15 := ⟨by decide +kernel, rfl⟩
theorem dX10_within_15 : ml_d cX10_within 15 (.ireturn) 1 16 := ⟨by decide +kernel, rfl⟩
def fX10_within (l0 : Int32) (l1 : Int32) (l2 : Int32) (m : ml_M) : Option Int32 :=
    if l0 < l1 then
    some (0 : Int32)
    else
    if l2 < l0 then
    some (0 : Int32)
    else
    some (1 : Int32)
theorem wX10_within_0 {E : ml_E} (hL : ml_eL E = 3) {rv : Int32} {m : ml_M} (hr : ∀ (pc pc' : Nat) (lv : List (Nat × ml_X)), ml_d cX10_within pc .ireturn 1 pc' → (rv = 0 ∨ rv = 1) → ml_V E "LostRoom" cX10_within 2 false m pc lv [ml_i rv]) : ∀ (l0 : Int32) (l1 : Int32) (l2 : Int32), fX10_within l0 l1 l2 m = some rv → ml_V E "LostRoom" cX10_within 2 false m 0 [(0, ml_i l0), (1, ml_i l1), (2, ml_i l2)] [] := by
  intro l0 l1 l2 h
  unfold fX10_within at h
  exact ml_iload_n dX10_within_0 0 rfl <| ml_iload_n dX10_within_1 1 rfl <| ml_icmp_lt dX10_within_2 h (fun _ h => ml_iconst dX10_within_14 kc_i0 <| ml_rp (mk := ml_i) hr dX10_within_15 (fun e => Or.inl e.symm) h) (fun _ h => ml_iload_n dX10_within_5 0 rfl <| ml_iload_n dX10_within_6 2 rfl <| ml_icmp_gt dX10_within_7 h (fun _ h => ml_iconst dX10_within_14 kc_i0 <| ml_rp (mk := ml_i) hr dX10_within_15 (fun e => Or.inl e.symm) h) (fun _ h => ml_iconst dX10_within_10 kc_i1 <| ml_goto dX10_within_11 <| ml_rp (mk := ml_i) hr dX10_within_15 (fun e => Or.inr e.symm) h))
theorem sX10_within {l0 : Int32} {l1 : Int32} {l2 : Int32} {m : ml_M} {rv : Int32} (h : fX10_within l0 l1 l2 m = some rv) : ml_Sn yX10_within cX10_within 3 (some .boolean) 2 [ml_i l0, ml_i l1, ml_i l2] m (some (ml_i rv)) m :=
  ml_Sn_of (P := (rv = 0 ∨ rv = 1)) (ini := false) (by decide +kernel) (Nat.le_of_ble_eq_true rfl) (fun h => by cases h) (fun hz => ml_RkZ rv hz) fun E hL hr => wX10_within_0 hL hr _ _ _ h
theorem dX10_isText_0 : ml_d cX10_isText 0 (.iload_n 0) 1 1 := ⟨by decide +kernel, rfl⟩
theorem dX10_isText_1 : ml_d cX10_isText 1 (.iconst 0) 1 2 := ⟨by decide +kernel, rfl⟩
theorem dX10_isText_2 : ml_d cX10_isText 2 (.iconst 3) 1 3 := ⟨by decide +kernel, rfl⟩
theorem dX10_isText_3 : ml_d cX10_isText 3 (.invokestatic 138) 3 6 := ⟨by decide +kernel, rfl⟩
theorem dX10_isText_6 : ml_d cX10_isText 6 (.ireturn) 1 7 := ⟨by decide +kernel, rfl⟩
def fX10_isText (l0 : Int32) (m : ml_M) : Option Int32 :=
    ml_b1 (fX10_within l0 (0 : Int32) (3 : Int32) m) fun r32 =>
    if r32 = 0 ∨ r32 = 1 then some r32 else none
theorem wX10_isText_0 {E : ml_E} (hL : ml_eL E = 1) {rv : Int32} {m : ml_M} (hr : ∀ (pc pc' : Nat) (lv : List (Nat × ml_X)), ml_d cX10_isText pc .ireturn 1 pc' → (rv = 0 ∨ rv = 1) → ml_V E "LostRoom" cX10_isText 3 false m pc lv [ml_i rv]) : ∀ (l0 : Int32), fX10_isText l0 m = some rv → ml_V E "LostRoom" cX10_isText 3 false m 0 [(0, ml_i l0)] [] := by
  intro l0 h
  unfold fX10_isText at h
  exact ml_iload_n dX10_isText_0 0 rfl <| ml_iconst dX10_isText_1 kc_i0 <| ml_iconst dX10_isText_2 kc_i3 <| ml_b1_of h fun r32 hv31 h => ml_callS dX10_isText_3 wm_21 wb_4 (sX10_within hv31) rfl (Nat.le_of_ble_eq_true rfl) (Nat.le_of_ble_eq_true rfl) rfl <| ml_ck_of h fun hz33 h => ml_rp (mk := ml_i) hr dX10_isText_6 (fun e => e ▸ hz33) h
theorem sX10_isText {l0 : Int32} {m : ml_M} {rv : Int32} (h : fX10_isText l0 m = some rv) : ml_Sn yX10_isText cX10_isText 1 (some .boolean) 3 [ml_i l0] m (some (ml_i rv)) m :=
  ml_Sn_of (P := (rv = 0 ∨ rv = 1)) (ini := false) (by decide +kernel) (Nat.le_of_ble_eq_true rfl) (fun h => by cases h) (fun hz => ml_RkZ rv hz) fun E hL hr => wX10_isText_0 hL hr _ h
theorem dX10_found_0 : ml_d cX10_found 0 (.aload_n 0) 1 1 := ⟨by decide +kernel, rfl⟩
theorem dX10_found_1 : ml_d cX10_found 1 (.iload_n 1) 1 2 := ⟨by decide +kernel, rfl⟩
theorem dX10_found_2 : ml_d cX10_found 2 (.putfield 335) 3 5 := ⟨by decide +kernel, rfl⟩
theorem dX10_found_5 : ml_d cX10_found 5 (.aload_n 0) 1 6 := ⟨by decide +kernel, rfl⟩
theorem dX10_found_6 : ml_d cX10_found 6 (.getfield 79) 3 9 := ⟨by decide +kernel, rfl⟩
theorem dX10_found_9 : ml_d cX10_found 9 (.iload_n 1) 1 10 := ⟨by decide +kernel, rfl⟩
theorem dX10_found_10 : ml_d cX10_found 10 (.dup2) 1 11 := ⟨by decide +kernel, rfl⟩
theorem dX10_found_11 : ml_d cX10_found 11 (.iaload) 1 12 := ⟨by decide +kernel, rfl⟩
theorem dX10_found_12 : ml_d cX10_found 12 (.iconst 1) 1 13 := ⟨by decide +kernel, rfl⟩
theorem dX10_found_13 : ml_d cX10_found 13 (.iadd) 1 14 := ⟨by decide +kernel, rfl⟩
theorem dX10_found_14 : ml_d cX10_found 14 (.iastore) 1 15 := ⟨by decide +kernel, rfl⟩
theorem dX10_found_15 : ml_d cX10_found 15 (.bipush (-3)) 2 17 := ⟨by decide +kernel, rfl⟩
theorem dX10_found_17 : ml_d cX10_found 17 (.ireturn) 1 18 := ⟨by decide +kernel, rfl⟩
def fX10_found (l0 : Nat) (l1 : Int32) (m : ml_M) : Option (Int32 × ml_M) :=
    if (ml_K m l0).1 = 10 then
    ml_let (ml_sI m l0 17 l1) fun m35 =>
    ml_let (ml_R m35 l0 18) fun a37 =>
    if ml_in m35 a37 20 l1 then
    if ml_in m35 a37 20 l1 then
    ml_let (ml_sI m35 a37 l1.toNatClampNeg ((ml_I m35 a37 l1.toNatClampNeg) + (1 : Int32))) fun m40 =>
    some ((-3 : Int32), m40)
    else none
    else none
    else none
theorem wX10_found_0 {E : ml_E} (hL : ml_eL E = 2) {rv : Int32} {rm : ml_M} (hr : ∀ (pc pc' : Nat) (lv : List (Nat × ml_X)), ml_d cX10_found pc .ireturn 1 pc' → True → ml_V E "LostRoom" cX10_found 2 false rm pc lv [ml_i rv]) : ∀ (l0 : Nat) (l1 : Int32) (m : ml_M), fX10_found l0 l1 m = some (rv, rm) → ml_V E "LostRoom" cX10_found 2 false m 0 [(0, ml_r l0), (1, ml_i l1)] [] := by
  intro l0 l1 m h
  unfold fX10_found at h
  exact ml_aload_n dX10_found_0 0 rfl <| ml_iload_n dX10_found_1 1 rfl <| ml_ck_of h fun hc34 h => ml_putI dX10_found_2 wb_5 hc34 <| ml_lt (m := m) rfl h fun m35 em36 h => ml_aload_n dX10_found_5 0 rfl <| ml_getR dX10_found_6 wb_6 (ml_kk em36 hc34) <| ml_lx (mk := ml_r) h fun a37 h => ml_iload_n dX10_found_9 1 rfl <| ml_dup2 dX10_found_10 rfl rfl <| ml_ck_of h fun hi38 h => ml_iald dX10_found_11 hi38 <| ml_iconst dX10_found_12 kc_i1 <| ml_iadd dX10_found_13 <| ml_ck_of h fun hi39 h => ml_iast dX10_found_14 hi39 <| ml_lt (m := m35) rfl h fun m40 em41 h => ml_bipush dX10_found_15 kc_bm3 <| ml_rI (mk := ml_i) hr dX10_found_17 (fun _ => trivial) h
theorem sX10_found {l0 : Nat} {l1 : Int32} {m : ml_M} {rv : Int32} {rm : ml_M} (h : fX10_found l0 l1 m = some (rv, rm)) : ml_Sn yX10_found cX10_found 2 (some .int) 2 [ml_r l0, ml_i l1] m (some (ml_i rv)) rm :=
  ml_Sn_of (P := True) (ini := false) (by decide +kernel) (Nat.le_of_ble_eq_true rfl) (fun h => by cases h) (fun _ => ml_RkI rv) fun E hL hr => wX10_found_0 hL hr _ _ _ h
theorem dX10_text_0 : ml_d cX10_text 0 (.iload_n 1) 1 1 := ⟨by decide +kernel, rfl⟩
theorem dX10_text_1 : ml_d cX10_text 1 (.invokestatic 103) 3 4 := ⟨by decide +kernel, rfl⟩
theorem dX10_text_4 : ml_j cX10_text 4 (.ifCond .eq) 13 7 := ⟨9, by decide +kernel, by decide, rfl⟩
theorem dX10_text_7 : ml_d cX10_text 7 (.iload_n 2) 1 8 := ⟨by decide +kernel, rfl⟩
theorem dX10_text_8 : ml_d cX10_text 8 (.bipush 120) 2 10 := ⟨by decide +kernel, rfl⟩
theorem dX10_text_10 : ml_j cX10_text 10 (.if_icmp .le) 15 13 := ⟨5, by decide +kernel, by decide, rfl⟩
theorem dX10_text_13 : ml_d cX10_text 13 (.iconst (-1)) 1 14 := ⟨by decide +kernel, rfl⟩
theorem dX10_text_14 : ml_d cX10_text 14 (.ireturn) 1 15 := ⟨by decide +kernel, rfl⟩
theorem dX10_text_15 : ml_d cX10_text 15 (.iload_n 2) 1 16 := ⟨by decide +kernel, rfl⟩
theorem dX10_text_16 : ml_j cX10_text 16 (.ifCond .ge) 25 19 := ⟨9, by decide +kernel, by decide, rfl⟩
theorem dX10_text_19 : ml_d cX10_text 19 (.aload_n 0) 1 20 := ⟨by decide +kernel, rfl⟩
theorem dX10_text_20 : ml_d cX10_text 20 (.iconst 5) 1 21 := ⟨by decide +kernel, rfl⟩
theorem dX10_text_21 : ml_d cX10_text 21 (.invokevirtual 86) 3 24 := ⟨by decide +kernel, rfl⟩
theorem dX10_text_24 : ml_d cX10_text 24 (.ireturn) 1 25 := ⟨by decide +kernel, rfl⟩
theorem dX10_text_25 : ml_d cX10_text 25 (.iload_n 2) 1 26 := ⟨by decide +kernel, rfl⟩
theorem dX10_text_26 : ml_d cX10_text 26 (.newarray .byte) 2 28 := ⟨by decide +kernel, rfl⟩
theorem dX10_text_28 : ml_d cX10_text 28 (.astore_n 3) 1 29 := ⟨by decide +kernel, rfl⟩
theorem dX10_text_29 : ml_d cX10_text 29 (.aload_n 3) 1 30 := ⟨by decide +kernel, rfl⟩
theorem dX10_text_30 : ml_d cX10_text 30 (.bipush 32) 2 32 := ⟨by decide +kernel, rfl⟩
theorem dX10_text_32 : ml_d cX10_text 32 (.invokestatic 106) 3 35 := ⟨by decide +kernel, rfl⟩
theorem dX10_text_35 : ml_d cX10_text 35 (.aload_n 0) 1 36 := ⟨by decide +kernel, rfl⟩
theorem dX10_text_36 : ml_d cX10_text 36 (.getfield 17) 3 39 := ⟨by decide +kernel, rfl⟩
theorem dX10_text_39 : ml_d cX10_text 39 (.iload_n 1) 1 40 := ⟨by decide +kernel, rfl⟩
theorem dX10_text_40 : ml_d cX10_text 40 (.aload_n 3) 1 41 := ⟨by decide +kernel, rfl⟩
theorem dX10_text_41 : ml_d cX10_text 41 (.aastore) 1 42 := ⟨by decide +kernel, rfl⟩
theorem dX10_text_42 : ml_d cX10_text 42 (.iload_n 2) 1 43 := ⟨by decide +kernel, rfl⟩
theorem dX10_text_43 : ml_d cX10_text 43 (.ireturn) 1 44 := ⟨by decide +kernel, rfl⟩
def fX10_text (l0 : Nat) (l1 : Int32) (l2 : Int32) (m : ml_M) : Option (Int32 × ml_M) :=
    ml_b1 (fX10_isText l1 m) fun r43 =>
    if r43 = 0 then
    some ((-1 : Int32), m)
    else
    if l2 ≤ (120 : Int32) then
    if 0 ≤ l2 then
    if ml_len l2 then
    ml_let (ml_n m + 1) fun a45 =>
    ml_let (ml_al m 21 l2.toNatClampNeg l2.toNatClampNeg) fun m46 =>
    ml_b1 (fJ7_fill_031fb a45 (32 : Int32) m46) fun m50 =>
    if (ml_K m50 l0).1 = 10 then
    ml_let (ml_R m50 l0 1) fun a52 =>
    if (ml_K m50 a45).1 = 21 then
    if ml_in m50 a52 24 l1 then
    ml_let (ml_sR m50 a52 l1.toNatClampNeg a45) fun m55 =>
    some (l2, m55)
    else none
    else none
    else none
    else none
    else
    if (ml_K m l0).1 = 10 then
    ml_b2 (fX10_found l0 (5 : Int32) m) fun r59 m60 =>
    some (r59, m60)
    else none
    else
    some ((-1 : Int32), m)
theorem wX10_text_0 {E : ml_E} (hL : ml_eL E = 4) {rv : Int32} {rm : ml_M} (hr : ∀ (pc pc' : Nat) (lv : List (Nat × ml_X)), ml_d cX10_text pc .ireturn 1 pc' → True → ml_V E "LostRoom" cX10_text 4 false rm pc lv [ml_i rv]) : ∀ (l0 : Nat) (l1 : Int32) (l2 : Int32) (m : ml_M), fX10_text l0 l1 l2 m = some (rv, rm) → ml_V E "LostRoom" cX10_text 4 false m 0 [(0, ml_r l0), (1, ml_i l1), (2, ml_i l2)] [] := by
  intro l0 l1 l2 m h
  unfold fX10_text at h
  exact ml_iload_n dX10_text_0 1 rfl <| ml_b1_of h fun r43 hv42 h => ml_callS dX10_text_1 wm_26 wb_7 (sX10_isText hv42) rfl (Nat.le_of_ble_eq_true rfl) (Nat.le_of_ble_eq_true rfl) rfl <| ml_if_eq dX10_text_4 h (fun _ h => ml_iconst dX10_text_13 kc_im1 <| ml_rI (mk := ml_i) hr dX10_text_14 (fun _ => trivial) h) (fun _ h => ml_iload_n dX10_text_7 2 rfl <| ml_bipush dX10_text_8 kc_b120 <| ml_icmp_le dX10_text_10 h (fun _ h => ml_iload_n dX10_text_15 2 rfl <| ml_if_ge dX10_text_16 h (fun _ h => ml_iload_n dX10_text_25 2 rfl <| ml_ck_of h fun hl44 h => ml_newAs (kd := 21) dX10_text_26 wb_8 hl44 h fun a45 m46 hn47 hc48 h => ml_astore_n (lv' := [(3, ml_r a45), (0, ml_r l0), (1, ml_i l1), (2, ml_i l2)]) dX10_text_28 (ml_hn hL rfl) rfl <| ml_aload_n dX10_text_29 0 rfl <| ml_bipush dX10_text_30 kc_b32 <| ml_b1_of h fun m50 hv49 h => ml_callS dX10_text_32 wm_31 wb_9 (sJ7_fill_031fb hv49) rfl (Nat.le_of_ble_eq_true rfl) (Nat.le_of_ble_eq_true rfl) rfl <| ml_aload_n dX10_text_35 1 rfl <| ml_ck_of h fun hc51 h => ml_getR dX10_text_36 wb_10 hc51 <| ml_lx (mk := ml_r) h fun a52 h => ml_iload_n dX10_text_39 2 rfl <| ml_aload_n dX10_text_40 0 rfl <| ml_ck_of h fun hc54 h => ml_ck_of h fun hi53 h => ml_aastA (kd := 24) (ka := 21) dX10_text_41 (by decide) hi53 hc54 <| ml_lt (m := m50) rfl h fun m55 em56 h => ml_iload_n dX10_text_42 3 rfl <| ml_rI (mk := ml_i) hr dX10_text_43 (fun _ => trivial) h) (fun _ h => ml_aload_n dX10_text_19 0 rfl <| ml_iconst dX10_text_20 kc_i5 <| ml_ck_of h fun hc58 h => ml_b2_of h fun r59 m60 hv57 h => ml_callV dX10_text_21 wm_36 wb_11 hc58 (sX10_found hv57) rfl (Nat.le_of_ble_eq_true rfl) (Nat.le_of_ble_eq_true rfl) rfl <| ml_rI (mk := ml_i) hr dX10_text_24 (fun _ => trivial) h)) (fun _ h => ml_iconst dX10_text_13 kc_im1 <| ml_rI (mk := ml_i) hr dX10_text_14 (fun _ => trivial) h))
theorem sX10_text {l0 : Nat} {l1 : Int32} {l2 : Int32} {m : ml_M} {rv : Int32} {rm : ml_M} (h : fX10_text l0 l1 l2 m = some (rv, rm)) : ml_Sn yX10_text cX10_text 4 (some .int) 4 [ml_r l0, ml_i l1, ml_i l2] m (some (ml_i rv)) rm :=
  ml_Sn_of (P := True) (ini := false) (by decide +kernel) (Nat.le_of_ble_eq_true rfl) (fun h => by cases h) (fun _ => ml_RkI rv) fun E hL hr => wX10_text_0 hL hr _ _ _ _ h
theorem dX10_put_0 : ml_d cX10_put 0 (.iload_n 1) 1 1 := ⟨by decide +kernel, rfl⟩
theorem dX10_put_1 : ml_d cX10_put 1 (.invokestatic 103) 3 4 := ⟨by decide +kernel, rfl⟩
theorem dX10_put_4 : ml_j cX10_put 4 (.ifCond .ne) 9 7 := ⟨5, by decide +kernel, by decide, rfl⟩
theorem dX10_put_7 : ml_d cX10_put 7 (.iconst (-1)) 1 8 := ⟨by decide +kernel, rfl⟩
theorem dX10_put_8 : ml_d cX10_put 8 (.ireturn) 1 9 := ⟨by decide +kernel, rfl⟩
theorem dX10_put_9 : ml_d cX10_put 9 (.aload_n 0) 1 10 := ⟨by decide +kernel, rfl⟩
theorem dX10_put_10 : ml_d cX10_put 10 (.getfield 17) 3 13 := ⟨by decide +kernel, rfl⟩
theorem dX10_put_13 : ml_d cX10_put 13 (.iload_n 1) 1 14 := ⟨by decide +kernel, rfl⟩
theorem dX10_put_14 : ml_d cX10_put 14 (.aaload) 1 15 := ⟨by decide +kernel, rfl⟩
theorem dX10_put_15 : ml_d cX10_put 15 (.astore 4) 2 17 := ⟨by decide +kernel, rfl⟩
theorem dX10_put_17 : ml_d cX10_put 17 (.aload 4) 2 19 := ⟨by decide +kernel, rfl⟩
theorem dX10_put_19 : ml_j cX10_put 19 .ifnonnull 28 22 := ⟨9, by decide +kernel, by decide, rfl⟩
theorem dX10_put_22 : ml_d cX10_put 22 (.aload_n 0) 1 23 := ⟨by decide +kernel, rfl⟩
theorem dX10_put_23 : ml_d cX10_put 23 (.iconst 1) 1 24 := ⟨by decide +kernel, rfl⟩
theorem dX10_put_24 : ml_d cX10_put 24 (.invokevirtual 86) 3 27 := ⟨by decide +kernel, rfl⟩
theorem dX10_put_27 : ml_d cX10_put 27 (.ireturn) 1 28 := ⟨by decide +kernel, rfl⟩
theorem dX10_put_28 : ml_d cX10_put 28 (.iload_n 2) 1 29 := ⟨by decide +kernel, rfl⟩
theorem dX10_put_29 : ml_j cX10_put 29 (.ifCond .lt) 39 32 := ⟨10, by decide +kernel, by decide, rfl⟩
theorem dX10_put_32 : ml_d cX10_put 32 (.iload_n 2) 1 33 := ⟨by decide +kernel, rfl⟩
theorem dX10_put_33 : ml_d cX10_put 33 (.aload 4) 2 35 := ⟨by decide +kernel, rfl⟩
theorem dX10_put_35 : ml_d cX10_put 35 (.arraylength) 1 36 := ⟨by decide +kernel, rfl⟩
theorem dX10_put_36 : ml_j cX10_put 36 (.if_icmp .lt) 45 39 := ⟨9, by decide +kernel, by decide, rfl⟩
theorem dX10_put_39 : ml_d cX10_put 39 (.aload_n 0) 1 40 := ⟨by decide +kernel, rfl⟩
theorem dX10_put_40 : ml_d cX10_put 40 (.iconst 2) 1 41 := ⟨by decide +kernel, rfl⟩
theorem dX10_put_41 : ml_d cX10_put 41 (.invokevirtual 86) 3 44 := ⟨by decide +kernel, rfl⟩
theorem dX10_put_44 : ml_d cX10_put 44 (.ireturn) 1 45 := ⟨by decide +kernel, rfl⟩
theorem dX10_put_45 : ml_d cX10_put 45 (.aload 4) 2 47 := ⟨by decide +kernel, rfl⟩
theorem dX10_put_47 : ml_d cX10_put 47 (.iload_n 2) 1 48 := ⟨by decide +kernel, rfl⟩
theorem dX10_put_48 : ml_d cX10_put 48 (.baload) 1 49 := ⟨by decide +kernel, rfl⟩
theorem dX10_put_49 : ml_d cX10_put 49 (.istore 5) 2 51 := ⟨by decide +kernel, rfl⟩
theorem dX10_put_51 : ml_d cX10_put 51 (.aload 4) 2 53 := ⟨by decide +kernel, rfl⟩
theorem dX10_put_53 : ml_d cX10_put 53 (.iload_n 2) 1 54 := ⟨by decide +kernel, rfl⟩
theorem dX10_put_54 : ml_d cX10_put 54 (.iload_n 3) 1 55 := ⟨by decide +kernel, rfl⟩
theorem dX10_put_55 : ml_d cX10_put 55 (.i2b) 1 56 := ⟨by decide +kernel, rfl⟩
theorem dX10_put_56 : ml_d cX10_put 56 (.bastore) 1 57 := ⟨by decide +kernel, rfl⟩
theorem dX10_put_57 : ml_d cX10_put 57 (.sipush 1000) 3 60 := ⟨by decide +kernel, rfl⟩
theorem dX10_put_60 : ml_d cX10_put 60 (.iload 5) 2 62 := ⟨by decide +kernel, rfl⟩
theorem dX10_put_62 : ml_d cX10_put 62 (.iadd) 1 63 := ⟨by decide +kernel, rfl⟩
theorem dX10_put_63 : ml_d cX10_put 63 (.ireturn) 1 64 := ⟨by decide +kernel, rfl⟩
def fX10_put_39 (l0 : Nat) (m : ml_M) : Option (Int32 × ml_M) :=
    if (ml_K m l0).1 = 10 then
    ml_b2 (fX10_found l0 (2 : Int32) m) fun r63 m64 =>
    some (r63, m64)
    else none
theorem vX10_put_39 {E : ml_E} (hL : ml_eL E = 6) {rv : Int32} {rm : ml_M} (hr : ∀ (pc pc' : Nat) (lv : List (Nat × ml_X)), ml_d cX10_put pc .ireturn 1 pc' → True → ml_V E "LostRoom" cX10_put 4 false rm pc lv [ml_i rv]) : ∀ (l0 : Nat) (m : ml_M), fX10_put_39 l0 m = some (rv, rm) → ml_V E "LostRoom" cX10_put 4 false m 39 [(0, ml_r l0)] [] := by
  intro l0 m h
  unfold fX10_put_39 at h
  exact ml_aload_n dX10_put_39 0 rfl <| ml_iconst dX10_put_40 kc_i2 <| ml_ck_of h fun hc62 h => ml_b2_of h fun r63 m64 hv61 h => ml_callV dX10_put_41 wm_36 wb_11 hc62 (sX10_found hv61) rfl (Nat.le_of_ble_eq_true rfl) (Nat.le_of_ble_eq_true rfl) rfl <| ml_rI (mk := ml_i) hr dX10_put_44 (fun _ => trivial) h
def fX10_put (l0 : Nat) (l1 : Int32) (l2 : Int32) (l3 : Int32) (m : ml_M) : Option (Int32 × ml_M) :=
    ml_b1 (fX10_isText l1 m) fun r66 =>
    if r66 = 0 then
    some ((-1 : Int32), m)
    else
    if (ml_K m l0).1 = 10 then
    ml_let (ml_R m l0 1) fun a68 =>
    if ml_in m a68 24 l1 then
    ml_let (ml_R m a68 l1.toNatClampNeg) fun a70 =>
    if a70 = 0 then
    ml_b2 (fX10_found l0 (1 : Int32) m) fun r78 m79 =>
    some (r78, m79)
    else
    if l2 < 0 then
    fX10_put_39 l0 m
    else
    if (ml_K m a70).1 = 21 then
    if l2 < (Int32.ofNat (ml_K m a70).2) then
    if ml_in m a70 21 l2 then
    ml_let (ml_I m a70 l2.toNatClampNeg) fun x73 =>
    if ml_in m a70 21 l2 then
    ml_let (ml_sI m a70 l2.toNatClampNeg l3.toInt8.toInt32.toInt8.toInt32) fun m75 =>
    some (((1000 : Int32) + x73), m75)
    else none
    else none
    else
    fX10_put_39 l0 m
    else none
    else none
    else none
theorem wX10_put_0 {E : ml_E} (hL : ml_eL E = 6) {rv : Int32} {rm : ml_M} (hr : ∀ (pc pc' : Nat) (lv : List (Nat × ml_X)), ml_d cX10_put pc .ireturn 1 pc' → True → ml_V E "LostRoom" cX10_put 4 false rm pc lv [ml_i rv]) : ∀ (l0 : Nat) (l1 : Int32) (l2 : Int32) (l3 : Int32) (m : ml_M), fX10_put l0 l1 l2 l3 m = some (rv, rm) → ml_V E "LostRoom" cX10_put 4 false m 0 [(0, ml_r l0), (1, ml_i l1), (2, ml_i l2), (3, ml_i l3)] [] := by
  intro l0 l1 l2 l3 m h
  unfold fX10_put at h
  exact ml_iload_n dX10_put_0 1 rfl <| ml_b1_of h fun r66 hv65 h => ml_callS dX10_put_1 wm_26 wb_7 (sX10_isText hv65) rfl (Nat.le_of_ble_eq_true rfl) (Nat.le_of_ble_eq_true rfl) rfl <| ml_if_ne dX10_put_4 h (fun _ h => ml_aload_n dX10_put_9 0 rfl <| ml_ck_of h fun hc67 h => ml_getR dX10_put_10 wb_10 hc67 <| ml_lx (mk := ml_r) h fun a68 h => ml_iload_n dX10_put_13 1 rfl <| ml_ck_of h fun hi69 h => ml_aald (kd := 24) dX10_put_14 (by decide) hi69 <| ml_lx (mk := ml_r) h fun a70 h => ml_astore (lv' := [(4, ml_r a70), (0, ml_r l0), (1, ml_i l1), (2, ml_i l2), (3, ml_i l3)]) dX10_put_15 (ml_hn hL rfl) rfl <| ml_aload dX10_put_17 0 rfl <| ml_ifnonnull dX10_put_19 h (fun _ h => ml_iload_n dX10_put_28 3 rfl <| ml_if_lt dX10_put_29 h (fun _ h => ml_V.sub [1] rfl (vX10_put_39 hL hr  _ _ h)) (fun _ h => ml_iload_n dX10_put_32 3 rfl <| ml_aload dX10_put_33 0 rfl <| ml_ck_of h fun hc71 h => ml_alen (kd := 21) dX10_put_35 (by decide) hc71 <| ml_icmp_lt dX10_put_36 h (fun _ h => ml_aload dX10_put_45 0 rfl <| ml_iload_n dX10_put_47 3 rfl <| ml_ck_of h fun hi72 h => ml_bald dX10_put_48 hi72 <| ml_lx (mk := ml_i) h fun x73 h => ml_istore (lv' := [(5, ml_i x73), (4, ml_r a70), (0, ml_r l0), (1, ml_i l1), (2, ml_i l2), (3, ml_i l3)]) dX10_put_49 (ml_hn hL rfl) rfl <| ml_aload dX10_put_51 1 rfl <| ml_iload_n dX10_put_53 4 rfl <| ml_iload_n dX10_put_54 5 rfl <| ml_i2b dX10_put_55 <| ml_ck_of h fun hi74 h => ml_bast dX10_put_56 hi74 <| ml_lt (m := m) rfl h fun m75 em76 h => ml_sipush dX10_put_57 kc_s1000 <| ml_iload dX10_put_60 0 rfl <| ml_iadd dX10_put_62 <| ml_rI (mk := ml_i) hr dX10_put_63 (fun _ => trivial) h) (fun _ h => ml_V.sub [1] rfl (vX10_put_39 hL hr  _ _ h)))) (fun _ h => ml_aload_n dX10_put_22 1 rfl <| ml_iconst dX10_put_23 kc_i1 <| ml_b2_of h fun r78 m79 hv77 h => ml_callV dX10_put_24 wm_36 wb_11 hc67 (sX10_found hv77) rfl (Nat.le_of_ble_eq_true rfl) (Nat.le_of_ble_eq_true rfl) rfl <| ml_rI (mk := ml_i) hr dX10_put_27 (fun _ => trivial) h)) (fun _ h => ml_iconst dX10_put_7 kc_im1 <| ml_rI (mk := ml_i) hr dX10_put_8 (fun _ => trivial) h)
theorem sX10_put {l0 : Nat} {l1 : Int32} {l2 : Int32} {l3 : Int32} {m : ml_M} {rv : Int32} {rm : ml_M} (h : fX10_put l0 l1 l2 l3 m = some (rv, rm)) : ml_Sn yX10_put cX10_put 6 (some .int) 4 [ml_r l0, ml_i l1, ml_i l2, ml_i l3] m (some (ml_i rv)) rm :=
  ml_Sn_of (P := True) (ini := false) (by decide +kernel) (Nat.le_of_ble_eq_true rfl) (fun h => by cases h) (fun _ => ml_RkI rv) fun E hL hr => wX10_put_0 hL hr _ _ _ _ _ h
theorem dL_put_0 : ml_d cL_put 0 (.iload_n 1) 1 1 := ⟨by decide +kernel, rfl⟩
theorem dL_put_1 : ml_j cL_put 1 (.ifCond .lt) 23 4 := ⟨22, by decide +kernel, by decide, rfl⟩
theorem dL_put_4 : ml_d cL_put 4 (.aload_n 0) 1 5 := ⟨by decide +kernel, rfl⟩
theorem dL_put_5 : ml_d cL_put 5 (.iconst 3) 1 6 := ⟨by decide +kernel, rfl⟩
theorem dL_put_6 : ml_d cL_put 6 (.iload_n 1) 1 7 := ⟨by decide +kernel, rfl⟩
theorem dL_put_7 : ml_d cL_put 7 (.iload_n 2) 1 8 := ⟨by decide +kernel, rfl⟩
theorem dL_put_8 : ml_d cL_put 8 (.invokevirtual 8) 3 11 := ⟨by decide +kernel, rfl⟩
theorem dL_put_11 : ml_d cL_put 11 (.sipush 1032) 3 14 := ⟨by decide +kernel, rfl⟩
theorem dL_put_14 : ml_j cL_put 14 (.if_icmp .ne) 23 17 := ⟨9, by decide +kernel, by decide, rfl⟩
theorem dL_put_17 : ml_d cL_put 17 (.iload_n 1) 1 18 := ⟨by decide +kernel, rfl⟩
theorem dL_put_18 : ml_d cL_put 18 (.iconst 1) 1 19 := ⟨by decide +kernel, rfl⟩
theorem dL_put_19 : ml_d cL_put 19 (.iadd) 1 20 := ⟨by decide +kernel, rfl⟩
theorem dL_put_20 : ml_j cL_put 20 .goto 26 23 := ⟨6, by decide +kernel, by decide, rfl⟩
theorem dL_put_23 : ml_d cL_put 23 (.sipush (-1000)) 3 26 := ⟨by decide +kernel, rfl⟩
theorem dL_put_26 : ml_d cL_put 26 (.ireturn) 1 27 := ⟨by decide +kernel, rfl⟩
def fL_put (l0 : Nat) (l1 : Int32) (l2 : Int32) (m : ml_M) : Option (Int32 × ml_M) :=
    if l1 < 0 then
    some ((-1000 : Int32), m)
    else
    if (ml_K m l0).1 = 10 then
    ml_b2 (fX10_put l0 (3 : Int32) l1 l2 m) fun r82 m83 =>
    if r82 = (1032 : Int32) then
    some ((l1 + (1 : Int32)), m83)
    else
    some ((-1000 : Int32), m83)
    else none
theorem wL_put_0 {E : ml_E} (hL : ml_eL E = 3) {rv : Int32} {rm : ml_M} (hr : ∀ (pc pc' : Nat) (lv : List (Nat × ml_X)), ml_d cL_put pc .ireturn 1 pc' → True → ml_V E "LostRoomLaw" cL_put 5 false rm pc lv [ml_i rv]) : ∀ (l0 : Nat) (l1 : Int32) (l2 : Int32) (m : ml_M), fL_put l0 l1 l2 m = some (rv, rm) → ml_V E "LostRoomLaw" cL_put 5 false m 0 [(0, ml_r l0), (1, ml_i l1), (2, ml_i l2)] [] := by
  intro l0 l1 l2 m h
  unfold fL_put at h
  exact ml_iload_n dL_put_0 1 rfl <| ml_if_lt dL_put_1 h (fun _ h => ml_sipush dL_put_23 kc_sm1000 <| ml_rI (mk := ml_i) hr dL_put_26 (fun _ => trivial) h) (fun _ h => ml_aload_n dL_put_4 0 rfl <| ml_iconst dL_put_5 kc_i3 <| ml_iload_n dL_put_6 1 rfl <| ml_iload_n dL_put_7 2 rfl <| ml_ck_of h fun hc81 h => ml_b2_of h fun r82 m83 hv80 h => ml_callV dL_put_8 wm_40 wb_12 hc81 (sX10_put hv80) rfl (Nat.le_of_ble_eq_true rfl) (Nat.le_of_ble_eq_true rfl) rfl <| ml_sipush dL_put_11 kc_s1032 <| ml_icmp_ne dL_put_14 h (fun _ h => ml_sipush dL_put_23 kc_sm1000 <| ml_rI (mk := ml_i) hr dL_put_26 (fun _ => trivial) h) (fun _ h => ml_iload_n dL_put_17 1 rfl <| ml_iconst dL_put_18 kc_i1 <| ml_iadd dL_put_19 <| ml_goto dL_put_20 <| ml_rI (mk := ml_i) hr dL_put_26 (fun _ => trivial) h))
theorem sL_put {l0 : Nat} {l1 : Int32} {l2 : Int32} {m : ml_M} {rv : Int32} {rm : ml_M} (h : fL_put l0 l1 l2 m = some (rv, rm)) : ml_Sn yL_put cL_put 3 (some .int) 5 [ml_r l0, ml_i l1, ml_i l2] m (some (ml_i rv)) rm :=
  ml_Sn_of (P := True) (ini := false) (by decide +kernel) (Nat.le_of_ble_eq_true rfl) (fun h => by cases h) (fun _ => ml_RkI rv) fun E hL hr => wL_put_0 hL hr _ _ _ _ h
theorem dL_number_0 : ml_d cL_number 0 (.iload_n 2) 1 1 := ⟨by decide +kernel, rfl⟩
theorem dL_number_1 : ml_d cL_number 1 (.bipush 10) 2 3 := ⟨by decide +kernel, rfl⟩
theorem dL_number_3 : ml_j cL_number 3 (.if_icmp .ge) 18 6 := ⟨15, by decide +kernel, by decide, rfl⟩
theorem dL_number_6 : ml_d cL_number 6 (.aload_n 0) 1 7 := ⟨by decide +kernel, rfl⟩
theorem dL_number_7 : ml_d cL_number 7 (.iload_n 1) 1 8 := ⟨by decide +kernel, rfl⟩
theorem dL_number_8 : ml_d cL_number 8 (.bipush 48) 2 10 := ⟨by decide +kernel, rfl⟩
theorem dL_number_10 : ml_d cL_number 10 (.iload_n 2) 1 11 := ⟨by decide +kernel, rfl⟩
theorem dL_number_11 : ml_d cL_number 11 (.iadd) 1 12 := ⟨by decide +kernel, rfl⟩
theorem dL_number_12 : ml_d cL_number 12 (.invokestatic 14) 3 15 := ⟨by decide +kernel, rfl⟩
theorem dL_number_15 : ml_j cL_number 15 .goto 41 18 := ⟨26, by decide +kernel, by decide, rfl⟩
theorem dL_number_18 : ml_d cL_number 18 (.aload_n 0) 1 19 := ⟨by decide +kernel, rfl⟩
theorem dL_number_19 : ml_d cL_number 19 (.aload_n 0) 1 20 := ⟨by decide +kernel, rfl⟩
theorem dL_number_20 : ml_d cL_number 20 (.iload_n 1) 1 21 := ⟨by decide +kernel, rfl⟩
theorem dL_number_21 : ml_d cL_number 21 (.bipush 48) 2 23 := ⟨by decide +kernel, rfl⟩
theorem dL_number_23 : ml_d cL_number 23 (.iload_n 2) 1 24 := ⟨by decide +kernel, rfl⟩
theorem dL_number_24 : ml_d cL_number 24 (.bipush 10) 2 26 := ⟨by decide +kernel, rfl⟩
theorem dL_number_26 : ml_d cL_number 26 (.idiv) 1 27 := ⟨by decide +kernel, rfl⟩
theorem dL_number_27 : ml_d cL_number 27 (.iadd) 1 28 := ⟨by decide +kernel, rfl⟩
theorem dL_number_28 : ml_d cL_number 28 (.invokestatic 14) 3 31 := ⟨by decide +kernel, rfl⟩
theorem dL_number_31 : ml_d cL_number 31 (.bipush 48) 2 33 := ⟨by decide +kernel, rfl⟩
theorem dL_number_33 : ml_d cL_number 33 (.iload_n 2) 1 34 := ⟨by decide +kernel, rfl⟩
theorem dL_number_34 : ml_d cL_number 34 (.bipush 10) 2 36 := ⟨by decide +kernel, rfl⟩
theorem dL_number_36 : ml_d cL_number 36 (.irem) 1 37 := ⟨by decide +kernel, rfl⟩
theorem dL_number_37 : ml_d cL_number 37 (.iadd) 1 38 := ⟨by decide +kernel, rfl⟩
theorem dL_number_38 : ml_d cL_number 38 (.invokestatic 14) 3 41 := ⟨by decide +kernel, rfl⟩
theorem dL_number_41 : ml_d cL_number 41 (.ireturn) 1 42 := ⟨by decide +kernel, rfl⟩
def fL_number (l0 : Nat) (l1 : Int32) (l2 : Int32) (m : ml_M) : Option (Int32 × ml_M) :=
    if (10 : Int32) ≤ l2 then
    ml_b2 (fL_put l0 l1 ((48 : Int32) + (l2 / (10 : Int32))) m) fun r85 m86 =>
    ml_b2 (fL_put l0 r85 ((48 : Int32) + (l2 - l2 / (10 : Int32) * (10 : Int32))) m86) fun r88 m89 =>
    some (r88, m89)
    else
    ml_b2 (fL_put l0 l1 ((48 : Int32) + l2) m) fun r91 m92 =>
    some (r91, m92)
theorem wL_number_0 {E : ml_E} (hL : ml_eL E = 3) {rv : Int32} {rm : ml_M} (hr : ∀ (pc pc' : Nat) (lv : List (Nat × ml_X)), ml_d cL_number pc .ireturn 1 pc' → True → ml_V E "LostRoomLaw" cL_number 6 false rm pc lv [ml_i rv]) : ∀ (l0 : Nat) (l1 : Int32) (l2 : Int32) (m : ml_M), fL_number l0 l1 l2 m = some (rv, rm) → ml_V E "LostRoomLaw" cL_number 6 false m 0 [(0, ml_r l0), (1, ml_i l1), (2, ml_i l2)] [] := by
  intro l0 l1 l2 m h
  unfold fL_number at h
  exact ml_iload_n dL_number_0 2 rfl <| ml_bipush dL_number_1 kc_b10 <| ml_icmp_ge dL_number_3 h (fun _ h => ml_aload_n dL_number_18 0 rfl <| ml_aload_n dL_number_19 0 rfl <| ml_iload_n dL_number_20 1 rfl <| ml_bipush dL_number_21 kc_b48 <| ml_iload_n dL_number_23 2 rfl <| ml_bipush dL_number_24 kc_b10 <| ml_idiv dL_number_26 (by decide) <| ml_iadd dL_number_27 <| ml_b2_of h fun r85 m86 hv84 h => ml_callS dL_number_28 wm_44 wb_13 (sL_put hv84) rfl (Nat.le_of_ble_eq_true rfl) (Nat.le_of_ble_eq_true rfl) rfl <| ml_bipush dL_number_31 kc_b48 <| ml_iload_n dL_number_33 2 rfl <| ml_bipush dL_number_34 kc_b10 <| ml_irem dL_number_36 (by decide) <| ml_iadd dL_number_37 <| ml_b2_of h fun r88 m89 hv87 h => ml_callS dL_number_38 wm_44 wb_13 (sL_put hv87) rfl (Nat.le_of_ble_eq_true rfl) (Nat.le_of_ble_eq_true rfl) rfl <| ml_rI (mk := ml_i) hr dL_number_41 (fun _ => trivial) h) (fun _ h => ml_aload_n dL_number_6 0 rfl <| ml_iload_n dL_number_7 1 rfl <| ml_bipush dL_number_8 kc_b48 <| ml_iload_n dL_number_10 2 rfl <| ml_iadd dL_number_11 <| ml_b2_of h fun r91 m92 hv90 h => ml_callS dL_number_12 wm_44 wb_13 (sL_put hv90) rfl (Nat.le_of_ble_eq_true rfl) (Nat.le_of_ble_eq_true rfl) rfl <| ml_goto dL_number_15 <| ml_rI (mk := ml_i) hr dL_number_41 (fun _ => trivial) h)
theorem sL_number {l0 : Nat} {l1 : Int32} {l2 : Int32} {m : ml_M} {rv : Int32} {rm : ml_M} (h : fL_number l0 l1 l2 m = some (rv, rm)) : ml_Sn yL_number cL_number 3 (some .int) 6 [ml_r l0, ml_i l1, ml_i l2] m (some (ml_i rv)) rm :=
  ml_Sn_of (P := True) (ini := false) (by decide +kernel) (Nat.le_of_ble_eq_true rfl) (fun h => by cases h) (fun _ => ml_RkI rv) fun E hL hr => wL_number_0 hL hr _ _ _ _ h
theorem dX1_init_0 : ml_d cX1_init 0 (.aload_n 0) 1 1 := ⟨by decide +kernel, rfl⟩
theorem dX1_init_1 : ml_d cX1_init 1 (.invokespecial 3) 3 4 := ⟨by decide +kernel, rfl⟩
theorem dX1_init_4 : ml_d cX1_init 4 (.aload_n 0) 1 5 := ⟨by decide +kernel, rfl⟩
theorem dX1_init_5 : ml_d cX1_init 5 (.bipush 8) 2 7 := ⟨by decide +kernel, rfl⟩
theorem dX1_init_7 : ml_d cX1_init 7 (.anewarray 9) 3 10 := ⟨by decide +kernel, rfl⟩
theorem dX1_init_10 : ml_d cX1_init 10 (.putfield 11) 3 13 := ⟨by decide +kernel, rfl⟩
theorem dX1_init_13 : ml_d cX1_init 13 (.aload_n 0) 1 14 := ⟨by decide +kernel, rfl⟩
theorem dX1_init_14 : ml_d cX1_init 14 (.bipush 8) 2 16 := ⟨by decide +kernel, rfl⟩
theorem dX1_init_16 : ml_d cX1_init 16 (.anewarray 17) 3 19 := ⟨by decide +kernel, rfl⟩
theorem dX1_init_19 : ml_d cX1_init 19 (.putfield 19) 3 22 := ⟨by decide +kernel, rfl⟩
theorem dX1_init_22 : ml_d cX1_init 22 (.aload_n 0) 1 23 := ⟨by decide +kernel, rfl⟩
theorem dX1_init_23 : ml_d cX1_init 23 (.bipush (-9)) 2 25 := ⟨by decide +kernel, rfl⟩
theorem dX1_init_25 : ml_d cX1_init 25 (.putfield 23) 3 28 := ⟨by decide +kernel, rfl⟩
theorem dX1_init_28 : ml_d cX1_init 28 (.aload_n 0) 1 29 := ⟨by decide +kernel, rfl⟩
theorem dX1_init_29 : ml_d cX1_init 29 (.aload_n 1) 1 30 := ⟨by decide +kernel, rfl⟩
theorem dX1_init_30 : ml_d cX1_init 30 (.putfield 27) 3 33 := ⟨by decide +kernel, rfl⟩
theorem dX1_init_33 : ml_d cX1_init 33 (.return_) 1 34 := ⟨by decide +kernel, rfl⟩
def fX1_init (l0 : Nat) (l1 : Nat) (m : ml_M) : Option ml_M :=
    if l0 ≠ 0 then
    ml_let (ml_n m + 1) fun a94 =>
    ml_let (ml_al m 28 (8 : Int32).toNatClampNeg (8 : Int32).toNatClampNeg) fun m95 =>
    if (ml_K m95 l0).1 = 1 then
    ml_let (ml_sR m95 l0 0 a94) fun m99 =>
    ml_let (ml_n m99 + 1) fun a101 =>
    ml_let (ml_al m99 30 (8 : Int32).toNatClampNeg (8 : Int32).toNatClampNeg) fun m102 =>
    if (ml_K m102 l0).1 = 1 then
    ml_let (ml_sR m102 l0 1 a101) fun m106 =>
    ml_let (ml_sI m106 l0 4 (-9 : Int32)) fun m108 =>
    ml_let (ml_sR m108 l0 6 l1) fun m110 =>
    some m110
    else none
    else none
    else none
theorem wX1_init_0 {E : ml_E} (hL : ml_eL E = 2) {rm : ml_M} (hr : ∀ (pc pc' : Nat) (lv : List (Nat × ml_X)), ml_d cX1_init pc .return_ 1 pc' → True → ml_V E "LostRoom$Book" cX1_init 2 true rm pc lv []) : ∀ (l0 : Nat) (l1 : Nat) (m : ml_M), fX1_init l0 l1 m = some rm → ml_V E "LostRoom$Book" cX1_init 2 true m 0 [(0, ml_r l0), (1, ml_r l1)] [] := by
  intro l0 l1 m h
  unfold fX1_init at h
  exact ml_aload_n dX1_init_0 0 rfl <| ml_ck_of h fun hz93 h => ml_objInit dX1_init_1 wb_14 (Nat.le_of_ble_eq_true rfl) (Nat.le_of_ble_eq_true rfl) hz93 <| ml_aload_n dX1_init_4 0 rfl <| ml_bipush dX1_init_5 kc_b8 <| ml_newQs (c9 := "LostRoom$Lodger") (kd := 28) dX1_init_7 wb_15 (by decide) h fun a94 m95 hn96 hc97 h => ml_ck_of h fun hc98 h => ml_putR dX1_init_10 wb_16 hc98 <| ml_lt (m := m95) rfl h fun m99 em100 h => ml_aload_n dX1_init_13 0 rfl <| ml_bipush dX1_init_14 kc_b8 <| ml_newQs (c9 := "LostRoom$Trunk") (kd := 30) dX1_init_16 wb_17 (by decide) h fun a101 m102 hn103 hc104 h => ml_ck_of h fun hc105 h => ml_putR dX1_init_19 wb_18 hc105 <| ml_lt (m := m102) rfl h fun m106 em107 h => ml_aload_n dX1_init_22 0 rfl <| ml_bipush dX1_init_23 kc_bm9 <| ml_putI dX1_init_25 wb_19 (ml_kk em107 hc105) <| ml_lt (m := m106) rfl h fun m108 em109 h => ml_aload_n dX1_init_28 0 rfl <| ml_aload_n dX1_init_29 1 rfl <| ml_putR dX1_init_30 wb_20 (ml_kk em109 (ml_kk em107 hc105)) <| ml_lt (m := m108) rfl h fun m110 em111 h => ml_rv hr dX1_init_33 trivial h
theorem sX1_init {l0 : Nat} {l1 : Nat} {m : ml_M} {rm : ml_M} (h : fX1_init l0 l1 m = some rm) : ml_Sn yX1_init cX1_init 2 none 2 [ml_r l0, ml_r l1] m none rm :=
  ml_Sn_of (P := True) (ini := true) (by decide +kernel) (Nat.le_of_ble_eq_true rfl) (fun _ => rfl) (fun _ => ml_RkV) fun E hL hr => wX1_init_0 hL hr _ _ _ h
theorem dX1_readFigure_0 : ml_d cX1_readFigure 0 (.aload_n 0) 1 1 := ⟨by decide +kernel, rfl⟩
theorem dX1_readFigure_1 : ml_d cX1_readFigure 1 (.getfield 23) 3 4 := ⟨by decide +kernel, rfl⟩
theorem dX1_readFigure_4 : ml_d cX1_readFigure 4 (.bipush (-9)) 2 6 := ⟨by decide +kernel, rfl⟩
theorem dX1_readFigure_6 : ml_j cX1_readFigure 6 (.if_icmp .eq) 11 9 := ⟨5, by decide +kernel, by decide, rfl⟩
theorem dX1_readFigure_9 : ml_d cX1_readFigure 9 (.iconst 0) 1 10 := ⟨by decide +kernel, rfl⟩
theorem dX1_readFigure_10 : ml_d cX1_readFigure 10 (.ireturn) 1 11 := ⟨by decide +kernel, rfl⟩
theorem dX1_readFigure_11 : ml_d cX1_readFigure 11 (.aload_n 0) 1 12 := ⟨by decide +kernel, rfl⟩
theorem dX1_readFigure_12 : ml_d cX1_readFigure 12 (.getfield 31) 3 15 := ⟨by decide +kernel, rfl⟩
theorem dX1_readFigure_15 : ml_d cX1_readFigure 15 (.aload_n 0) 1 16 := ⟨by decide +kernel, rfl⟩
theorem dX1_readFigure_16 : ml_d cX1_readFigure 16 (.getfield 27) 3 19 := ⟨by decide +kernel, rfl⟩
theorem dX1_readFigure_19 : ml_d cX1_readFigure 19 (.arraylength) 1 20 := ⟨by decide +kernel, rfl⟩
theorem dX1_readFigure_20 : ml_j cX1_readFigure 20 (.if_icmp .ge) 43 23 := ⟨23, by decide +kernel, by decide, rfl⟩
theorem dX1_readFigure_23 : ml_d cX1_readFigure 23 (.aload_n 0) 1 24 := ⟨by decide +kernel, rfl⟩
theorem dX1_readFigure_24 : ml_d cX1_readFigure 24 (.getfield 27) 3 27 := ⟨by decide +kernel, rfl⟩
theorem dX1_readFigure_27 : ml_d cX1_readFigure 27 (.aload_n 0) 1 28 := ⟨by decide +kernel, rfl⟩
theorem dX1_readFigure_28 : ml_d cX1_readFigure 28 (.getfield 31) 3 31 := ⟨by decide +kernel, rfl⟩
theorem dX1_readFigure_31 : ml_d cX1_readFigure 31 (.baload) 1 32 := ⟨by decide +kernel, rfl⟩
theorem dX1_readFigure_32 : ml_d cX1_readFigure 32 (.bipush 48) 2 34 := ⟨by decide +kernel, rfl⟩
theorem dX1_readFigure_34 : ml_d cX1_readFigure 34 (.isub) 1 35 := ⟨by decide +kernel, rfl⟩
theorem dX1_readFigure_35 : ml_d cX1_readFigure 35 (.iload_n 1) 1 36 := ⟨by decide +kernel, rfl⟩
theorem dX1_readFigure_36 : ml_d cX1_readFigure 36 (.iload_n 2) 1 37 := ⟨by decide +kernel, rfl⟩
theorem dX1_readFigure_37 : ml_d cX1_readFigure 37 (.invokestatic 80) 3 40 := ⟨by decide +kernel, rfl⟩
theorem dX1_readFigure_40 : ml_j cX1_readFigure 40 (.ifCond .ne) 53 43 := ⟨13, by decide +kernel, by decide, rfl⟩
theorem dX1_readFigure_43 : ml_d cX1_readFigure 43 (.aload_n 0) 1 44 := ⟨by decide +kernel, rfl⟩
theorem dX1_readFigure_44 : ml_d cX1_readFigure 44 (.aload_n 0) 1 45 := ⟨by decide +kernel, rfl⟩
theorem dX1_readFigure_45 : ml_d cX1_readFigure 45 (.getfield 31) 3 48 := ⟨by decide +kernel, rfl⟩
theorem dX1_readFigure_48 : ml_d cX1_readFigure 48 (.putfield 23) 3 51 := ⟨by decide +kernel, rfl⟩
theorem dX1_readFigure_51 : ml_d cX1_readFigure 51 (.iconst 0) 1 52 := ⟨by decide +kernel, rfl⟩
theorem dX1_readFigure_52 : ml_d cX1_readFigure 52 (.ireturn) 1 53 := ⟨by decide +kernel, rfl⟩
theorem dX1_readFigure_53 : ml_d cX1_readFigure 53 (.aload_n 0) 1 54 := ⟨by decide +kernel, rfl⟩
theorem dX1_readFigure_54 : ml_d cX1_readFigure 54 (.getfield 27) 3 57 := ⟨by decide +kernel, rfl⟩
theorem dX1_readFigure_57 : ml_d cX1_readFigure 57 (.aload_n 0) 1 58 := ⟨by decide +kernel, rfl⟩
theorem dX1_readFigure_58 : ml_d cX1_readFigure 58 (.getfield 31) 3 61 := ⟨by decide +kernel, rfl⟩
theorem dX1_readFigure_61 : ml_d cX1_readFigure 61 (.baload) 1 62 := ⟨by decide +kernel, rfl⟩
theorem dX1_readFigure_62 : ml_d cX1_readFigure 62 (.bipush 48) 2 64 := ⟨by decide +kernel, rfl⟩
theorem dX1_readFigure_64 : ml_d cX1_readFigure 64 (.isub) 1 65 := ⟨by decide +kernel, rfl⟩
theorem dX1_readFigure_65 : ml_d cX1_readFigure 65 (.istore_n 3) 1 66 := ⟨by decide +kernel, rfl⟩
theorem dX1_readFigure_66 : ml_d cX1_readFigure 66 (.aload_n 0) 1 67 := ⟨by decide +kernel, rfl⟩
theorem dX1_readFigure_67 : ml_d cX1_readFigure 67 (.dup) 1 68 := ⟨by decide +kernel, rfl⟩
theorem dX1_readFigure_68 : ml_d cX1_readFigure 68 (.getfield 31) 3 71 := ⟨by decide +kernel, rfl⟩
theorem dX1_readFigure_71 : ml_d cX1_readFigure 71 (.iconst 1) 1 72 := ⟨by decide +kernel, rfl⟩
theorem dX1_readFigure_72 : ml_d cX1_readFigure 72 (.iadd) 1 73 := ⟨by decide +kernel, rfl⟩
theorem dX1_readFigure_73 : ml_d cX1_readFigure 73 (.putfield 31) 3 76 := ⟨by decide +kernel, rfl⟩
theorem dX1_readFigure_76 : ml_d cX1_readFigure 76 (.iload_n 3) 1 77 := ⟨by decide +kernel, rfl⟩
theorem dX1_readFigure_77 : ml_d cX1_readFigure 77 (.ireturn) 1 78 := ⟨by decide +kernel, rfl⟩
def fX1_readFigure_43 (l0 : Nat) (m : ml_M) : Option (Int32 × ml_M) :=
    if (ml_K m l0).1 = 1 then
    ml_let (ml_sI m l0 4 (ml_I m l0 7)) fun m113 =>
    some ((0 : Int32), m113)
    else none
theorem vX1_readFigure_43 {E : ml_E} (hL : ml_eL E = 4) {rv : Int32} {rm : ml_M} (hr : ∀ (pc pc' : Nat) (lv : List (Nat × ml_X)), ml_d cX1_readFigure pc .ireturn 1 pc' → True → ml_V E "LostRoom$Book" cX1_readFigure 3 false rm pc lv [ml_i rv]) : ∀ (l0 : Nat) (m : ml_M), fX1_readFigure_43 l0 m = some (rv, rm) → ml_V E "LostRoom$Book" cX1_readFigure 3 false m 43 [(0, ml_r l0)] [] := by
  intro l0 m h
  unfold fX1_readFigure_43 at h
  exact ml_aload_n dX1_readFigure_43 0 rfl <| ml_aload_n dX1_readFigure_44 0 rfl <| ml_ck_of h fun hc112 h => ml_getI dX1_readFigure_45 wb_21 hc112 <| ml_putI dX1_readFigure_48 wb_22 hc112 <| ml_lt (m := m) rfl h fun m113 em114 h => ml_iconst dX1_readFigure_51 kc_i0 <| ml_rI (mk := ml_i) hr dX1_readFigure_52 (fun _ => trivial) h
def fX1_readFigure (l0 : Nat) (l1 : Int32) (l2 : Int32) (m : ml_M) : Option (Int32 × ml_M) :=
    if (ml_K m l0).1 = 1 then
    if (ml_I m l0 4) = (-9 : Int32) then
    ml_let (ml_R m l0 6) fun a116 =>
    if (ml_K m a116).1 = 21 then
    if (Int32.ofNat (ml_K m a116).2) ≤ (ml_I m l0 7) then
    fX1_readFigure_43 l0 m
    else
    ml_let (ml_R m l0 6) fun a118 =>
    if ml_in m a118 21 (ml_I m l0 7) then
    ml_b1 (fX10_within ((ml_I m a118 (ml_I m l0 7).toNatClampNeg) - (48 : Int32)) l1 l2 m) fun r121 =>
    if r121 = 0 then
    fX1_readFigure_43 l0 m
    else
    ml_let (ml_R m l0 6) fun a122 =>
    if ml_in m a122 21 (ml_I m l0 7) then
    ml_let ((ml_I m a122 (ml_I m l0 7).toNatClampNeg) - (48 : Int32)) fun x124 =>
    ml_let (ml_sI m l0 7 ((ml_I m l0 7) + (1 : Int32))) fun m125 =>
    some (x124, m125)
    else none
    else none
    else none
    else
    some ((0 : Int32), m)
    else none
theorem wX1_readFigure_0 {E : ml_E} (hL : ml_eL E = 4) {rv : Int32} {rm : ml_M} (hr : ∀ (pc pc' : Nat) (lv : List (Nat × ml_X)), ml_d cX1_readFigure pc .ireturn 1 pc' → True → ml_V E "LostRoom$Book" cX1_readFigure 3 false rm pc lv [ml_i rv]) : ∀ (l0 : Nat) (l1 : Int32) (l2 : Int32) (m : ml_M), fX1_readFigure l0 l1 l2 m = some (rv, rm) → ml_V E "LostRoom$Book" cX1_readFigure 3 false m 0 [(0, ml_r l0), (1, ml_i l1), (2, ml_i l2)] [] := by
  intro l0 l1 l2 m h
  unfold fX1_readFigure at h
  exact ml_aload_n dX1_readFigure_0 0 rfl <| ml_ck_of h fun hc115 h => ml_getI dX1_readFigure_1 wb_23 hc115 <| ml_bipush dX1_readFigure_4 kc_bm9 <| ml_icmp_eq dX1_readFigure_6 h (fun _ h => ml_aload_n dX1_readFigure_11 0 rfl <| ml_getI dX1_readFigure_12 wb_21 hc115 <| ml_aload_n dX1_readFigure_15 0 rfl <| ml_getR dX1_readFigure_16 wb_24 hc115 <| ml_lx (mk := ml_r) h fun a116 h => ml_ck_of h fun hc117 h => ml_alen (kd := 21) dX1_readFigure_19 (by decide) hc117 <| ml_icmp_ge dX1_readFigure_20 h (fun _ h => ml_V.sub [0] rfl (vX1_readFigure_43 hL hr  _ _ h)) (fun _ h => ml_aload_n dX1_readFigure_23 0 rfl <| ml_getR dX1_readFigure_24 wb_24 hc115 <| ml_lx (mk := ml_r) h fun a118 h => ml_aload_n dX1_readFigure_27 0 rfl <| ml_getI dX1_readFigure_28 wb_21 hc115 <| ml_ck_of h fun hi119 h => ml_bald dX1_readFigure_31 hi119 <| ml_bipush dX1_readFigure_32 kc_b48 <| ml_isub dX1_readFigure_34 <| ml_iload_n dX1_readFigure_35 1 rfl <| ml_iload_n dX1_readFigure_36 2 rfl <| ml_b1_of h fun r121 hv120 h => ml_callSN (host := "LostRoom") dX1_readFigure_37 (by decide) wb_4 (sX10_within hv120) rfl (Nat.le_of_ble_eq_true rfl) (Nat.le_of_ble_eq_true rfl) rfl <| ml_if_ne dX1_readFigure_40 h (fun _ h => ml_aload_n dX1_readFigure_53 0 rfl <| ml_getR dX1_readFigure_54 wb_24 hc115 <| ml_lx (mk := ml_r) h fun a122 h => ml_aload_n dX1_readFigure_57 0 rfl <| ml_getI dX1_readFigure_58 wb_21 hc115 <| ml_ck_of h fun hi123 h => ml_bald dX1_readFigure_61 hi123 <| ml_bipush dX1_readFigure_62 kc_b48 <| ml_isub dX1_readFigure_64 <| ml_lx (mk := ml_i) h fun x124 h => ml_istore_n (lv' := [(3, ml_i x124), (0, ml_r l0), (1, ml_i l1), (2, ml_i l2)]) dX1_readFigure_65 (ml_hn hL rfl) rfl <| ml_aload_n dX1_readFigure_66 1 rfl <| ml_dup dX1_readFigure_67 rfl <| ml_getI dX1_readFigure_68 wb_21 hc115 <| ml_iconst dX1_readFigure_71 kc_i1 <| ml_iadd dX1_readFigure_72 <| ml_putI dX1_readFigure_73 wb_25 hc115 <| ml_lt (m := m) rfl h fun m125 em126 h => ml_iload_n dX1_readFigure_76 0 rfl <| ml_rI (mk := ml_i) hr dX1_readFigure_77 (fun _ => trivial) h) (fun _ h => ml_V.sub [0] rfl (vX1_readFigure_43 hL hr  _ _ h)))) (fun _ h => ml_iconst dX1_readFigure_9 kc_i0 <| ml_rI (mk := ml_i) hr dX1_readFigure_10 (fun _ => trivial) h)
theorem sX1_readFigure {l0 : Nat} {l1 : Int32} {l2 : Int32} {m : ml_M} {rv : Int32} {rm : ml_M} (h : fX1_readFigure l0 l1 l2 m = some (rv, rm)) : ml_Sn yX1_readFigure cX1_readFigure 4 (some .int) 3 [ml_r l0, ml_i l1, ml_i l2] m (some (ml_i rv)) rm :=
  ml_Sn_of (P := True) (ini := false) (by decide +kernel) (Nat.le_of_ble_eq_true rfl) (fun h => by cases h) (fun _ => ml_RkI rv) fun E hL hr => wX1_readFigure_0 hL hr _ _ _ _ h
theorem dX1_readYear_0 : ml_d cX1_readYear 0 (.aload_n 0) 1 1 := ⟨by decide +kernel, rfl⟩
theorem dX1_readYear_1 : ml_d cX1_readYear 1 (.iconst 0) 1 2 := ⟨by decide +kernel, rfl⟩
theorem dX1_readYear_2 : ml_d cX1_readYear 2 (.bipush 9) 2 4 := ⟨by decide +kernel, rfl⟩
theorem dX1_readYear_4 : ml_d cX1_readYear 4 (.invokevirtual 64) 3 7 := ⟨by decide +kernel, rfl⟩
theorem dX1_readYear_7 : ml_d cX1_readYear 7 (.istore_n 1) 1 8 := ⟨by decide +kernel, rfl⟩
theorem dX1_readYear_8 : ml_d cX1_readYear 8 (.aload_n 0) 1 9 := ⟨by decide +kernel, rfl⟩
theorem dX1_readYear_9 : ml_d cX1_readYear 9 (.getfield 23) 3 12 := ⟨by decide +kernel, rfl⟩
theorem dX1_readYear_12 : ml_d cX1_readYear 12 (.bipush (-9)) 2 14 := ⟨by decide +kernel, rfl⟩
theorem dX1_readYear_14 : ml_j cX1_readYear 14 (.if_icmp .ne) 52 17 := ⟨38, by decide +kernel, by decide, rfl⟩
theorem dX1_readYear_17 : ml_d cX1_readYear 17 (.aload_n 0) 1 18 := ⟨by decide +kernel, rfl⟩
theorem dX1_readYear_18 : ml_d cX1_readYear 18 (.getfield 31) 3 21 := ⟨by decide +kernel, rfl⟩
theorem dX1_readYear_21 : ml_d cX1_readYear 21 (.aload_n 0) 1 22 := ⟨by decide +kernel, rfl⟩
theorem dX1_readYear_22 : ml_d cX1_readYear 22 (.getfield 27) 3 25 := ⟨by decide +kernel, rfl⟩
theorem dX1_readYear_25 : ml_d cX1_readYear 25 (.arraylength) 1 26 := ⟨by decide +kernel, rfl⟩
theorem dX1_readYear_26 : ml_j cX1_readYear 26 (.if_icmp .ge) 52 29 := ⟨26, by decide +kernel, by decide, rfl⟩
theorem dX1_readYear_29 : ml_d cX1_readYear 29 (.aload_n 0) 1 30 := ⟨by decide +kernel, rfl⟩
theorem dX1_readYear_30 : ml_d cX1_readYear 30 (.getfield 27) 3 33 := ⟨by decide +kernel, rfl⟩
theorem dX1_readYear_33 : ml_d cX1_readYear 33 (.aload_n 0) 1 34 := ⟨by decide +kernel, rfl⟩
theorem dX1_readYear_34 : ml_d cX1_readYear 34 (.getfield 31) 3 37 := ⟨by decide +kernel, rfl⟩
theorem dX1_readYear_37 : ml_d cX1_readYear 37 (.baload) 1 38 := ⟨by decide +kernel, rfl⟩
theorem dX1_readYear_38 : ml_d cX1_readYear 38 (.bipush 48) 2 40 := ⟨by decide +kernel, rfl⟩
theorem dX1_readYear_40 : ml_d cX1_readYear 40 (.bipush 57) 2 42 := ⟨by decide +kernel, rfl⟩
theorem dX1_readYear_42 : ml_d cX1_readYear 42 (.invokestatic 80) 3 45 := ⟨by decide +kernel, rfl⟩
theorem dX1_readYear_45 : ml_j cX1_readYear 45 (.ifCond .eq) 52 48 := ⟨7, by decide +kernel, by decide, rfl⟩
theorem dX1_readYear_48 : ml_d cX1_readYear 48 (.iconst 1) 1 49 := ⟨by decide +kernel, rfl⟩
theorem dX1_readYear_49 : ml_j cX1_readYear 49 .goto 53 52 := ⟨4, by decide +kernel, by decide, rfl⟩
theorem dX1_readYear_52 : ml_d cX1_readYear 52 (.iconst 0) 1 53 := ⟨by decide +kernel, rfl⟩
theorem dX1_readYear_53 : ml_d cX1_readYear 53 (.istore_n 2) 1 54 := ⟨by decide +kernel, rfl⟩
theorem dX1_readYear_54 : ml_d cX1_readYear 54 (.iload_n 2) 1 55 := ⟨by decide +kernel, rfl⟩
theorem dX1_readYear_55 : ml_j cX1_readYear 55 (.ifCond .eq) 73 58 := ⟨18, by decide +kernel, by decide, rfl⟩
theorem dX1_readYear_58 : ml_d cX1_readYear 58 (.bipush 10) 2 60 := ⟨by decide +kernel, rfl⟩
theorem dX1_readYear_60 : ml_d cX1_readYear 60 (.iload_n 1) 1 61 := ⟨by decide +kernel, rfl⟩
theorem dX1_readYear_61 : ml_d cX1_readYear 61 (.imul) 1 62 := ⟨by decide +kernel, rfl⟩
theorem dX1_readYear_62 : ml_d cX1_readYear 62 (.aload_n 0) 1 63 := ⟨by decide +kernel, rfl⟩
theorem dX1_readYear_63 : ml_d cX1_readYear 63 (.iconst 0) 1 64 := ⟨by decide +kernel, rfl⟩
theorem dX1_readYear_64 : ml_d cX1_readYear 64 (.bipush 9) 2 66 := ⟨by decide +kernel, rfl⟩
theorem dX1_readYear_66 : ml_d cX1_readYear 66 (.invokevirtual 64) 3 69 := ⟨by decide +kernel, rfl⟩
theorem dX1_readYear_69 : ml_d cX1_readYear 69 (.iadd) 1 70 := ⟨by decide +kernel, rfl⟩
theorem dX1_readYear_70 : ml_j cX1_readYear 70 .goto 74 73 := ⟨4, by decide +kernel, by decide, rfl⟩
theorem dX1_readYear_73 : ml_d cX1_readYear 73 (.iload_n 1) 1 74 := ⟨by decide +kernel, rfl⟩
theorem dX1_readYear_74 : ml_d cX1_readYear 74 (.ireturn) 1 75 := ⟨by decide +kernel, rfl⟩
def fX1_readYear_53 (l0 : Nat) (l1 : Int32) (t0 : Int32) (m : ml_M) : Option (Int32 × ml_M) :=
    if t0 = 0 then
    some (l1, m)
    else
    if (ml_K m l0).1 = 1 then
    ml_b2 (fX1_readFigure l0 (0 : Int32) (9 : Int32) m) fun r129 m130 =>
    some ((((10 : Int32) * l1) + r129), m130)
    else none
theorem vX1_readYear_53 {E : ml_E} (hL : ml_eL E = 3) {rv : Int32} {rm : ml_M} (hr : ∀ (pc pc' : Nat) (lv : List (Nat × ml_X)), ml_d cX1_readYear pc .ireturn 1 pc' → True → ml_V E "LostRoom$Book" cX1_readYear 4 false rm pc lv [ml_i rv]) : ∀ (l0 : Nat) (l1 : Int32) (t0 : Int32) (m : ml_M), fX1_readYear_53 l0 l1 t0 m = some (rv, rm) → ml_V E "LostRoom$Book" cX1_readYear 4 false m 53 [(0, ml_r l0), (1, ml_i l1)] [ml_i t0] := by
  intro l0 l1 t0 m h
  unfold fX1_readYear_53 at h
  exact ml_istore_n (lv' := [(2, ml_i t0), (0, ml_r l0), (1, ml_i l1)]) dX1_readYear_53 (ml_hn hL rfl) rfl <| ml_iload_n dX1_readYear_54 0 rfl <| ml_if_eq dX1_readYear_55 h (fun _ h => ml_iload_n dX1_readYear_73 2 rfl <| ml_rI (mk := ml_i) hr dX1_readYear_74 (fun _ => trivial) h) (fun _ h => ml_bipush dX1_readYear_58 kc_b10 <| ml_iload_n dX1_readYear_60 2 rfl <| ml_imul dX1_readYear_61 <| ml_aload_n dX1_readYear_62 1 rfl <| ml_iconst dX1_readYear_63 kc_i0 <| ml_bipush dX1_readYear_64 kc_b9 <| ml_ck_of h fun hc128 h => ml_b2_of h fun r129 m130 hv127 h => ml_callV dX1_readYear_66 wm_59 wb_26 hc128 (sX1_readFigure hv127) rfl (Nat.le_of_ble_eq_true rfl) (Nat.le_of_ble_eq_true rfl) rfl <| ml_iadd dX1_readYear_69 <| ml_goto dX1_readYear_70 <| ml_rI (mk := ml_i) hr dX1_readYear_74 (fun _ => trivial) h)
def fX1_readYear_52 (l0 : Nat) (l1 : Int32) (m : ml_M) : Option (Int32 × ml_M) :=
    fX1_readYear_53 l0 l1 (0 : Int32) m
theorem vX1_readYear_52 {E : ml_E} (hL : ml_eL E = 3) {rv : Int32} {rm : ml_M} (hr : ∀ (pc pc' : Nat) (lv : List (Nat × ml_X)), ml_d cX1_readYear pc .ireturn 1 pc' → True → ml_V E "LostRoom$Book" cX1_readYear 4 false rm pc lv [ml_i rv]) : ∀ (l0 : Nat) (l1 : Int32) (m : ml_M), fX1_readYear_52 l0 l1 m = some (rv, rm) → ml_V E "LostRoom$Book" cX1_readYear 4 false m 52 [(0, ml_r l0), (1, ml_i l1)] [] := by
  intro l0 l1 m h
  unfold fX1_readYear_52 at h
  exact ml_iconst dX1_readYear_52 kc_i0 <| ml_V.sub [0, 1] rfl (vX1_readYear_53 hL hr  _ _ _ _ h)
def fX1_readYear (l0 : Nat) (m : ml_M) : Option (Int32 × ml_M) :=
    if (ml_K m l0).1 = 1 then
    ml_b2 (fX1_readFigure l0 (0 : Int32) (9 : Int32) m) fun r133 m134 =>
    if (ml_K m134 l0).1 = 1 then
    if (ml_I m134 l0 4) = (-9 : Int32) then
    ml_let (ml_R m134 l0 6) fun a136 =>
    if (ml_K m134 a136).1 = 21 then
    if (Int32.ofNat (ml_K m134 a136).2) ≤ (ml_I m134 l0 7) then
    fX1_readYear_52 l0 r133 m134
    else
    ml_let (ml_R m134 l0 6) fun a138 =>
    if ml_in m134 a138 21 (ml_I m134 l0 7) then
    ml_b1 (fX10_within (ml_I m134 a138 (ml_I m134 l0 7).toNatClampNeg) (48 : Int32) (57 : Int32) m134) fun r141 =>
    if r141 = 0 then
    fX1_readYear_52 l0 r133 m134
    else
    fX1_readYear_53 l0 r133 (1 : Int32) m134
    else none
    else none
    else
    fX1_readYear_52 l0 r133 m134
    else none
    else none
theorem wX1_readYear_0 {E : ml_E} (hL : ml_eL E = 3) {rv : Int32} {rm : ml_M} (hr : ∀ (pc pc' : Nat) (lv : List (Nat × ml_X)), ml_d cX1_readYear pc .ireturn 1 pc' → True → ml_V E "LostRoom$Book" cX1_readYear 4 false rm pc lv [ml_i rv]) : ∀ (l0 : Nat) (m : ml_M), fX1_readYear l0 m = some (rv, rm) → ml_V E "LostRoom$Book" cX1_readYear 4 false m 0 [(0, ml_r l0)] [] := by
  intro l0 m h
  unfold fX1_readYear at h
  exact ml_aload_n dX1_readYear_0 0 rfl <| ml_iconst dX1_readYear_1 kc_i0 <| ml_bipush dX1_readYear_2 kc_b9 <| ml_ck_of h fun hc132 h => ml_b2_of h fun r133 m134 hv131 h => ml_callV dX1_readYear_4 wm_59 wb_26 hc132 (sX1_readFigure hv131) rfl (Nat.le_of_ble_eq_true rfl) (Nat.le_of_ble_eq_true rfl) rfl <| ml_istore_n (lv' := [(1, ml_i r133), (0, ml_r l0)]) dX1_readYear_7 (ml_hn hL rfl) rfl <| ml_aload_n dX1_readYear_8 1 rfl <| ml_ck_of h fun hc135 h => ml_getI dX1_readYear_9 wb_23 hc135 <| ml_bipush dX1_readYear_12 kc_bm9 <| ml_icmp_ne dX1_readYear_14 h (fun _ h => ml_V.sub [1, 0] rfl (vX1_readYear_52 hL hr  _ _ _ h)) (fun _ h => ml_aload_n dX1_readYear_17 1 rfl <| ml_getI dX1_readYear_18 wb_21 hc135 <| ml_aload_n dX1_readYear_21 1 rfl <| ml_getR dX1_readYear_22 wb_24 hc135 <| ml_lx (mk := ml_r) h fun a136 h => ml_ck_of h fun hc137 h => ml_alen (kd := 21) dX1_readYear_25 (by decide) hc137 <| ml_icmp_ge dX1_readYear_26 h (fun _ h => ml_V.sub [1, 0] rfl (vX1_readYear_52 hL hr  _ _ _ h)) (fun _ h => ml_aload_n dX1_readYear_29 1 rfl <| ml_getR dX1_readYear_30 wb_24 hc135 <| ml_lx (mk := ml_r) h fun a138 h => ml_aload_n dX1_readYear_33 1 rfl <| ml_getI dX1_readYear_34 wb_21 hc135 <| ml_ck_of h fun hi139 h => ml_bald dX1_readYear_37 hi139 <| ml_bipush dX1_readYear_38 kc_b48 <| ml_bipush dX1_readYear_40 kc_b57 <| ml_b1_of h fun r141 hv140 h => ml_callSN (host := "LostRoom") dX1_readYear_42 (by decide) wb_4 (sX10_within hv140) rfl (Nat.le_of_ble_eq_true rfl) (Nat.le_of_ble_eq_true rfl) rfl <| ml_if_eq dX1_readYear_45 h (fun _ h => ml_V.sub [1, 0] rfl (vX1_readYear_52 hL hr  _ _ _ h)) (fun _ h => ml_iconst dX1_readYear_48 kc_i1 <| ml_goto dX1_readYear_49 <| ml_V.sub [1, 0] rfl (vX1_readYear_53 hL hr  _ _ _ _ h))))
theorem sX1_readYear {l0 : Nat} {m : ml_M} {rv : Int32} {rm : ml_M} (h : fX1_readYear l0 m = some (rv, rm)) : ml_Sn yX1_readYear cX1_readYear 3 (some .int) 4 [ml_r l0] m (some (ml_i rv)) rm :=
  ml_Sn_of (P := True) (ini := false) (by decide +kernel) (Nat.le_of_ble_eq_true rfl) (fun h => by cases h) (fun _ => ml_RkI rv) fun E hL hr => wX1_readYear_0 hL hr _ _ h
theorem dX1_readSign_0 : ml_d cX1_readSign 0 (.aload_n 0) 1 1 := ⟨by decide +kernel, rfl⟩
theorem dX1_readSign_1 : ml_d cX1_readSign 1 (.getfield 23) 3 4 := ⟨by decide +kernel, rfl⟩
theorem dX1_readSign_4 : ml_d cX1_readSign 4 (.bipush (-9)) 2 6 := ⟨by decide +kernel, rfl⟩
theorem dX1_readSign_6 : ml_j cX1_readSign 6 (.if_icmp .eq) 10 9 := ⟨4, by decide +kernel, by decide, rfl⟩
theorem dX1_readSign_9 : ml_d cX1_readSign 9 (.return_) 1 10 := ⟨by decide +kernel, rfl⟩
theorem dX1_readSign_10 : ml_d cX1_readSign 10 (.aload_n 0) 1 11 := ⟨by decide +kernel, rfl⟩
theorem dX1_readSign_11 : ml_d cX1_readSign 11 (.getfield 31) 3 14 := ⟨by decide +kernel, rfl⟩
theorem dX1_readSign_14 : ml_d cX1_readSign 14 (.aload_n 0) 1 15 := ⟨by decide +kernel, rfl⟩
theorem dX1_readSign_15 : ml_d cX1_readSign 15 (.getfield 27) 3 18 := ⟨by decide +kernel, rfl⟩
theorem dX1_readSign_18 : ml_d cX1_readSign 18 (.arraylength) 1 19 := ⟨by decide +kernel, rfl⟩
theorem dX1_readSign_19 : ml_j cX1_readSign 19 (.if_icmp .ge) 48 22 := ⟨29, by decide +kernel, by decide, rfl⟩
theorem dX1_readSign_22 : ml_d cX1_readSign 22 (.aload_n 0) 1 23 := ⟨by decide +kernel, rfl⟩
theorem dX1_readSign_23 : ml_d cX1_readSign 23 (.getfield 27) 3 26 := ⟨by decide +kernel, rfl⟩
theorem dX1_readSign_26 : ml_d cX1_readSign 26 (.aload_n 0) 1 27 := ⟨by decide +kernel, rfl⟩
theorem dX1_readSign_27 : ml_d cX1_readSign 27 (.getfield 31) 3 30 := ⟨by decide +kernel, rfl⟩
theorem dX1_readSign_30 : ml_d cX1_readSign 30 (.baload) 1 31 := ⟨by decide +kernel, rfl⟩
theorem dX1_readSign_31 : ml_d cX1_readSign 31 (.iload_n 1) 1 32 := ⟨by decide +kernel, rfl⟩
theorem dX1_readSign_32 : ml_j cX1_readSign 32 (.if_icmp .ne) 48 35 := ⟨16, by decide +kernel, by decide, rfl⟩
theorem dX1_readSign_35 : ml_d cX1_readSign 35 (.aload_n 0) 1 36 := ⟨by decide +kernel, rfl⟩
theorem dX1_readSign_36 : ml_d cX1_readSign 36 (.dup) 1 37 := ⟨by decide +kernel, rfl⟩
theorem dX1_readSign_37 : ml_d cX1_readSign 37 (.getfield 31) 3 40 := ⟨by decide +kernel, rfl⟩
theorem dX1_readSign_40 : ml_d cX1_readSign 40 (.iconst 1) 1 41 := ⟨by decide +kernel, rfl⟩
theorem dX1_readSign_41 : ml_d cX1_readSign 41 (.iadd) 1 42 := ⟨by decide +kernel, rfl⟩
theorem dX1_readSign_42 : ml_d cX1_readSign 42 (.putfield 31) 3 45 := ⟨by decide +kernel, rfl⟩
theorem dX1_readSign_45 : ml_j cX1_readSign 45 .goto 56 48 := ⟨11, by decide +kernel, by decide, rfl⟩
theorem dX1_readSign_48 : ml_d cX1_readSign 48 (.aload_n 0) 1 49 := ⟨by decide +kernel, rfl⟩
theorem dX1_readSign_49 : ml_d cX1_readSign 49 (.aload_n 0) 1 50 := ⟨by decide +kernel, rfl⟩
theorem dX1_readSign_50 : ml_d cX1_readSign 50 (.getfield 31) 3 53 := ⟨by decide +kernel, rfl⟩
theorem dX1_readSign_53 : ml_d cX1_readSign 53 (.putfield 23) 3 56 := ⟨by decide +kernel, rfl⟩
theorem dX1_readSign_56 : ml_d cX1_readSign 56 (.return_) 1 57 := ⟨by decide +kernel, rfl⟩
def fX1_readSign_48 (l0 : Nat) (m : ml_M) : Option ml_M :=
    if (ml_K m l0).1 = 1 then
    ml_let (ml_sI m l0 4 (ml_I m l0 7)) fun m143 =>
    some m143
    else none
theorem vX1_readSign_48 {E : ml_E} (hL : ml_eL E = 2) {rm : ml_M} (hr : ∀ (pc pc' : Nat) (lv : List (Nat × ml_X)), ml_d cX1_readSign pc .return_ 1 pc' → True → ml_V E "LostRoom$Book" cX1_readSign 2 false rm pc lv []) : ∀ (l0 : Nat) (m : ml_M), fX1_readSign_48 l0 m = some rm → ml_V E "LostRoom$Book" cX1_readSign 2 false m 48 [(0, ml_r l0)] [] := by
  intro l0 m h
  unfold fX1_readSign_48 at h
  exact ml_aload_n dX1_readSign_48 0 rfl <| ml_aload_n dX1_readSign_49 0 rfl <| ml_ck_of h fun hc142 h => ml_getI dX1_readSign_50 wb_21 hc142 <| ml_putI dX1_readSign_53 wb_22 hc142 <| ml_lt (m := m) rfl h fun m143 em144 h => ml_rv hr dX1_readSign_56 trivial h
def fX1_readSign (l0 : Nat) (l1 : Int32) (m : ml_M) : Option ml_M :=
    if (ml_K m l0).1 = 1 then
    if (ml_I m l0 4) = (-9 : Int32) then
    ml_let (ml_R m l0 6) fun a146 =>
    if (ml_K m a146).1 = 21 then
    if (Int32.ofNat (ml_K m a146).2) ≤ (ml_I m l0 7) then
    fX1_readSign_48 l0 m
    else
    ml_let (ml_R m l0 6) fun a148 =>
    if ml_in m a148 21 (ml_I m l0 7) then
    if (ml_I m a148 (ml_I m l0 7).toNatClampNeg) = l1 then
    ml_let (ml_sI m l0 7 ((ml_I m l0 7) + (1 : Int32))) fun m150 =>
    some m150
    else
    fX1_readSign_48 l0 m
    else none
    else none
    else
    some m
    else none
theorem wX1_readSign_0 {E : ml_E} (hL : ml_eL E = 2) {rm : ml_M} (hr : ∀ (pc pc' : Nat) (lv : List (Nat × ml_X)), ml_d cX1_readSign pc .return_ 1 pc' → True → ml_V E "LostRoom$Book" cX1_readSign 2 false rm pc lv []) : ∀ (l0 : Nat) (l1 : Int32) (m : ml_M), fX1_readSign l0 l1 m = some rm → ml_V E "LostRoom$Book" cX1_readSign 2 false m 0 [(0, ml_r l0), (1, ml_i l1)] [] := by
  intro l0 l1 m h
  unfold fX1_readSign at h
  exact ml_aload_n dX1_readSign_0 0 rfl <| ml_ck_of h fun hc145 h => ml_getI dX1_readSign_1 wb_23 hc145 <| ml_bipush dX1_readSign_4 kc_bm9 <| ml_icmp_eq dX1_readSign_6 h (fun _ h => ml_aload_n dX1_readSign_10 0 rfl <| ml_getI dX1_readSign_11 wb_21 hc145 <| ml_aload_n dX1_readSign_14 0 rfl <| ml_getR dX1_readSign_15 wb_24 hc145 <| ml_lx (mk := ml_r) h fun a146 h => ml_ck_of h fun hc147 h => ml_alen (kd := 21) dX1_readSign_18 (by decide) hc147 <| ml_icmp_ge dX1_readSign_19 h (fun _ h => ml_V.sub [0] rfl (vX1_readSign_48 hL hr  _ _ h)) (fun _ h => ml_aload_n dX1_readSign_22 0 rfl <| ml_getR dX1_readSign_23 wb_24 hc145 <| ml_lx (mk := ml_r) h fun a148 h => ml_aload_n dX1_readSign_26 0 rfl <| ml_getI dX1_readSign_27 wb_21 hc145 <| ml_ck_of h fun hi149 h => ml_bald dX1_readSign_30 hi149 <| ml_iload_n dX1_readSign_31 1 rfl <| ml_icmp_ne dX1_readSign_32 h (fun _ h => ml_V.sub [0] rfl (vX1_readSign_48 hL hr  _ _ h)) (fun _ h => ml_aload_n dX1_readSign_35 0 rfl <| ml_dup dX1_readSign_36 rfl <| ml_getI dX1_readSign_37 wb_21 hc145 <| ml_iconst dX1_readSign_40 kc_i1 <| ml_iadd dX1_readSign_41 <| ml_putI dX1_readSign_42 wb_25 hc145 <| ml_lt (m := m) rfl h fun m150 em151 h => ml_goto dX1_readSign_45 <| ml_rv hr dX1_readSign_56 trivial h))) (fun _ h => ml_rv hr dX1_readSign_9 trivial h)
theorem sX1_readSign {l0 : Nat} {l1 : Int32} {m : ml_M} {rm : ml_M} (h : fX1_readSign l0 l1 m = some rm) : ml_Sn yX1_readSign cX1_readSign 2 none 2 [ml_r l0, ml_i l1] m none rm :=
  ml_Sn_of (P := True) (ini := false) (by decide +kernel) (Nat.le_of_ble_eq_true rfl) (fun h => by cases h) (fun _ => ml_RkV) fun E hL hr => wX1_readSign_0 hL hr _ _ _ h
theorem dX6_init_0 : ml_d cX6_init 0 (.aload_n 0) 1 1 := ⟨by decide +kernel, rfl⟩
theorem dX6_init_1 : ml_d cX6_init 1 (.invokespecial 1) 3 4 := ⟨by decide +kernel, rfl⟩
theorem dX6_init_4 : ml_d cX6_init 4 (.aload_n 0) 1 5 := ⟨by decide +kernel, rfl⟩
theorem dX6_init_5 : ml_d cX6_init 5 (.iload_n 1) 1 6 := ⟨by decide +kernel, rfl⟩
theorem dX6_init_6 : ml_d cX6_init 6 (.putfield 7) 3 9 := ⟨by decide +kernel, rfl⟩
theorem dX6_init_9 : ml_d cX6_init 9 (.aload_n 0) 1 10 := ⟨by decide +kernel, rfl⟩
theorem dX6_init_10 : ml_d cX6_init 10 (.iload_n 2) 1 11 := ⟨by decide +kernel, rfl⟩
theorem dX6_init_11 : ml_d cX6_init 11 (.putfield 13) 3 14 := ⟨by decide +kernel, rfl⟩
theorem dX6_init_14 : ml_d cX6_init 14 (.aload_n 0) 1 15 := ⟨by decide +kernel, rfl⟩
theorem dX6_init_15 : ml_d cX6_init 15 (.iload_n 3) 1 16 := ⟨by decide +kernel, rfl⟩
theorem dX6_init_16 : ml_d cX6_init 16 (.putfield 16) 3 19 := ⟨by decide +kernel, rfl⟩
theorem dX6_init_19 : ml_d cX6_init 19 (.aload_n 0) 1 20 := ⟨by decide +kernel, rfl⟩
theorem dX6_init_20 : ml_d cX6_init 20 (.iload 4) 2 22 := ⟨by decide +kernel, rfl⟩
theorem dX6_init_22 : ml_d cX6_init 22 (.putfield 19) 3 25 := ⟨by decide +kernel, rfl⟩
theorem dX6_init_25 : ml_d cX6_init 25 (.aload_n 0) 1 26 := ⟨by decide +kernel, rfl⟩
theorem dX6_init_26 : ml_d cX6_init 26 (.iload 5) 2 28 := ⟨by decide +kernel, rfl⟩
theorem dX6_init_28 : ml_d cX6_init 28 (.putfield 22) 3 31 := ⟨by decide +kernel, rfl⟩
theorem dX6_init_31 : ml_d cX6_init 31 (.return_) 1 32 := ⟨by decide +kernel, rfl⟩
def fX6_init (l0 : Nat) (l1 : Int32) (l2 : Int32) (l3 : Int32) (l4 : Int32) (l5 : Int32) (m : ml_M) : Option ml_M :=
    if l0 ≠ 0 then
    if (ml_K m l0).1 = 6 then
    ml_let (ml_sI m l0 0 l1) fun m154 =>
    ml_let (ml_sI m154 l0 1 l2) fun m156 =>
    ml_let (ml_sI m156 l0 2 l3) fun m158 =>
    ml_let (ml_sI m158 l0 3 l4) fun m160 =>
    ml_let (ml_sI m160 l0 4 l5) fun m162 =>
    some m162
    else none
    else none
theorem wX6_init_0 {E : ml_E} (hL : ml_eL E = 6) {rm : ml_M} (hr : ∀ (pc pc' : Nat) (lv : List (Nat × ml_X)), ml_d cX6_init pc .return_ 1 pc' → True → ml_V E "LostRoom$Lodger" cX6_init 2 true rm pc lv []) : ∀ (l0 : Nat) (l1 : Int32) (l2 : Int32) (l3 : Int32) (l4 : Int32) (l5 : Int32) (m : ml_M), fX6_init l0 l1 l2 l3 l4 l5 m = some rm → ml_V E "LostRoom$Lodger" cX6_init 2 true m 0 [(0, ml_r l0), (1, ml_i l1), (2, ml_i l2), (3, ml_i l3), (4, ml_i l4), (5, ml_i l5)] [] := by
  intro l0 l1 l2 l3 l4 l5 m h
  unfold fX6_init at h
  exact ml_aload_n dX6_init_0 0 rfl <| ml_ck_of h fun hz152 h => ml_objInit dX6_init_1 wb_27 (Nat.le_of_ble_eq_true rfl) (Nat.le_of_ble_eq_true rfl) hz152 <| ml_aload_n dX6_init_4 0 rfl <| ml_iload_n dX6_init_5 1 rfl <| ml_ck_of h fun hc153 h => ml_putI dX6_init_6 wb_28 hc153 <| ml_lt (m := m) rfl h fun m154 em155 h => ml_aload_n dX6_init_9 0 rfl <| ml_iload_n dX6_init_10 2 rfl <| ml_putI dX6_init_11 wb_29 (ml_kk em155 hc153) <| ml_lt (m := m154) rfl h fun m156 em157 h => ml_aload_n dX6_init_14 0 rfl <| ml_iload_n dX6_init_15 3 rfl <| ml_putI dX6_init_16 wb_30 (ml_kk em157 (ml_kk em155 hc153)) <| ml_lt (m := m156) rfl h fun m158 em159 h => ml_aload_n dX6_init_19 0 rfl <| ml_iload dX6_init_20 4 rfl <| ml_putI dX6_init_22 wb_31 (ml_kk em159 (ml_kk em157 (ml_kk em155 hc153))) <| ml_lt (m := m158) rfl h fun m160 em161 h => ml_aload_n dX6_init_25 0 rfl <| ml_iload dX6_init_26 5 rfl <| ml_putI dX6_init_28 wb_32 (ml_kk em161 (ml_kk em159 (ml_kk em157 (ml_kk em155 hc153)))) <| ml_lt (m := m160) rfl h fun m162 em163 h => ml_rv hr dX6_init_31 trivial h
theorem sX6_init {l0 : Nat} {l1 : Int32} {l2 : Int32} {l3 : Int32} {l4 : Int32} {l5 : Int32} {m : ml_M} {rm : ml_M} (h : fX6_init l0 l1 l2 l3 l4 l5 m = some rm) : ml_Sn yX6_init cX6_init 6 none 2 [ml_r l0, ml_i l1, ml_i l2, ml_i l3, ml_i l4, ml_i l5] m none rm :=
  ml_Sn_of (P := True) (ini := true) (by decide +kernel) (Nat.le_of_ble_eq_true rfl) (fun _ => rfl) (fun _ => ml_RkV) fun E hL hr => wX6_init_0 hL hr _ _ _ _ _ _ _ h
theorem dX1_readLodger_0 : ml_d cX1_readLodger 0 (.aload_n 0) 1 1 := ⟨by decide +kernel, rfl⟩
theorem dX1_readLodger_1 : ml_d cX1_readLodger 1 (.dup) 1 2 := ⟨by decide +kernel, rfl⟩
theorem dX1_readLodger_2 : ml_d cX1_readLodger 2 (.getfield 31) 3 5 := ⟨by decide +kernel, rfl⟩
theorem dX1_readLodger_5 : ml_d cX1_readLodger 5 (.iconst 1) 1 6 := ⟨by decide +kernel, rfl⟩
theorem dX1_readLodger_6 : ml_d cX1_readLodger 6 (.iadd) 1 7 := ⟨by decide +kernel, rfl⟩
theorem dX1_readLodger_7 : ml_d cX1_readLodger 7 (.putfield 31) 3 10 := ⟨by decide +kernel, rfl⟩
theorem dX1_readLodger_10 : ml_d cX1_readLodger 10 (.aload_n 0) 1 11 := ⟨by decide +kernel, rfl⟩
theorem dX1_readLodger_11 : ml_d cX1_readLodger 11 (.invokevirtual 56) 3 14 := ⟨by decide +kernel, rfl⟩
theorem dX1_readLodger_14 : ml_d cX1_readLodger 14 (.istore_n 1) 1 15 := ⟨by decide +kernel, rfl⟩
theorem dX1_readLodger_15 : ml_d cX1_readLodger 15 (.aload_n 0) 1 16 := ⟨by decide +kernel, rfl⟩
theorem dX1_readLodger_16 : ml_d cX1_readLodger 16 (.bipush 45) 2 18 := ⟨by decide +kernel, rfl⟩
theorem dX1_readLodger_18 : ml_d cX1_readLodger 18 (.invokevirtual 60) 3 21 := ⟨by decide +kernel, rfl⟩
theorem dX1_readLodger_21 : ml_d cX1_readLodger 21 (.aload_n 0) 1 22 := ⟨by decide +kernel, rfl⟩
theorem dX1_readLodger_22 : ml_d cX1_readLodger 22 (.invokevirtual 56) 3 25 := ⟨by decide +kernel, rfl⟩
theorem dX1_readLodger_25 : ml_d cX1_readLodger 25 (.istore_n 2) 1 26 := ⟨by decide +kernel, rfl⟩
theorem dX1_readLodger_26 : ml_d cX1_readLodger 26 (.aload_n 0) 1 27 := ⟨by decide +kernel, rfl⟩
theorem dX1_readLodger_27 : ml_d cX1_readLodger 27 (.getfield 23) 3 30 := ⟨by decide +kernel, rfl⟩
theorem dX1_readLodger_30 : ml_d cX1_readLodger 30 (.bipush (-9)) 2 32 := ⟨by decide +kernel, rfl⟩
theorem dX1_readLodger_32 : ml_j cX1_readLodger 32 (.if_icmp .ne) 48 35 := ⟨16, by decide +kernel, by decide, rfl⟩
theorem dX1_readLodger_35 : ml_d cX1_readLodger 35 (.iload_n 2) 1 36 := ⟨by decide +kernel, rfl⟩
theorem dX1_readLodger_36 : ml_d cX1_readLodger 36 (.iload_n 1) 1 37 := ⟨by decide +kernel, rfl⟩
theorem dX1_readLodger_37 : ml_j cX1_readLodger 37 (.if_icmp .ge) 48 40 := ⟨11, by decide +kernel, by decide, rfl⟩
theorem dX1_readLodger_40 : ml_d cX1_readLodger 40 (.aload_n 0) 1 41 := ⟨by decide +kernel, rfl⟩
theorem dX1_readLodger_41 : ml_d cX1_readLodger 41 (.aload_n 0) 1 42 := ⟨by decide +kernel, rfl⟩
theorem dX1_readLodger_42 : ml_d cX1_readLodger 42 (.getfield 31) 3 45 := ⟨by decide +kernel, rfl⟩
theorem dX1_readLodger_45 : ml_d cX1_readLodger 45 (.putfield 23) 3 48 := ⟨by decide +kernel, rfl⟩
theorem dX1_readLodger_48 : ml_d cX1_readLodger 48 (.aload_n 0) 1 49 := ⟨by decide +kernel, rfl⟩
theorem dX1_readLodger_49 : ml_d cX1_readLodger 49 (.bipush 115) 2 51 := ⟨by decide +kernel, rfl⟩
theorem dX1_readLodger_51 : ml_d cX1_readLodger 51 (.invokevirtual 60) 3 54 := ⟨by decide +kernel, rfl⟩
theorem dX1_readLodger_54 : ml_d cX1_readLodger 54 (.aload_n 0) 1 55 := ⟨by decide +kernel, rfl⟩
theorem dX1_readLodger_55 : ml_d cX1_readLodger 55 (.iconst 1) 1 56 := ⟨by decide +kernel, rfl⟩
theorem dX1_readLodger_56 : ml_d cX1_readLodger 56 (.bipush 9) 2 58 := ⟨by decide +kernel, rfl⟩
theorem dX1_readLodger_58 : ml_d cX1_readLodger 58 (.invokevirtual 64) 3 61 := ⟨by decide +kernel, rfl⟩
theorem dX1_readLodger_61 : ml_d cX1_readLodger 61 (.istore_n 3) 1 62 := ⟨by decide +kernel, rfl⟩
theorem dX1_readLodger_62 : ml_d cX1_readLodger 62 (.aload_n 0) 1 63 := ⟨by decide +kernel, rfl⟩
theorem dX1_readLodger_63 : ml_d cX1_readLodger 63 (.bipush 116) 2 65 := ⟨by decide +kernel, rfl⟩
theorem dX1_readLodger_65 : ml_d cX1_readLodger 65 (.invokevirtual 60) 3 68 := ⟨by decide +kernel, rfl⟩
theorem dX1_readLodger_68 : ml_d cX1_readLodger 68 (.aload_n 0) 1 69 := ⟨by decide +kernel, rfl⟩
theorem dX1_readLodger_69 : ml_d cX1_readLodger 69 (.iconst 1) 1 70 := ⟨by decide +kernel, rfl⟩
theorem dX1_readLodger_70 : ml_d cX1_readLodger 70 (.bipush 9) 2 72 := ⟨by decide +kernel, rfl⟩
theorem dX1_readLodger_72 : ml_d cX1_readLodger 72 (.invokevirtual 64) 3 75 := ⟨by decide +kernel, rfl⟩
theorem dX1_readLodger_75 : ml_d cX1_readLodger 75 (.istore 4) 2 77 := ⟨by decide +kernel, rfl⟩
theorem dX1_readLodger_77 : ml_d cX1_readLodger 77 (.aload_n 0) 1 78 := ⟨by decide +kernel, rfl⟩
theorem dX1_readLodger_78 : ml_d cX1_readLodger 78 (.bipush 104) 2 80 := ⟨by decide +kernel, rfl⟩
theorem dX1_readLodger_80 : ml_d cX1_readLodger 80 (.invokevirtual 60) 3 83 := ⟨by decide +kernel, rfl⟩
theorem dX1_readLodger_83 : ml_d cX1_readLodger 83 (.aload_n 0) 1 84 := ⟨by decide +kernel, rfl⟩
theorem dX1_readLodger_84 : ml_d cX1_readLodger 84 (.iconst 1) 1 85 := ⟨by decide +kernel, rfl⟩
theorem dX1_readLodger_85 : ml_d cX1_readLodger 85 (.bipush 9) 2 87 := ⟨by decide +kernel, rfl⟩
theorem dX1_readLodger_87 : ml_d cX1_readLodger 87 (.invokevirtual 64) 3 90 := ⟨by decide +kernel, rfl⟩
theorem dX1_readLodger_90 : ml_d cX1_readLodger 90 (.istore 5) 2 92 := ⟨by decide +kernel, rfl⟩
theorem dX1_readLodger_92 : ml_d cX1_readLodger 92 (.aload_n 0) 1 93 := ⟨by decide +kernel, rfl⟩
theorem dX1_readLodger_93 : ml_d cX1_readLodger 93 (.getfield 23) 3 96 := ⟨by decide +kernel, rfl⟩
theorem dX1_readLodger_96 : ml_d cX1_readLodger 96 (.bipush (-9)) 2 98 := ⟨by decide +kernel, rfl⟩
theorem dX1_readLodger_98 : ml_j cX1_readLodger 98 (.if_icmp .eq) 102 101 := ⟨4, by decide +kernel, by decide, rfl⟩
theorem dX1_readLodger_101 : ml_d cX1_readLodger 101 (.return_) 1 102 := ⟨by decide +kernel, rfl⟩
theorem dX1_readLodger_102 : ml_d cX1_readLodger 102 (.aload_n 0) 1 103 := ⟨by decide +kernel, rfl⟩
theorem dX1_readLodger_103 : ml_d cX1_readLodger 103 (.getfield 11) 3 106 := ⟨by decide +kernel, rfl⟩
theorem dX1_readLodger_106 : ml_d cX1_readLodger 106 (.aload_n 0) 1 107 := ⟨by decide +kernel, rfl⟩
theorem dX1_readLodger_107 : ml_d cX1_readLodger 107 (.getfield 38) 3 110 := ⟨by decide +kernel, rfl⟩
theorem dX1_readLodger_110 : ml_d cX1_readLodger 110 (.new 9) 3 113 := ⟨by decide +kernel, rfl⟩
theorem dX1_readLodger_113 : ml_d cX1_readLodger 113 (.dup) 1 114 := ⟨by decide +kernel, rfl⟩
theorem dX1_readLodger_114 : ml_d cX1_readLodger 114 (.iload_n 1) 1 115 := ⟨by decide +kernel, rfl⟩
theorem dX1_readLodger_115 : ml_d cX1_readLodger 115 (.iload_n 2) 1 116 := ⟨by decide +kernel, rfl⟩
theorem dX1_readLodger_116 : ml_d cX1_readLodger 116 (.iload_n 3) 1 117 := ⟨by decide +kernel, rfl⟩
theorem dX1_readLodger_117 : ml_d cX1_readLodger 117 (.iload 4) 2 119 := ⟨by decide +kernel, rfl⟩
theorem dX1_readLodger_119 : ml_d cX1_readLodger 119 (.iload 5) 2 121 := ⟨by decide +kernel, rfl⟩
theorem dX1_readLodger_121 : ml_d cX1_readLodger 121 (.invokespecial 68) 3 124 := ⟨by decide +kernel, rfl⟩
theorem dX1_readLodger_124 : ml_d cX1_readLodger 124 (.aastore) 1 125 := ⟨by decide +kernel, rfl⟩
theorem dX1_readLodger_125 : ml_d cX1_readLodger 125 (.aload_n 0) 1 126 := ⟨by decide +kernel, rfl⟩
theorem dX1_readLodger_126 : ml_d cX1_readLodger 126 (.dup) 1 127 := ⟨by decide +kernel, rfl⟩
theorem dX1_readLodger_127 : ml_d cX1_readLodger 127 (.getfield 38) 3 130 := ⟨by decide +kernel, rfl⟩
theorem dX1_readLodger_130 : ml_d cX1_readLodger 130 (.iconst 1) 1 131 := ⟨by decide +kernel, rfl⟩
theorem dX1_readLodger_131 : ml_d cX1_readLodger 131 (.iadd) 1 132 := ⟨by decide +kernel, rfl⟩
theorem dX1_readLodger_132 : ml_d cX1_readLodger 132 (.putfield 38) 3 135 := ⟨by decide +kernel, rfl⟩
theorem dX1_readLodger_135 : ml_d cX1_readLodger 135 (.return_) 1 136 := ⟨by decide +kernel, rfl⟩
def fX1_readLodger_48 (l0 : Nat) (l1 : Int32) (l2 : Int32) (m : ml_M) : Option ml_M :=
    if (ml_K m l0).1 = 1 then
    ml_b1 (fX1_readSign l0 (115 : Int32) m) fun m166 =>
    if (ml_K m166 l0).1 = 1 then
    ml_b2 (fX1_readFigure l0 (1 : Int32) (9 : Int32) m166) fun r169 m170 =>
    if (ml_K m170 l0).1 = 1 then
    ml_b1 (fX1_readSign l0 (116 : Int32) m170) fun m173 =>
    if (ml_K m173 l0).1 = 1 then
    ml_b2 (fX1_readFigure l0 (1 : Int32) (9 : Int32) m173) fun r176 m177 =>
    if (ml_K m177 l0).1 = 1 then
    ml_b1 (fX1_readSign l0 (104 : Int32) m177) fun m180 =>
    if (ml_K m180 l0).1 = 1 then
    ml_b2 (fX1_readFigure l0 (1 : Int32) (9 : Int32) m180) fun r183 m184 =>
    if (ml_K m184 l0).1 = 1 then
    if (ml_I m184 l0 4) = (-9 : Int32) then
    ml_let (ml_R m184 l0 0) fun a186 =>
    ml_let (ml_n m184 + 1) fun a187 =>
    ml_let (ml_al m184 6 0 5) fun m188 =>
    ml_b1 (fX6_init a187 l1 l2 r169 r176 r183 m188) fun m192 =>
    if (ml_K m192 a187).1 = 6 then
    if ml_in m192 a186 28 (ml_I m184 l0 2) then
    ml_let (ml_sR m192 a186 (ml_I m184 l0 2).toNatClampNeg a187) fun m195 =>
    if (ml_K m195 l0).1 = 1 then
    ml_let (ml_sI m195 l0 2 ((ml_I m195 l0 2) + (1 : Int32))) fun m198 =>
    some m198
    else none
    else none
    else none
    else
    some m184
    else none
    else none
    else none
    else none
    else none
    else none
    else none
theorem vX1_readLodger_48 {E : ml_E} (hL : ml_eL E = 6) {rm : ml_M} (hr : ∀ (pc pc' : Nat) (lv : List (Nat × ml_X)), ml_d cX1_readLodger pc .return_ 1 pc' → True → ml_V E "LostRoom$Book" cX1_readLodger 5 false rm pc lv []) : ∀ (l0 : Nat) (l1 : Int32) (l2 : Int32) (m : ml_M), fX1_readLodger_48 l0 l1 l2 m = some rm → ml_V E "LostRoom$Book" cX1_readLodger 5 false m 48 [(0, ml_r l0), (1, ml_i l1), (2, ml_i l2)] [] := by
  intro l0 l1 l2 m h
  unfold fX1_readLodger_48 at h
  exact ml_aload_n dX1_readLodger_48 0 rfl <| ml_bipush dX1_readLodger_49 kc_b115 <| ml_ck_of h fun hc165 h => ml_b1_of h fun m166 hv164 h => ml_callV dX1_readLodger_51 wm_69 wb_33 hc165 (sX1_readSign hv164) rfl (Nat.le_of_ble_eq_true rfl) (Nat.le_of_ble_eq_true rfl) rfl <| ml_aload_n dX1_readLodger_54 0 rfl <| ml_iconst dX1_readLodger_55 kc_i1 <| ml_bipush dX1_readLodger_56 kc_b9 <| ml_ck_of h fun hc168 h => ml_b2_of h fun r169 m170 hv167 h => ml_callV dX1_readLodger_58 wm_59 wb_26 hc168 (sX1_readFigure hv167) rfl (Nat.le_of_ble_eq_true rfl) (Nat.le_of_ble_eq_true rfl) rfl <| ml_istore_n (lv' := [(3, ml_i r169), (0, ml_r l0), (1, ml_i l1), (2, ml_i l2)]) dX1_readLodger_61 (ml_hn hL rfl) rfl <| ml_aload_n dX1_readLodger_62 1 rfl <| ml_bipush dX1_readLodger_63 kc_b116 <| ml_ck_of h fun hc172 h => ml_b1_of h fun m173 hv171 h => ml_callV dX1_readLodger_65 wm_69 wb_33 hc172 (sX1_readSign hv171) rfl (Nat.le_of_ble_eq_true rfl) (Nat.le_of_ble_eq_true rfl) rfl <| ml_aload_n dX1_readLodger_68 1 rfl <| ml_iconst dX1_readLodger_69 kc_i1 <| ml_bipush dX1_readLodger_70 kc_b9 <| ml_ck_of h fun hc175 h => ml_b2_of h fun r176 m177 hv174 h => ml_callV dX1_readLodger_72 wm_59 wb_26 hc175 (sX1_readFigure hv174) rfl (Nat.le_of_ble_eq_true rfl) (Nat.le_of_ble_eq_true rfl) rfl <| ml_istore (lv' := [(4, ml_i r176), (3, ml_i r169), (0, ml_r l0), (1, ml_i l1), (2, ml_i l2)]) dX1_readLodger_75 (ml_hn hL rfl) rfl <| ml_aload_n dX1_readLodger_77 2 rfl <| ml_bipush dX1_readLodger_78 kc_b104 <| ml_ck_of h fun hc179 h => ml_b1_of h fun m180 hv178 h => ml_callV dX1_readLodger_80 wm_69 wb_33 hc179 (sX1_readSign hv178) rfl (Nat.le_of_ble_eq_true rfl) (Nat.le_of_ble_eq_true rfl) rfl <| ml_aload_n dX1_readLodger_83 2 rfl <| ml_iconst dX1_readLodger_84 kc_i1 <| ml_bipush dX1_readLodger_85 kc_b9 <| ml_ck_of h fun hc182 h => ml_b2_of h fun r183 m184 hv181 h => ml_callV dX1_readLodger_87 wm_59 wb_26 hc182 (sX1_readFigure hv181) rfl (Nat.le_of_ble_eq_true rfl) (Nat.le_of_ble_eq_true rfl) rfl <| ml_istore (lv' := [(5, ml_i r183), (4, ml_i r176), (3, ml_i r169), (0, ml_r l0), (1, ml_i l1), (2, ml_i l2)]) dX1_readLodger_90 (ml_hn hL rfl) rfl <| ml_aload_n dX1_readLodger_92 3 rfl <| ml_ck_of h fun hc185 h => ml_getI dX1_readLodger_93 wb_23 hc185 <| ml_bipush dX1_readLodger_96 kc_bm9 <| ml_icmp_eq dX1_readLodger_98 h (fun _ h => ml_aload_n dX1_readLodger_102 3 rfl <| ml_getR dX1_readLodger_103 wb_34 hc185 <| ml_lx (mk := ml_r) h fun a186 h => ml_aload_n dX1_readLodger_106 3 rfl <| ml_getI dX1_readLodger_107 wb_35 hc185 <| ml_newOs dX1_readLodger_110 wb_36 h fun a187 m188 hn189 hc190 h => ml_dup dX1_readLodger_113 rfl <| ml_iload_n dX1_readLodger_114 4 rfl <| ml_iload_n dX1_readLodger_115 5 rfl <| ml_iload_n dX1_readLodger_116 2 rfl <| ml_iload dX1_readLodger_117 1 rfl <| ml_iload dX1_readLodger_119 0 rfl <| ml_b1_of h fun m192 hv191 h => ml_callI dX1_readLodger_121 wm_75 wb_37 hn189 (sX6_init hv191) rfl (Nat.le_of_ble_eq_true rfl) (Nat.le_of_ble_eq_true rfl) rfl <| ml_ck_of h fun hc194 h => ml_ck_of h fun hi193 h => ml_aast (kd := 28) (ci := 6) dX1_readLodger_124 (by decide) hi193 hc194 <| ml_lt (m := m192) rfl h fun m195 em196 h => ml_aload_n dX1_readLodger_125 3 rfl <| ml_dup dX1_readLodger_126 rfl <| ml_ck_of h fun hc197 h => ml_getI dX1_readLodger_127 wb_35 hc197 <| ml_iconst dX1_readLodger_130 kc_i1 <| ml_iadd dX1_readLodger_131 <| ml_putI dX1_readLodger_132 wb_38 hc197 <| ml_lt (m := m195) rfl h fun m198 em199 h => ml_rv hr dX1_readLodger_135 trivial h) (fun _ h => ml_rv hr dX1_readLodger_101 trivial h)
def fX1_readLodger (l0 : Nat) (m : ml_M) : Option ml_M :=
    if (ml_K m l0).1 = 1 then
    ml_let (ml_sI m l0 7 ((ml_I m l0 7) + (1 : Int32))) fun m201 =>
    ml_b2 (fX1_readYear l0 m201) fun r204 m205 =>
    if (ml_K m205 l0).1 = 1 then
    ml_b1 (fX1_readSign l0 (45 : Int32) m205) fun m208 =>
    if (ml_K m208 l0).1 = 1 then
    ml_b2 (fX1_readYear l0 m208) fun r211 m212 =>
    if (ml_K m212 l0).1 = 1 then
    if (ml_I m212 l0 4) = (-9 : Int32) then
    if r204 ≤ r211 then
    fX1_readLodger_48 l0 r204 r211 m212
    else
    ml_let (ml_sI m212 l0 4 (ml_I m212 l0 7)) fun m214 =>
    fX1_readLodger_48 l0 r204 r211 m214
    else
    fX1_readLodger_48 l0 r204 r211 m212
    else none
    else none
    else none
    else none
theorem wX1_readLodger_0 {E : ml_E} (hL : ml_eL E = 6) {rm : ml_M} (hr : ∀ (pc pc' : Nat) (lv : List (Nat × ml_X)), ml_d cX1_readLodger pc .return_ 1 pc' → True → ml_V E "LostRoom$Book" cX1_readLodger 5 false rm pc lv []) : ∀ (l0 : Nat) (m : ml_M), fX1_readLodger l0 m = some rm → ml_V E "LostRoom$Book" cX1_readLodger 5 false m 0 [(0, ml_r l0)] [] := by
  intro l0 m h
  unfold fX1_readLodger at h
  exact ml_aload_n dX1_readLodger_0 0 rfl <| ml_dup dX1_readLodger_1 rfl <| ml_ck_of h fun hc200 h => ml_getI dX1_readLodger_2 wb_21 hc200 <| ml_iconst dX1_readLodger_5 kc_i1 <| ml_iadd dX1_readLodger_6 <| ml_putI dX1_readLodger_7 wb_25 hc200 <| ml_lt (m := m) rfl h fun m201 em202 h => ml_aload_n dX1_readLodger_10 0 rfl <| ml_b2_of h fun r204 m205 hv203 h => ml_callV dX1_readLodger_11 wm_79 wb_39 (ml_kk em202 hc200) (sX1_readYear hv203) rfl (Nat.le_of_ble_eq_true rfl) (Nat.le_of_ble_eq_true rfl) rfl <| ml_istore_n (lv' := [(1, ml_i r204), (0, ml_r l0)]) dX1_readLodger_14 (ml_hn hL rfl) rfl <| ml_aload_n dX1_readLodger_15 1 rfl <| ml_bipush dX1_readLodger_16 kc_b45 <| ml_ck_of h fun hc207 h => ml_b1_of h fun m208 hv206 h => ml_callV dX1_readLodger_18 wm_69 wb_33 hc207 (sX1_readSign hv206) rfl (Nat.le_of_ble_eq_true rfl) (Nat.le_of_ble_eq_true rfl) rfl <| ml_aload_n dX1_readLodger_21 1 rfl <| ml_ck_of h fun hc210 h => ml_b2_of h fun r211 m212 hv209 h => ml_callV dX1_readLodger_22 wm_79 wb_39 hc210 (sX1_readYear hv209) rfl (Nat.le_of_ble_eq_true rfl) (Nat.le_of_ble_eq_true rfl) rfl <| ml_istore_n (lv' := [(2, ml_i r211), (1, ml_i r204), (0, ml_r l0)]) dX1_readLodger_25 (ml_hn hL rfl) rfl <| ml_aload_n dX1_readLodger_26 2 rfl <| ml_ck_of h fun hc213 h => ml_getI dX1_readLodger_27 wb_23 hc213 <| ml_bipush dX1_readLodger_30 kc_bm9 <| ml_icmp_ne dX1_readLodger_32 h (fun _ h => ml_V.sub [2, 1, 0] rfl (vX1_readLodger_48 hL hr  _ _ _ _ h)) (fun _ h => ml_iload_n dX1_readLodger_35 0 rfl <| ml_iload_n dX1_readLodger_36 1 rfl <| ml_icmp_ge dX1_readLodger_37 h (fun _ h => ml_V.sub [2, 1, 0] rfl (vX1_readLodger_48 hL hr  _ _ _ _ h)) (fun _ h => ml_aload_n dX1_readLodger_40 2 rfl <| ml_aload_n dX1_readLodger_41 2 rfl <| ml_getI dX1_readLodger_42 wb_21 hc213 <| ml_putI dX1_readLodger_45 wb_22 hc213 <| ml_lt (m := m212) rfl h fun m214 em215 h => ml_V.sub [2, 1, 0] rfl (vX1_readLodger_48 hL hr  _ _ _ _ h)))
theorem sX1_readLodger {l0 : Nat} {m : ml_M} {rm : ml_M} (h : fX1_readLodger l0 m = some rm) : ml_Sn yX1_readLodger cX1_readLodger 6 none 5 [ml_r l0] m none rm :=
  ml_Sn_of (P := True) (ini := false) (by decide +kernel) (Nat.le_of_ble_eq_true rfl) (fun h => by cases h) (fun _ => ml_RkV) fun E hL hr => wX1_readLodger_0 hL hr _ _ h
theorem dX9_init_0 : ml_d cX9_init 0 (.aload_n 0) 1 1 := ⟨by decide +kernel, rfl⟩
theorem dX9_init_1 : ml_d cX9_init 1 (.invokespecial 1) 3 4 := ⟨by decide +kernel, rfl⟩
theorem dX9_init_4 : ml_d cX9_init 4 (.aload_n 0) 1 5 := ⟨by decide +kernel, rfl⟩
theorem dX9_init_5 : ml_d cX9_init 5 (.iload_n 1) 1 6 := ⟨by decide +kernel, rfl⟩
theorem dX9_init_6 : ml_d cX9_init 6 (.putfield 7) 3 9 := ⟨by decide +kernel, rfl⟩
theorem dX9_init_9 : ml_d cX9_init 9 (.aload_n 0) 1 10 := ⟨by decide +kernel, rfl⟩
theorem dX9_init_10 : ml_d cX9_init 10 (.iload_n 2) 1 11 := ⟨by decide +kernel, rfl⟩
theorem dX9_init_11 : ml_d cX9_init 11 (.putfield 13) 3 14 := ⟨by decide +kernel, rfl⟩
theorem dX9_init_14 : ml_d cX9_init 14 (.return_) 1 15 := ⟨by decide +kernel, rfl⟩
def fX9_init (l0 : Nat) (l1 : Int32) (l2 : Int32) (m : ml_M) : Option ml_M :=
    if l0 ≠ 0 then
    if (ml_K m l0).1 = 9 then
    ml_let (ml_sI m l0 0 l1) fun m218 =>
    ml_let (ml_sI m218 l0 1 l2) fun m220 =>
    some m220
    else none
    else none
theorem wX9_init_0 {E : ml_E} (hL : ml_eL E = 3) {rm : ml_M} (hr : ∀ (pc pc' : Nat) (lv : List (Nat × ml_X)), ml_d cX9_init pc .return_ 1 pc' → True → ml_V E "LostRoom$Trunk" cX9_init 2 true rm pc lv []) : ∀ (l0 : Nat) (l1 : Int32) (l2 : Int32) (m : ml_M), fX9_init l0 l1 l2 m = some rm → ml_V E "LostRoom$Trunk" cX9_init 2 true m 0 [(0, ml_r l0), (1, ml_i l1), (2, ml_i l2)] [] := by
  intro l0 l1 l2 m h
  unfold fX9_init at h
  exact ml_aload_n dX9_init_0 0 rfl <| ml_ck_of h fun hz216 h => ml_objInit dX9_init_1 wb_40 (Nat.le_of_ble_eq_true rfl) (Nat.le_of_ble_eq_true rfl) hz216 <| ml_aload_n dX9_init_4 0 rfl <| ml_iload_n dX9_init_5 1 rfl <| ml_ck_of h fun hc217 h => ml_putI dX9_init_6 wb_41 hc217 <| ml_lt (m := m) rfl h fun m218 em219 h => ml_aload_n dX9_init_9 0 rfl <| ml_iload_n dX9_init_10 2 rfl <| ml_putI dX9_init_11 wb_42 (ml_kk em219 hc217) <| ml_lt (m := m218) rfl h fun m220 em221 h => ml_rv hr dX9_init_14 trivial h
theorem sX9_init {l0 : Nat} {l1 : Int32} {l2 : Int32} {m : ml_M} {rm : ml_M} (h : fX9_init l0 l1 l2 m = some rm) : ml_Sn yX9_init cX9_init 3 none 2 [ml_r l0, ml_i l1, ml_i l2] m none rm :=
  ml_Sn_of (P := True) (ini := true) (by decide +kernel) (Nat.le_of_ble_eq_true rfl) (fun _ => rfl) (fun _ => ml_RkV) fun E hL hr => wX9_init_0 hL hr _ _ _ _ h
theorem dX1_readTrunk_0 : ml_d cX1_readTrunk 0 (.aload_n 0) 1 1 := ⟨by decide +kernel, rfl⟩
theorem dX1_readTrunk_1 : ml_d cX1_readTrunk 1 (.dup) 1 2 := ⟨by decide +kernel, rfl⟩
theorem dX1_readTrunk_2 : ml_d cX1_readTrunk 2 (.getfield 31) 3 5 := ⟨by decide +kernel, rfl⟩
theorem dX1_readTrunk_5 : ml_d cX1_readTrunk 5 (.iconst 1) 1 6 := ⟨by decide +kernel, rfl⟩
theorem dX1_readTrunk_6 : ml_d cX1_readTrunk 6 (.iadd) 1 7 := ⟨by decide +kernel, rfl⟩
theorem dX1_readTrunk_7 : ml_d cX1_readTrunk 7 (.putfield 31) 3 10 := ⟨by decide +kernel, rfl⟩
theorem dX1_readTrunk_10 : ml_d cX1_readTrunk 10 (.iconst 0) 1 11 := ⟨by decide +kernel, rfl⟩
theorem dX1_readTrunk_11 : ml_d cX1_readTrunk 11 (.istore_n 1) 1 12 := ⟨by decide +kernel, rfl⟩
theorem dX1_readTrunk_12 : ml_d cX1_readTrunk 12 (.iconst 0) 1 13 := ⟨by decide +kernel, rfl⟩
theorem dX1_readTrunk_13 : ml_d cX1_readTrunk 13 (.istore_n 2) 1 14 := ⟨by decide +kernel, rfl⟩
theorem dX1_readTrunk_14 : ml_d cX1_readTrunk 14 (.iload_n 2) 1 15 := ⟨by decide +kernel, rfl⟩
theorem dX1_readTrunk_15 : ml_d cX1_readTrunk 15 (.iconst 4) 1 16 := ⟨by decide +kernel, rfl⟩
theorem dX1_readTrunk_16 : ml_j cX1_readTrunk 16 (.if_icmp .ge) 37 19 := ⟨21, by decide +kernel, by decide, rfl⟩
theorem dX1_readTrunk_19 : ml_d cX1_readTrunk 19 (.bipush 10) 2 21 := ⟨by decide +kernel, rfl⟩
theorem dX1_readTrunk_21 : ml_d cX1_readTrunk 21 (.iload_n 1) 1 22 := ⟨by decide +kernel, rfl⟩
theorem dX1_readTrunk_22 : ml_d cX1_readTrunk 22 (.imul) 1 23 := ⟨by decide +kernel, rfl⟩
theorem dX1_readTrunk_23 : ml_d cX1_readTrunk 23 (.aload_n 0) 1 24 := ⟨by decide +kernel, rfl⟩
theorem dX1_readTrunk_24 : ml_d cX1_readTrunk 24 (.iconst 1) 1 25 := ⟨by decide +kernel, rfl⟩
theorem dX1_readTrunk_25 : ml_d cX1_readTrunk 25 (.iconst 5) 1 26 := ⟨by decide +kernel, rfl⟩
theorem dX1_readTrunk_26 : ml_d cX1_readTrunk 26 (.invokevirtual 64) 3 29 := ⟨by decide +kernel, rfl⟩
theorem dX1_readTrunk_29 : ml_d cX1_readTrunk 29 (.iadd) 1 30 := ⟨by decide +kernel, rfl⟩
theorem dX1_readTrunk_30 : ml_d cX1_readTrunk 30 (.istore_n 1) 1 31 := ⟨by decide +kernel, rfl⟩
theorem dX1_readTrunk_31 : ml_d cX1_readTrunk 31 (.iinc 2 1) 3 34 := ⟨by decide +kernel, rfl⟩
theorem dX1_readTrunk_34 : ml_j cX1_readTrunk 34 .goto 14 37 := ⟨(-20), by decide +kernel, by decide, rfl⟩
theorem dX1_readTrunk_37 : ml_d cX1_readTrunk 37 (.aload_n 0) 1 38 := ⟨by decide +kernel, rfl⟩
theorem dX1_readTrunk_38 : ml_d cX1_readTrunk 38 (.bipush 94) 2 40 := ⟨by decide +kernel, rfl⟩
theorem dX1_readTrunk_40 : ml_d cX1_readTrunk 40 (.invokevirtual 60) 3 43 := ⟨by decide +kernel, rfl⟩
theorem dX1_readTrunk_43 : ml_d cX1_readTrunk 43 (.aload_n 0) 1 44 := ⟨by decide +kernel, rfl⟩
theorem dX1_readTrunk_44 : ml_d cX1_readTrunk 44 (.iconst 0) 1 45 := ⟨by decide +kernel, rfl⟩
theorem dX1_readTrunk_45 : ml_d cX1_readTrunk 45 (.bipush 9) 2 47 := ⟨by decide +kernel, rfl⟩
theorem dX1_readTrunk_47 : ml_d cX1_readTrunk 47 (.invokevirtual 64) 3 50 := ⟨by decide +kernel, rfl⟩
theorem dX1_readTrunk_50 : ml_d cX1_readTrunk 50 (.istore_n 2) 1 51 := ⟨by decide +kernel, rfl⟩
theorem dX1_readTrunk_51 : ml_d cX1_readTrunk 51 (.aload_n 0) 1 52 := ⟨by decide +kernel, rfl⟩
theorem dX1_readTrunk_52 : ml_d cX1_readTrunk 52 (.getfield 23) 3 55 := ⟨by decide +kernel, rfl⟩
theorem dX1_readTrunk_55 : ml_d cX1_readTrunk 55 (.bipush (-9)) 2 57 := ⟨by decide +kernel, rfl⟩
theorem dX1_readTrunk_57 : ml_j cX1_readTrunk 57 (.if_icmp .eq) 61 60 := ⟨4, by decide +kernel, by decide, rfl⟩
theorem dX1_readTrunk_60 : ml_d cX1_readTrunk 60 (.return_) 1 61 := ⟨by decide +kernel, rfl⟩
theorem dX1_readTrunk_61 : ml_d cX1_readTrunk 61 (.aload_n 0) 1 62 := ⟨by decide +kernel, rfl⟩
theorem dX1_readTrunk_62 : ml_d cX1_readTrunk 62 (.getfield 19) 3 65 := ⟨by decide +kernel, rfl⟩
theorem dX1_readTrunk_65 : ml_d cX1_readTrunk 65 (.aload_n 0) 1 66 := ⟨by decide +kernel, rfl⟩
theorem dX1_readTrunk_66 : ml_d cX1_readTrunk 66 (.getfield 44) 3 69 := ⟨by decide +kernel, rfl⟩
theorem dX1_readTrunk_69 : ml_d cX1_readTrunk 69 (.new 17) 3 72 := ⟨by decide +kernel, rfl⟩
theorem dX1_readTrunk_72 : ml_d cX1_readTrunk 72 (.dup) 1 73 := ⟨by decide +kernel, rfl⟩
theorem dX1_readTrunk_73 : ml_d cX1_readTrunk 73 (.iload_n 1) 1 74 := ⟨by decide +kernel, rfl⟩
theorem dX1_readTrunk_74 : ml_d cX1_readTrunk 74 (.iload_n 2) 1 75 := ⟨by decide +kernel, rfl⟩
theorem dX1_readTrunk_75 : ml_d cX1_readTrunk 75 (.invokespecial 71) 3 78 := ⟨by decide +kernel, rfl⟩
theorem dX1_readTrunk_78 : ml_d cX1_readTrunk 78 (.aastore) 1 79 := ⟨by decide +kernel, rfl⟩
theorem dX1_readTrunk_79 : ml_d cX1_readTrunk 79 (.aload_n 0) 1 80 := ⟨by decide +kernel, rfl⟩
theorem dX1_readTrunk_80 : ml_d cX1_readTrunk 80 (.dup) 1 81 := ⟨by decide +kernel, rfl⟩
theorem dX1_readTrunk_81 : ml_d cX1_readTrunk 81 (.getfield 44) 3 84 := ⟨by decide +kernel, rfl⟩
theorem dX1_readTrunk_84 : ml_d cX1_readTrunk 84 (.iconst 1) 1 85 := ⟨by decide +kernel, rfl⟩
theorem dX1_readTrunk_85 : ml_d cX1_readTrunk 85 (.iadd) 1 86 := ⟨by decide +kernel, rfl⟩
theorem dX1_readTrunk_86 : ml_d cX1_readTrunk 86 (.putfield 44) 3 89 := ⟨by decide +kernel, rfl⟩
theorem dX1_readTrunk_89 : ml_d cX1_readTrunk 89 (.return_) 1 90 := ⟨by decide +kernel, rfl⟩
def fX1_readTrunk_37 (l0 : Nat) (l1 : Int32) (m : ml_M) : Option ml_M :=
    if (ml_K m l0).1 = 1 then
    ml_b1 (fX1_readSign l0 (94 : Int32) m) fun m224 =>
    if (ml_K m224 l0).1 = 1 then
    ml_b2 (fX1_readFigure l0 (0 : Int32) (9 : Int32) m224) fun r227 m228 =>
    if (ml_K m228 l0).1 = 1 then
    if (ml_I m228 l0 4) = (-9 : Int32) then
    ml_let (ml_R m228 l0 1) fun a230 =>
    ml_let (ml_n m228 + 1) fun a231 =>
    ml_let (ml_al m228 9 0 4) fun m232 =>
    ml_b1 (fX9_init a231 l1 r227 m232) fun m236 =>
    if (ml_K m236 a231).1 = 9 then
    if ml_in m236 a230 30 (ml_I m228 l0 3) then
    ml_let (ml_sR m236 a230 (ml_I m228 l0 3).toNatClampNeg a231) fun m239 =>
    if (ml_K m239 l0).1 = 1 then
    ml_let (ml_sI m239 l0 3 ((ml_I m239 l0 3) + (1 : Int32))) fun m242 =>
    some m242
    else none
    else none
    else none
    else
    some m228
    else none
    else none
    else none
theorem vX1_readTrunk_37 {E : ml_E} (hL : ml_eL E = 3) {rm : ml_M} (hr : ∀ (pc pc' : Nat) (lv : List (Nat × ml_X)), ml_d cX1_readTrunk pc .return_ 1 pc' → True → ml_V E "LostRoom$Book" cX1_readTrunk 4 false rm pc lv []) : ∀ (l0 : Nat) (l1 : Int32) (m : ml_M), fX1_readTrunk_37 l0 l1 m = some rm → ml_V E "LostRoom$Book" cX1_readTrunk 4 false m 37 [(0, ml_r l0), (1, ml_i l1)] [] := by
  intro l0 l1 m h
  unfold fX1_readTrunk_37 at h
  exact ml_aload_n dX1_readTrunk_37 0 rfl <| ml_bipush dX1_readTrunk_38 kc_b94 <| ml_ck_of h fun hc223 h => ml_b1_of h fun m224 hv222 h => ml_callV dX1_readTrunk_40 wm_69 wb_33 hc223 (sX1_readSign hv222) rfl (Nat.le_of_ble_eq_true rfl) (Nat.le_of_ble_eq_true rfl) rfl <| ml_aload_n dX1_readTrunk_43 0 rfl <| ml_iconst dX1_readTrunk_44 kc_i0 <| ml_bipush dX1_readTrunk_45 kc_b9 <| ml_ck_of h fun hc226 h => ml_b2_of h fun r227 m228 hv225 h => ml_callV dX1_readTrunk_47 wm_59 wb_26 hc226 (sX1_readFigure hv225) rfl (Nat.le_of_ble_eq_true rfl) (Nat.le_of_ble_eq_true rfl) rfl <| ml_istore_n (lv' := [(2, ml_i r227), (0, ml_r l0), (1, ml_i l1)]) dX1_readTrunk_50 (ml_hn hL rfl) rfl <| ml_aload_n dX1_readTrunk_51 1 rfl <| ml_ck_of h fun hc229 h => ml_getI dX1_readTrunk_52 wb_23 hc229 <| ml_bipush dX1_readTrunk_55 kc_bm9 <| ml_icmp_eq dX1_readTrunk_57 h (fun _ h => ml_aload_n dX1_readTrunk_61 1 rfl <| ml_getR dX1_readTrunk_62 wb_43 hc229 <| ml_lx (mk := ml_r) h fun a230 h => ml_aload_n dX1_readTrunk_65 1 rfl <| ml_getI dX1_readTrunk_66 wb_44 hc229 <| ml_newOs dX1_readTrunk_69 wb_45 h fun a231 m232 hn233 hc234 h => ml_dup dX1_readTrunk_72 rfl <| ml_iload_n dX1_readTrunk_73 2 rfl <| ml_iload_n dX1_readTrunk_74 0 rfl <| ml_b1_of h fun m236 hv235 h => ml_callI dX1_readTrunk_75 wm_88 wb_46 hn233 (sX9_init hv235) rfl (Nat.le_of_ble_eq_true rfl) (Nat.le_of_ble_eq_true rfl) rfl <| ml_ck_of h fun hc238 h => ml_ck_of h fun hi237 h => ml_aast (kd := 30) (ci := 9) dX1_readTrunk_78 (by decide) hi237 hc238 <| ml_lt (m := m236) rfl h fun m239 em240 h => ml_aload_n dX1_readTrunk_79 1 rfl <| ml_dup dX1_readTrunk_80 rfl <| ml_ck_of h fun hc241 h => ml_getI dX1_readTrunk_81 wb_44 hc241 <| ml_iconst dX1_readTrunk_84 kc_i1 <| ml_iadd dX1_readTrunk_85 <| ml_putI dX1_readTrunk_86 wb_47 hc241 <| ml_lt (m := m239) rfl h fun m242 em243 h => ml_rv hr dX1_readTrunk_89 trivial h) (fun _ h => ml_rv hr dX1_readTrunk_60 trivial h)
def fX1_readTrunk_14 : Nat → Nat → Int32 → Int32 → ml_M → Option ml_M
  | 0, _, _, _, _ => none
  | fu + 1, l0, l1, l2, m =>
    if (4 : Int32) ≤ l2 then
    fX1_readTrunk_37 l0 l1 m
    else
    if (ml_K m l0).1 = 1 then
    ml_b2 (fX1_readFigure l0 (1 : Int32) (5 : Int32) m) fun r246 m247 =>
    ml_let (((10 : Int32) * l1) + r246) fun x248 =>
    (fX1_readTrunk_14 fu) l0 x248 (l2 + (1 : Int32)) m247
    else none
theorem vX1_readTrunk_14 {E : ml_E} (hL : ml_eL E = 3) {rm : ml_M} (hr : ∀ (pc pc' : Nat) (lv : List (Nat × ml_X)), ml_d cX1_readTrunk pc .return_ 1 pc' → True → ml_V E "LostRoom$Book" cX1_readTrunk 4 false rm pc lv []) : ∀ (fu : Nat) (l0 : Nat) (l1 : Int32) (l2 : Int32) (m : ml_M), fX1_readTrunk_14 fu l0 l1 l2 m = some rm → ml_V E "LostRoom$Book" cX1_readTrunk 4 false m 14 [(0, ml_r l0), (1, ml_i l1), (2, ml_i l2)] [] := by
  intro fu
  induction fu with
  | zero => intro l0 l1 l2 m h; exact ml_none h
  | succ fu ih =>
    intro l0 l1 l2 m h
    have hk14 := ih
    unfold fX1_readTrunk_14 at h
    exact ml_iload_n dX1_readTrunk_14 2 rfl <| ml_iconst dX1_readTrunk_15 kc_i4 <| ml_icmp_ge dX1_readTrunk_16 h (fun _ h => ml_V.sub [0, 1] rfl (vX1_readTrunk_37 hL hr  _ _ _ h)) (fun _ h => ml_bipush dX1_readTrunk_19 kc_b10 <| ml_iload_n dX1_readTrunk_21 1 rfl <| ml_imul dX1_readTrunk_22 <| ml_aload_n dX1_readTrunk_23 0 rfl <| ml_iconst dX1_readTrunk_24 kc_i1 <| ml_iconst dX1_readTrunk_25 kc_i5 <| ml_ck_of h fun hc245 h => ml_b2_of h fun r246 m247 hv244 h => ml_callV dX1_readTrunk_26 wm_59 wb_26 hc245 (sX1_readFigure hv244) rfl (Nat.le_of_ble_eq_true rfl) (Nat.le_of_ble_eq_true rfl) rfl <| ml_iadd dX1_readTrunk_29 <| ml_lx (mk := ml_i) h fun x248 h => ml_istore_n (lv' := [(1, ml_i x248), (0, ml_r l0), (2, ml_i l2)]) dX1_readTrunk_30 (ml_hn hL rfl) rfl <| ml_iinc (lv' := [(2, ml_i (l2 + (1 : Int32))), (1, ml_i x248), (0, ml_r l0)]) dX1_readTrunk_31 2 rfl (congrArg (l2 + ·) kc_i1) (ml_hn hL rfl) rfl <| ml_goto dX1_readTrunk_34 <| ml_V.sub [2, 1, 0] rfl (hk14 _ _ _ _ h))
def fX1_readTrunk (l0 : Nat) (m : ml_M) : Option ml_M :=
    if (ml_K m l0).1 = 1 then
    ml_let (ml_sI m l0 7 ((ml_I m l0 7) + (1 : Int32))) fun m250 =>
    fX1_readTrunk_14 ml_fu l0 (0 : Int32) (0 : Int32) m250
    else none
theorem wX1_readTrunk_0 {E : ml_E} (hL : ml_eL E = 3) {rm : ml_M} (hr : ∀ (pc pc' : Nat) (lv : List (Nat × ml_X)), ml_d cX1_readTrunk pc .return_ 1 pc' → True → ml_V E "LostRoom$Book" cX1_readTrunk 4 false rm pc lv []) : ∀ (l0 : Nat) (m : ml_M), fX1_readTrunk l0 m = some rm → ml_V E "LostRoom$Book" cX1_readTrunk 4 false m 0 [(0, ml_r l0)] [] := by
  intro l0 m h
  unfold fX1_readTrunk at h
  exact ml_aload_n dX1_readTrunk_0 0 rfl <| ml_dup dX1_readTrunk_1 rfl <| ml_ck_of h fun hc249 h => ml_getI dX1_readTrunk_2 wb_21 hc249 <| ml_iconst dX1_readTrunk_5 kc_i1 <| ml_iadd dX1_readTrunk_6 <| ml_putI dX1_readTrunk_7 wb_25 hc249 <| ml_lt (m := m) rfl h fun m250 em251 h => ml_iconst dX1_readTrunk_10 kc_i0 <| ml_istore_n (lv' := [(1, ml_i (0 : Int32)), (0, ml_r l0)]) dX1_readTrunk_11 (ml_hn hL rfl) rfl <| ml_iconst dX1_readTrunk_12 kc_i0 <| ml_istore_n (lv' := [(2, ml_i (0 : Int32)), (1, ml_i (0 : Int32)), (0, ml_r l0)]) dX1_readTrunk_13 (ml_hn hL rfl) rfl <| ml_V.sub [2, 1, 0] rfl (vX1_readTrunk_14 hL hr  ml_fu _ _ _ _ h)
theorem sX1_readTrunk {l0 : Nat} {m : ml_M} {rm : ml_M} (h : fX1_readTrunk l0 m = some rm) : ml_Sn yX1_readTrunk cX1_readTrunk 3 none 4 [ml_r l0] m none rm :=
  ml_Sn_of (P := True) (ini := false) (by decide +kernel) (Nat.le_of_ble_eq_true rfl) (fun h => by cases h) (fun _ => ml_RkV) fun E hL hr => wX1_readTrunk_0 hL hr _ _ h
theorem dX1_readStanding_0 : ml_d cX1_readStanding 0 (.aload_n 0) 1 1 := ⟨by decide +kernel, rfl⟩
theorem dX1_readStanding_1 : ml_d cX1_readStanding 1 (.dup) 1 2 := ⟨by decide +kernel, rfl⟩
theorem dX1_readStanding_2 : ml_d cX1_readStanding 2 (.getfield 31) 3 5 := ⟨by decide +kernel, rfl⟩
theorem dX1_readStanding_5 : ml_d cX1_readStanding 5 (.iconst 1) 1 6 := ⟨by decide +kernel, rfl⟩
theorem dX1_readStanding_6 : ml_d cX1_readStanding 6 (.iadd) 1 7 := ⟨by decide +kernel, rfl⟩
theorem dX1_readStanding_7 : ml_d cX1_readStanding 7 (.putfield 31) 3 10 := ⟨by decide +kernel, rfl⟩
theorem dX1_readStanding_10 : ml_d cX1_readStanding 10 (.aload_n 0) 1 11 := ⟨by decide +kernel, rfl⟩
theorem dX1_readStanding_11 : ml_d cX1_readStanding 11 (.iconst 0) 1 12 := ⟨by decide +kernel, rfl⟩
theorem dX1_readStanding_12 : ml_d cX1_readStanding 12 (.aload_n 0) 1 13 := ⟨by decide +kernel, rfl⟩
theorem dX1_readStanding_13 : ml_d cX1_readStanding 13 (.getfield 44) 3 16 := ⟨by decide +kernel, rfl⟩
theorem dX1_readStanding_16 : ml_d cX1_readStanding 16 (.iconst 1) 1 17 := ⟨by decide +kernel, rfl⟩
theorem dX1_readStanding_17 : ml_d cX1_readStanding 17 (.isub) 1 18 := ⟨by decide +kernel, rfl⟩
theorem dX1_readStanding_18 : ml_d cX1_readStanding 18 (.invokevirtual 64) 3 21 := ⟨by decide +kernel, rfl⟩
theorem dX1_readStanding_21 : ml_d cX1_readStanding 21 (.istore_n 1) 1 22 := ⟨by decide +kernel, rfl⟩
theorem dX1_readStanding_22 : ml_d cX1_readStanding 22 (.aload_n 0) 1 23 := ⟨by decide +kernel, rfl⟩
theorem dX1_readStanding_23 : ml_d cX1_readStanding 23 (.bipush 47) 2 25 := ⟨by decide +kernel, rfl⟩
theorem dX1_readStanding_25 : ml_d cX1_readStanding 25 (.invokevirtual 60) 3 28 := ⟨by decide +kernel, rfl⟩
theorem dX1_readStanding_28 : ml_d cX1_readStanding 28 (.aload_n 0) 1 29 := ⟨by decide +kernel, rfl⟩
theorem dX1_readStanding_29 : ml_d cX1_readStanding 29 (.getfield 31) 3 32 := ⟨by decide +kernel, rfl⟩
theorem dX1_readStanding_32 : ml_d cX1_readStanding 32 (.istore_n 2) 1 33 := ⟨by decide +kernel, rfl⟩
theorem dX1_readStanding_33 : ml_d cX1_readStanding 33 (.aload_n 0) 1 34 := ⟨by decide +kernel, rfl⟩
theorem dX1_readStanding_34 : ml_d cX1_readStanding 34 (.iconst 0) 1 35 := ⟨by decide +kernel, rfl⟩
theorem dX1_readStanding_35 : ml_d cX1_readStanding 35 (.aload_n 0) 1 36 := ⟨by decide +kernel, rfl⟩
theorem dX1_readStanding_36 : ml_d cX1_readStanding 36 (.getfield 44) 3 39 := ⟨by decide +kernel, rfl⟩
theorem dX1_readStanding_39 : ml_d cX1_readStanding 39 (.iconst 1) 1 40 := ⟨by decide +kernel, rfl⟩
theorem dX1_readStanding_40 : ml_d cX1_readStanding 40 (.isub) 1 41 := ⟨by decide +kernel, rfl⟩
theorem dX1_readStanding_41 : ml_d cX1_readStanding 41 (.invokevirtual 64) 3 44 := ⟨by decide +kernel, rfl⟩
theorem dX1_readStanding_44 : ml_d cX1_readStanding 44 (.istore_n 3) 1 45 := ⟨by decide +kernel, rfl⟩
theorem dX1_readStanding_45 : ml_d cX1_readStanding 45 (.aload_n 0) 1 46 := ⟨by decide +kernel, rfl⟩
theorem dX1_readStanding_46 : ml_d cX1_readStanding 46 (.getfield 23) 3 49 := ⟨by decide +kernel, rfl⟩
theorem dX1_readStanding_49 : ml_d cX1_readStanding 49 (.bipush (-9)) 2 51 := ⟨by decide +kernel, rfl⟩
theorem dX1_readStanding_51 : ml_j cX1_readStanding 51 (.if_icmp .ne) 64 54 := ⟨13, by decide +kernel, by decide, rfl⟩
theorem dX1_readStanding_54 : ml_d cX1_readStanding 54 (.iload_n 3) 1 55 := ⟨by decide +kernel, rfl⟩
theorem dX1_readStanding_55 : ml_d cX1_readStanding 55 (.iload_n 1) 1 56 := ⟨by decide +kernel, rfl⟩
theorem dX1_readStanding_56 : ml_j cX1_readStanding 56 (.if_icmp .ne) 64 59 := ⟨8, by decide +kernel, by decide, rfl⟩
theorem dX1_readStanding_59 : ml_d cX1_readStanding 59 (.aload_n 0) 1 60 := ⟨by decide +kernel, rfl⟩
theorem dX1_readStanding_60 : ml_d cX1_readStanding 60 (.iload_n 2) 1 61 := ⟨by decide +kernel, rfl⟩
theorem dX1_readStanding_61 : ml_d cX1_readStanding 61 (.putfield 23) 3 64 := ⟨by decide +kernel, rfl⟩
theorem dX1_readStanding_64 : ml_d cX1_readStanding 64 (.aload_n 0) 1 65 := ⟨by decide +kernel, rfl⟩
theorem dX1_readStanding_65 : ml_d cX1_readStanding 65 (.getfield 23) 3 68 := ⟨by decide +kernel, rfl⟩
theorem dX1_readStanding_68 : ml_d cX1_readStanding 68 (.bipush (-9)) 2 70 := ⟨by decide +kernel, rfl⟩
theorem dX1_readStanding_70 : ml_j cX1_readStanding 70 (.if_icmp .eq) 74 73 := ⟨4, by decide +kernel, by decide, rfl⟩
theorem dX1_readStanding_73 : ml_d cX1_readStanding 73 (.return_) 1 74 := ⟨by decide +kernel, rfl⟩
theorem dX1_readStanding_74 : ml_d cX1_readStanding 74 (.aload_n 0) 1 75 := ⟨by decide +kernel, rfl⟩
theorem dX1_readStanding_75 : ml_d cX1_readStanding 75 (.dup) 1 76 := ⟨by decide +kernel, rfl⟩
theorem dX1_readStanding_76 : ml_d cX1_readStanding 76 (.getfield 50) 3 79 := ⟨by decide +kernel, rfl⟩
theorem dX1_readStanding_79 : ml_d cX1_readStanding 79 (.iconst 1) 1 80 := ⟨by decide +kernel, rfl⟩
theorem dX1_readStanding_80 : ml_d cX1_readStanding 80 (.iadd) 1 81 := ⟨by decide +kernel, rfl⟩
theorem dX1_readStanding_81 : ml_d cX1_readStanding 81 (.putfield 50) 3 84 := ⟨by decide +kernel, rfl⟩
theorem dX1_readStanding_84 : ml_d cX1_readStanding 84 (.aload_n 0) 1 85 := ⟨by decide +kernel, rfl⟩
theorem dX1_readStanding_85 : ml_d cX1_readStanding 85 (.getfield 19) 3 88 := ⟨by decide +kernel, rfl⟩
theorem dX1_readStanding_88 : ml_d cX1_readStanding 88 (.iload_n 1) 1 89 := ⟨by decide +kernel, rfl⟩
theorem dX1_readStanding_89 : ml_d cX1_readStanding 89 (.aaload) 1 90 := ⟨by decide +kernel, rfl⟩
theorem dX1_readStanding_90 : ml_d cX1_readStanding 90 (.dup) 1 91 := ⟨by decide +kernel, rfl⟩
theorem dX1_readStanding_91 : ml_d cX1_readStanding 91 (.getfield 74) 3 94 := ⟨by decide +kernel, rfl⟩
theorem dX1_readStanding_94 : ml_d cX1_readStanding 94 (.iconst 1) 1 95 := ⟨by decide +kernel, rfl⟩
theorem dX1_readStanding_95 : ml_d cX1_readStanding 95 (.iload_n 3) 1 96 := ⟨by decide +kernel, rfl⟩
theorem dX1_readStanding_96 : ml_d cX1_readStanding 96 (.ishl) 1 97 := ⟨by decide +kernel, rfl⟩
theorem dX1_readStanding_97 : ml_d cX1_readStanding 97 (.ior) 1 98 := ⟨by decide +kernel, rfl⟩
theorem dX1_readStanding_98 : ml_d cX1_readStanding 98 (.putfield 74) 3 101 := ⟨by decide +kernel, rfl⟩
theorem dX1_readStanding_101 : ml_d cX1_readStanding 101 (.aload_n 0) 1 102 := ⟨by decide +kernel, rfl⟩
theorem dX1_readStanding_102 : ml_d cX1_readStanding 102 (.getfield 19) 3 105 := ⟨by decide +kernel, rfl⟩
theorem dX1_readStanding_105 : ml_d cX1_readStanding 105 (.iload_n 3) 1 106 := ⟨by decide +kernel, rfl⟩
theorem dX1_readStanding_106 : ml_d cX1_readStanding 106 (.aaload) 1 107 := ⟨by decide +kernel, rfl⟩
theorem dX1_readStanding_107 : ml_d cX1_readStanding 107 (.dup) 1 108 := ⟨by decide +kernel, rfl⟩
theorem dX1_readStanding_108 : ml_d cX1_readStanding 108 (.getfield 77) 3 111 := ⟨by decide +kernel, rfl⟩
theorem dX1_readStanding_111 : ml_d cX1_readStanding 111 (.iconst 1) 1 112 := ⟨by decide +kernel, rfl⟩
theorem dX1_readStanding_112 : ml_d cX1_readStanding 112 (.iload_n 1) 1 113 := ⟨by decide +kernel, rfl⟩
theorem dX1_readStanding_113 : ml_d cX1_readStanding 113 (.ishl) 1 114 := ⟨by decide +kernel, rfl⟩
theorem dX1_readStanding_114 : ml_d cX1_readStanding 114 (.ior) 1 115 := ⟨by decide +kernel, rfl⟩
theorem dX1_readStanding_115 : ml_d cX1_readStanding 115 (.putfield 77) 3 118 := ⟨by decide +kernel, rfl⟩
theorem dX1_readStanding_118 : ml_d cX1_readStanding 118 (.return_) 1 119 := ⟨by decide +kernel, rfl⟩
def fX1_readStanding_64 (l0 : Nat) (l1 : Int32) (l3 : Int32) (m : ml_M) : Option ml_M :=
    if (ml_K m l0).1 = 1 then
    if (ml_I m l0 4) = (-9 : Int32) then
    ml_let (ml_sI m l0 5 ((ml_I m l0 5) + (1 : Int32))) fun m253 =>
    ml_let (ml_R m253 l0 1) fun a255 =>
    if ml_in m253 a255 30 l1 then
    ml_let (ml_R m253 a255 l1.toNatClampNeg) fun a257 =>
    if (ml_K m253 a257).1 = 9 then
    ml_let (ml_sI m253 a257 2 ((ml_I m253 a257 2) ||| ((1 : Int32) <<< (l3 &&& 31)))) fun m259 =>
    ml_let (ml_R m259 l0 1) fun a261 =>
    if ml_in m259 a261 30 l3 then
    ml_let (ml_R m259 a261 l3.toNatClampNeg) fun a263 =>
    if (ml_K m259 a263).1 = 9 then
    ml_let (ml_sI m259 a263 3 ((ml_I m259 a263 3) ||| ((1 : Int32) <<< (l1 &&& 31)))) fun m265 =>
    some m265
    else none
    else none
    else none
    else none
    else
    some m
    else none
theorem vX1_readStanding_64 {E : ml_E} (hL : ml_eL E = 4) {rm : ml_M} (hr : ∀ (pc pc' : Nat) (lv : List (Nat × ml_X)), ml_d cX1_readStanding pc .return_ 1 pc' → True → ml_V E "LostRoom$Book" cX1_readStanding 4 false rm pc lv []) : ∀ (l0 : Nat) (l1 : Int32) (l3 : Int32) (m : ml_M), fX1_readStanding_64 l0 l1 l3 m = some rm → ml_V E "LostRoom$Book" cX1_readStanding 4 false m 64 [(0, ml_r l0), (1, ml_i l1), (3, ml_i l3)] [] := by
  intro l0 l1 l3 m h
  unfold fX1_readStanding_64 at h
  exact ml_aload_n dX1_readStanding_64 0 rfl <| ml_ck_of h fun hc252 h => ml_getI dX1_readStanding_65 wb_23 hc252 <| ml_bipush dX1_readStanding_68 kc_bm9 <| ml_icmp_eq dX1_readStanding_70 h (fun _ h => ml_aload_n dX1_readStanding_74 0 rfl <| ml_dup dX1_readStanding_75 rfl <| ml_getI dX1_readStanding_76 wb_48 hc252 <| ml_iconst dX1_readStanding_79 kc_i1 <| ml_iadd dX1_readStanding_80 <| ml_putI dX1_readStanding_81 wb_49 hc252 <| ml_lt (m := m) rfl h fun m253 em254 h => ml_aload_n dX1_readStanding_84 0 rfl <| ml_getR dX1_readStanding_85 wb_43 (ml_kk em254 hc252) <| ml_lx (mk := ml_r) h fun a255 h => ml_iload_n dX1_readStanding_88 1 rfl <| ml_ck_of h fun hi256 h => ml_aald (kd := 30) dX1_readStanding_89 (by decide) hi256 <| ml_lx (mk := ml_r) h fun a257 h => ml_dup dX1_readStanding_90 rfl <| ml_ck_of h fun hc258 h => ml_getI dX1_readStanding_91 wb_50 hc258 <| ml_iconst dX1_readStanding_94 kc_i1 <| ml_iload_n dX1_readStanding_95 2 rfl <| ml_ishl dX1_readStanding_96 <| ml_ior dX1_readStanding_97 <| ml_putI dX1_readStanding_98 wb_51 hc258 <| ml_lt (m := m253) rfl h fun m259 em260 h => ml_aload_n dX1_readStanding_101 0 rfl <| ml_getR dX1_readStanding_102 wb_43 (ml_kk em260 (ml_kk em254 hc252)) <| ml_lx (mk := ml_r) h fun a261 h => ml_iload_n dX1_readStanding_105 2 rfl <| ml_ck_of h fun hi262 h => ml_aald (kd := 30) dX1_readStanding_106 (by decide) hi262 <| ml_lx (mk := ml_r) h fun a263 h => ml_dup dX1_readStanding_107 rfl <| ml_ck_of h fun hc264 h => ml_getI dX1_readStanding_108 wb_52 hc264 <| ml_iconst dX1_readStanding_111 kc_i1 <| ml_iload_n dX1_readStanding_112 1 rfl <| ml_ishl dX1_readStanding_113 <| ml_ior dX1_readStanding_114 <| ml_putI dX1_readStanding_115 wb_53 hc264 <| ml_lt (m := m259) rfl h fun m265 em266 h => ml_rv hr dX1_readStanding_118 trivial h) (fun _ h => ml_rv hr dX1_readStanding_73 trivial h)
def fX1_readStanding (l0 : Nat) (m : ml_M) : Option ml_M :=
    if (ml_K m l0).1 = 1 then
    ml_let (ml_sI m l0 7 ((ml_I m l0 7) + (1 : Int32))) fun m268 =>
    ml_b2 (fX1_readFigure l0 (0 : Int32) ((ml_I m268 l0 3) - (1 : Int32)) m268) fun r271 m272 =>
    if (ml_K m272 l0).1 = 1 then
    ml_b1 (fX1_readSign l0 (47 : Int32) m272) fun m275 =>
    if (ml_K m275 l0).1 = 1 then
    ml_let (ml_I m275 l0 7) fun x277 =>
    ml_b2 (fX1_readFigure l0 (0 : Int32) ((ml_I m275 l0 3) - (1 : Int32)) m275) fun r279 m280 =>
    if (ml_K m280 l0).1 = 1 then
    if (ml_I m280 l0 4) = (-9 : Int32) then
    if r279 = r271 then
    ml_let (ml_sI m280 l0 4 x277) fun m282 =>
    fX1_readStanding_64 l0 r271 r279 m282
    else
    fX1_readStanding_64 l0 r271 r279 m280
    else
    fX1_readStanding_64 l0 r271 r279 m280
    else none
    else none
    else none
    else none
theorem wX1_readStanding_0 {E : ml_E} (hL : ml_eL E = 4) {rm : ml_M} (hr : ∀ (pc pc' : Nat) (lv : List (Nat × ml_X)), ml_d cX1_readStanding pc .return_ 1 pc' → True → ml_V E "LostRoom$Book" cX1_readStanding 4 false rm pc lv []) : ∀ (l0 : Nat) (m : ml_M), fX1_readStanding l0 m = some rm → ml_V E "LostRoom$Book" cX1_readStanding 4 false m 0 [(0, ml_r l0)] [] := by
  intro l0 m h
  unfold fX1_readStanding at h
  exact ml_aload_n dX1_readStanding_0 0 rfl <| ml_dup dX1_readStanding_1 rfl <| ml_ck_of h fun hc267 h => ml_getI dX1_readStanding_2 wb_21 hc267 <| ml_iconst dX1_readStanding_5 kc_i1 <| ml_iadd dX1_readStanding_6 <| ml_putI dX1_readStanding_7 wb_25 hc267 <| ml_lt (m := m) rfl h fun m268 em269 h => ml_aload_n dX1_readStanding_10 0 rfl <| ml_iconst dX1_readStanding_11 kc_i0 <| ml_aload_n dX1_readStanding_12 0 rfl <| ml_getI dX1_readStanding_13 wb_44 (ml_kk em269 hc267) <| ml_iconst dX1_readStanding_16 kc_i1 <| ml_isub dX1_readStanding_17 <| ml_b2_of h fun r271 m272 hv270 h => ml_callV dX1_readStanding_18 wm_59 wb_26 (ml_kk em269 hc267) (sX1_readFigure hv270) rfl (Nat.le_of_ble_eq_true rfl) (Nat.le_of_ble_eq_true rfl) rfl <| ml_istore_n (lv' := [(1, ml_i r271), (0, ml_r l0)]) dX1_readStanding_21 (ml_hn hL rfl) rfl <| ml_aload_n dX1_readStanding_22 1 rfl <| ml_bipush dX1_readStanding_23 kc_b47 <| ml_ck_of h fun hc274 h => ml_b1_of h fun m275 hv273 h => ml_callV dX1_readStanding_25 wm_69 wb_33 hc274 (sX1_readSign hv273) rfl (Nat.le_of_ble_eq_true rfl) (Nat.le_of_ble_eq_true rfl) rfl <| ml_aload_n dX1_readStanding_28 1 rfl <| ml_ck_of h fun hc276 h => ml_getI dX1_readStanding_29 wb_21 hc276 <| ml_lx (mk := ml_i) h fun x277 h => ml_istore_n (lv' := [(2, ml_i x277), (1, ml_i r271), (0, ml_r l0)]) dX1_readStanding_32 (ml_hn hL rfl) rfl <| ml_aload_n dX1_readStanding_33 2 rfl <| ml_iconst dX1_readStanding_34 kc_i0 <| ml_aload_n dX1_readStanding_35 2 rfl <| ml_getI dX1_readStanding_36 wb_44 hc276 <| ml_iconst dX1_readStanding_39 kc_i1 <| ml_isub dX1_readStanding_40 <| ml_b2_of h fun r279 m280 hv278 h => ml_callV dX1_readStanding_41 wm_59 wb_26 hc276 (sX1_readFigure hv278) rfl (Nat.le_of_ble_eq_true rfl) (Nat.le_of_ble_eq_true rfl) rfl <| ml_istore_n (lv' := [(3, ml_i r279), (2, ml_i x277), (1, ml_i r271), (0, ml_r l0)]) dX1_readStanding_44 (ml_hn hL rfl) rfl <| ml_aload_n dX1_readStanding_45 3 rfl <| ml_ck_of h fun hc281 h => ml_getI dX1_readStanding_46 wb_23 hc281 <| ml_bipush dX1_readStanding_49 kc_bm9 <| ml_icmp_ne dX1_readStanding_51 h (fun _ h => ml_V.sub [3, 2, 0] rfl (vX1_readStanding_64 hL hr  _ _ _ _ h)) (fun _ h => ml_iload_n dX1_readStanding_54 0 rfl <| ml_iload_n dX1_readStanding_55 2 rfl <| ml_icmp_ne dX1_readStanding_56 h (fun _ h => ml_V.sub [3, 2, 0] rfl (vX1_readStanding_64 hL hr  _ _ _ _ h)) (fun _ h => ml_aload_n dX1_readStanding_59 3 rfl <| ml_iload_n dX1_readStanding_60 1 rfl <| ml_putI dX1_readStanding_61 wb_22 hc281 <| ml_lt (m := m280) rfl h fun m282 em283 h => ml_V.sub [3, 2, 0] rfl (vX1_readStanding_64 hL hr  _ _ _ _ h)))
theorem sX1_readStanding {l0 : Nat} {m : ml_M} {rm : ml_M} (h : fX1_readStanding l0 m = some rm) : ml_Sn yX1_readStanding cX1_readStanding 4 none 4 [ml_r l0] m none rm :=
  ml_Sn_of (P := True) (ini := false) (by decide +kernel) (Nat.le_of_ble_eq_true rfl) (fun h => by cases h) (fun _ => ml_RkV) fun E hL hr => wX1_readStanding_0 hL hr _ _ h
theorem dX1_readItem_0 : ml_d cX1_readItem 0 (.iload_n 1) 1 1 := ⟨by decide +kernel, rfl⟩
theorem dX1_readItem_1 : ml_d cX1_readItem 1 (.bipush 32) 2 3 := ⟨by decide +kernel, rfl⟩
theorem dX1_readItem_3 : ml_j cX1_readItem 3 (.if_icmp .ne) 19 6 := ⟨16, by decide +kernel, by decide, rfl⟩
theorem dX1_readItem_6 : ml_d cX1_readItem 6 (.aload_n 0) 1 7 := ⟨by decide +kernel, rfl⟩
theorem dX1_readItem_7 : ml_d cX1_readItem 7 (.dup) 1 8 := ⟨by decide +kernel, rfl⟩
theorem dX1_readItem_8 : ml_d cX1_readItem 8 (.getfield 31) 3 11 := ⟨by decide +kernel, rfl⟩
theorem dX1_readItem_11 : ml_d cX1_readItem 11 (.iconst 1) 1 12 := ⟨by decide +kernel, rfl⟩
theorem dX1_readItem_12 : ml_d cX1_readItem 12 (.iadd) 1 13 := ⟨by decide +kernel, rfl⟩
theorem dX1_readItem_13 : ml_d cX1_readItem 13 (.putfield 31) 3 16 := ⟨by decide +kernel, rfl⟩
theorem dX1_readItem_16 : ml_j cX1_readItem 16 .goto 93 19 := ⟨77, by decide +kernel, by decide, rfl⟩
theorem dX1_readItem_19 : ml_d cX1_readItem 19 (.iload_n 1) 1 20 := ⟨by decide +kernel, rfl⟩
theorem dX1_readItem_20 : ml_d cX1_readItem 20 (.bipush 108) 2 22 := ⟨by decide +kernel, rfl⟩
theorem dX1_readItem_22 : ml_j cX1_readItem 22 (.if_icmp .ne) 41 25 := ⟨19, by decide +kernel, by decide, rfl⟩
theorem dX1_readItem_25 : ml_d cX1_readItem 25 (.aload_n 0) 1 26 := ⟨by decide +kernel, rfl⟩
theorem dX1_readItem_26 : ml_d cX1_readItem 26 (.getfield 38) 3 29 := ⟨by decide +kernel, rfl⟩
theorem dX1_readItem_29 : ml_d cX1_readItem 29 (.bipush 8) 2 31 := ⟨by decide +kernel, rfl⟩
theorem dX1_readItem_31 : ml_j cX1_readItem 31 (.if_icmp .ge) 41 34 := ⟨10, by decide +kernel, by decide, rfl⟩
theorem dX1_readItem_34 : ml_d cX1_readItem 34 (.aload_n 0) 1 35 := ⟨by decide +kernel, rfl⟩
theorem dX1_readItem_35 : ml_d cX1_readItem 35 (.invokevirtual 41) 3 38 := ⟨by decide +kernel, rfl⟩
theorem dX1_readItem_38 : ml_j cX1_readItem 38 .goto 93 41 := ⟨55, by decide +kernel, by decide, rfl⟩
theorem dX1_readItem_41 : ml_d cX1_readItem 41 (.iload_n 1) 1 42 := ⟨by decide +kernel, rfl⟩
theorem dX1_readItem_42 : ml_d cX1_readItem 42 (.bipush 107) 2 44 := ⟨by decide +kernel, rfl⟩
theorem dX1_readItem_44 : ml_j cX1_readItem 44 (.if_icmp .ne) 63 47 := ⟨19, by decide +kernel, by decide, rfl⟩
theorem dX1_readItem_47 : ml_d cX1_readItem 47 (.aload_n 0) 1 48 := ⟨by decide +kernel, rfl⟩
theorem dX1_readItem_48 : ml_d cX1_readItem 48 (.getfield 44) 3 51 := ⟨by decide +kernel, rfl⟩
theorem dX1_readItem_51 : ml_d cX1_readItem 51 (.bipush 8) 2 53 := ⟨by decide +kernel, rfl⟩
theorem dX1_readItem_53 : ml_j cX1_readItem 53 (.if_icmp .ge) 63 56 := ⟨10, by decide +kernel, by decide, rfl⟩
theorem dX1_readItem_56 : ml_d cX1_readItem 56 (.aload_n 0) 1 57 := ⟨by decide +kernel, rfl⟩
theorem dX1_readItem_57 : ml_d cX1_readItem 57 (.invokevirtual 47) 3 60 := ⟨by decide +kernel, rfl⟩
theorem dX1_readItem_60 : ml_j cX1_readItem 60 .goto 93 63 := ⟨33, by decide +kernel, by decide, rfl⟩
theorem dX1_readItem_63 : ml_d cX1_readItem 63 (.iload_n 1) 1 64 := ⟨by decide +kernel, rfl⟩
theorem dX1_readItem_64 : ml_d cX1_readItem 64 (.bipush 117) 2 66 := ⟨by decide +kernel, rfl⟩
theorem dX1_readItem_66 : ml_j cX1_readItem 66 (.if_icmp .ne) 85 69 := ⟨19, by decide +kernel, by decide, rfl⟩
theorem dX1_readItem_69 : ml_d cX1_readItem 69 (.aload_n 0) 1 70 := ⟨by decide +kernel, rfl⟩
theorem dX1_readItem_70 : ml_d cX1_readItem 70 (.getfield 50) 3 73 := ⟨by decide +kernel, rfl⟩
theorem dX1_readItem_73 : ml_d cX1_readItem 73 (.bipush 12) 2 75 := ⟨by decide +kernel, rfl⟩
theorem dX1_readItem_75 : ml_j cX1_readItem 75 (.if_icmp .ge) 85 78 := ⟨10, by decide +kernel, by decide, rfl⟩
theorem dX1_readItem_78 : ml_d cX1_readItem 78 (.aload_n 0) 1 79 := ⟨by decide +kernel, rfl⟩
theorem dX1_readItem_79 : ml_d cX1_readItem 79 (.invokevirtual 53) 3 82 := ⟨by decide +kernel, rfl⟩
theorem dX1_readItem_82 : ml_j cX1_readItem 82 .goto 93 85 := ⟨11, by decide +kernel, by decide, rfl⟩
theorem dX1_readItem_85 : ml_d cX1_readItem 85 (.aload_n 0) 1 86 := ⟨by decide +kernel, rfl⟩
theorem dX1_readItem_86 : ml_d cX1_readItem 86 (.aload_n 0) 1 87 := ⟨by decide +kernel, rfl⟩
theorem dX1_readItem_87 : ml_d cX1_readItem 87 (.getfield 31) 3 90 := ⟨by decide +kernel, rfl⟩
theorem dX1_readItem_90 : ml_d cX1_readItem 90 (.putfield 23) 3 93 := ⟨by decide +kernel, rfl⟩
theorem dX1_readItem_93 : ml_d cX1_readItem 93 (.return_) 1 94 := ⟨by decide +kernel, rfl⟩
def fX1_readItem_85 (l0 : Nat) (m : ml_M) : Option ml_M :=
    if (ml_K m l0).1 = 1 then
    ml_let (ml_sI m l0 4 (ml_I m l0 7)) fun m285 =>
    some m285
    else none
theorem vX1_readItem_85 {E : ml_E} (hL : ml_eL E = 2) {rm : ml_M} (hr : ∀ (pc pc' : Nat) (lv : List (Nat × ml_X)), ml_d cX1_readItem pc .return_ 1 pc' → True → ml_V E "LostRoom$Book" cX1_readItem 6 false rm pc lv []) : ∀ (l0 : Nat) (m : ml_M), fX1_readItem_85 l0 m = some rm → ml_V E "LostRoom$Book" cX1_readItem 6 false m 85 [(0, ml_r l0)] [] := by
  intro l0 m h
  unfold fX1_readItem_85 at h
  exact ml_aload_n dX1_readItem_85 0 rfl <| ml_aload_n dX1_readItem_86 0 rfl <| ml_ck_of h fun hc284 h => ml_getI dX1_readItem_87 wb_21 hc284 <| ml_putI dX1_readItem_90 wb_22 hc284 <| ml_lt (m := m) rfl h fun m285 em286 h => ml_rv hr dX1_readItem_93 trivial h
def fX1_readItem_63 (l0 : Nat) (l1 : Int32) (m : ml_M) : Option ml_M :=
    if l1 = (117 : Int32) then
    if (ml_K m l0).1 = 1 then
    if (12 : Int32) ≤ (ml_I m l0 5) then
    fX1_readItem_85 l0 m
    else
    ml_b1 (fX1_readStanding l0 m) fun m289 =>
    some m289
    else none
    else
    fX1_readItem_85 l0 m
theorem vX1_readItem_63 {E : ml_E} (hL : ml_eL E = 2) {rm : ml_M} (hr : ∀ (pc pc' : Nat) (lv : List (Nat × ml_X)), ml_d cX1_readItem pc .return_ 1 pc' → True → ml_V E "LostRoom$Book" cX1_readItem 6 false rm pc lv []) : ∀ (l0 : Nat) (l1 : Int32) (m : ml_M), fX1_readItem_63 l0 l1 m = some rm → ml_V E "LostRoom$Book" cX1_readItem 6 false m 63 [(0, ml_r l0), (1, ml_i l1)] [] := by
  intro l0 l1 m h
  unfold fX1_readItem_63 at h
  exact ml_iload_n dX1_readItem_63 1 rfl <| ml_bipush dX1_readItem_64 kc_b117 <| ml_icmp_ne dX1_readItem_66 h (fun _ h => ml_V.sub [0] rfl (vX1_readItem_85 hL hr  _ _ h)) (fun _ h => ml_aload_n dX1_readItem_69 0 rfl <| ml_ck_of h fun hc287 h => ml_getI dX1_readItem_70 wb_48 hc287 <| ml_bipush dX1_readItem_73 kc_b12 <| ml_icmp_ge dX1_readItem_75 h (fun _ h => ml_V.sub [0] rfl (vX1_readItem_85 hL hr  _ _ h)) (fun _ h => ml_aload_n dX1_readItem_78 0 rfl <| ml_b1_of h fun m289 hv288 h => ml_callV dX1_readItem_79 wm_95 wb_54 hc287 (sX1_readStanding hv288) rfl (Nat.le_of_ble_eq_true rfl) (Nat.le_of_ble_eq_true rfl) rfl <| ml_goto dX1_readItem_82 <| ml_rv hr dX1_readItem_93 trivial h))
def fX1_readItem_41 (l0 : Nat) (l1 : Int32) (m : ml_M) : Option ml_M :=
    if l1 = (107 : Int32) then
    if (ml_K m l0).1 = 1 then
    if (8 : Int32) ≤ (ml_I m l0 3) then
    fX1_readItem_63 l0 l1 m
    else
    ml_b1 (fX1_readTrunk l0 m) fun m292 =>
    some m292
    else none
    else
    fX1_readItem_63 l0 l1 m
theorem vX1_readItem_41 {E : ml_E} (hL : ml_eL E = 2) {rm : ml_M} (hr : ∀ (pc pc' : Nat) (lv : List (Nat × ml_X)), ml_d cX1_readItem pc .return_ 1 pc' → True → ml_V E "LostRoom$Book" cX1_readItem 6 false rm pc lv []) : ∀ (l0 : Nat) (l1 : Int32) (m : ml_M), fX1_readItem_41 l0 l1 m = some rm → ml_V E "LostRoom$Book" cX1_readItem 6 false m 41 [(0, ml_r l0), (1, ml_i l1)] [] := by
  intro l0 l1 m h
  unfold fX1_readItem_41 at h
  exact ml_iload_n dX1_readItem_41 1 rfl <| ml_bipush dX1_readItem_42 kc_b107 <| ml_icmp_ne dX1_readItem_44 h (fun _ h => ml_V.sub [0, 1] rfl (vX1_readItem_63 hL hr  _ _ _ h)) (fun _ h => ml_aload_n dX1_readItem_47 0 rfl <| ml_ck_of h fun hc290 h => ml_getI dX1_readItem_48 wb_44 hc290 <| ml_bipush dX1_readItem_51 kc_b8 <| ml_icmp_ge dX1_readItem_53 h (fun _ h => ml_V.sub [0, 1] rfl (vX1_readItem_63 hL hr  _ _ _ h)) (fun _ h => ml_aload_n dX1_readItem_56 0 rfl <| ml_b1_of h fun m292 hv291 h => ml_callV dX1_readItem_57 wm_99 wb_55 hc290 (sX1_readTrunk hv291) rfl (Nat.le_of_ble_eq_true rfl) (Nat.le_of_ble_eq_true rfl) rfl <| ml_goto dX1_readItem_60 <| ml_rv hr dX1_readItem_93 trivial h))
def fX1_readItem (l0 : Nat) (l1 : Int32) (m : ml_M) : Option ml_M :=
    if l1 = (32 : Int32) then
    if (ml_K m l0).1 = 1 then
    ml_let (ml_sI m l0 7 ((ml_I m l0 7) + (1 : Int32))) fun m297 =>
    some m297
    else none
    else
    if l1 = (108 : Int32) then
    if (ml_K m l0).1 = 1 then
    if (8 : Int32) ≤ (ml_I m l0 2) then
    fX1_readItem_41 l0 l1 m
    else
    ml_b1 (fX1_readLodger l0 m) fun m295 =>
    some m295
    else none
    else
    fX1_readItem_41 l0 l1 m
theorem wX1_readItem_0 {E : ml_E} (hL : ml_eL E = 2) {rm : ml_M} (hr : ∀ (pc pc' : Nat) (lv : List (Nat × ml_X)), ml_d cX1_readItem pc .return_ 1 pc' → True → ml_V E "LostRoom$Book" cX1_readItem 6 false rm pc lv []) : ∀ (l0 : Nat) (l1 : Int32) (m : ml_M), fX1_readItem l0 l1 m = some rm → ml_V E "LostRoom$Book" cX1_readItem 6 false m 0 [(0, ml_r l0), (1, ml_i l1)] [] := by
  intro l0 l1 m h
  unfold fX1_readItem at h
  exact ml_iload_n dX1_readItem_0 1 rfl <| ml_bipush dX1_readItem_1 kc_b32 <| ml_icmp_ne dX1_readItem_3 h (fun _ h => ml_iload_n dX1_readItem_19 1 rfl <| ml_bipush dX1_readItem_20 kc_b108 <| ml_icmp_ne dX1_readItem_22 h (fun _ h => ml_V.sub [0, 1] rfl (vX1_readItem_41 hL hr  _ _ _ h)) (fun _ h => ml_aload_n dX1_readItem_25 0 rfl <| ml_ck_of h fun hc293 h => ml_getI dX1_readItem_26 wb_35 hc293 <| ml_bipush dX1_readItem_29 kc_b8 <| ml_icmp_ge dX1_readItem_31 h (fun _ h => ml_V.sub [0, 1] rfl (vX1_readItem_41 hL hr  _ _ _ h)) (fun _ h => ml_aload_n dX1_readItem_34 0 rfl <| ml_b1_of h fun m295 hv294 h => ml_callV dX1_readItem_35 wm_103 wb_56 hc293 (sX1_readLodger hv294) rfl (Nat.le_of_ble_eq_true rfl) (Nat.le_of_ble_eq_true rfl) rfl <| ml_goto dX1_readItem_38 <| ml_rv hr dX1_readItem_93 trivial h))) (fun _ h => ml_aload_n dX1_readItem_6 0 rfl <| ml_dup dX1_readItem_7 rfl <| ml_ck_of h fun hc296 h => ml_getI dX1_readItem_8 wb_21 hc296 <| ml_iconst dX1_readItem_11 kc_i1 <| ml_iadd dX1_readItem_12 <| ml_putI dX1_readItem_13 wb_25 hc296 <| ml_lt (m := m) rfl h fun m297 em298 h => ml_goto dX1_readItem_16 <| ml_rv hr dX1_readItem_93 trivial h)
theorem sX1_readItem {l0 : Nat} {l1 : Int32} {m : ml_M} {rm : ml_M} (h : fX1_readItem l0 l1 m = some rm) : ml_Sn yX1_readItem cX1_readItem 2 none 6 [ml_r l0, ml_i l1] m none rm :=
  ml_Sn_of (P := True) (ini := false) (by decide +kernel) (Nat.le_of_ble_eq_true rfl) (fun h => by cases h) (fun _ => ml_RkV) fun E hL hr => wX1_readItem_0 hL hr _ _ _ h
theorem dX1_read_0 : ml_d cX1_read 0 (.iconst 0) 1 1 := ⟨by decide +kernel, rfl⟩
theorem dX1_read_1 : ml_d cX1_read 1 (.istore_n 1) 1 2 := ⟨by decide +kernel, rfl⟩
theorem dX1_read_2 : ml_d cX1_read 2 (.iload_n 1) 1 3 := ⟨by decide +kernel, rfl⟩
theorem dX1_read_3 : ml_d cX1_read 3 (.aload_n 0) 1 4 := ⟨by decide +kernel, rfl⟩
theorem dX1_read_4 : ml_d cX1_read 4 (.getfield 27) 3 7 := ⟨by decide +kernel, rfl⟩
theorem dX1_read_7 : ml_d cX1_read 7 (.arraylength) 1 8 := ⟨by decide +kernel, rfl⟩
theorem dX1_read_8 : ml_j cX1_read 8 (.if_icmp .ge) 51 11 := ⟨43, by decide +kernel, by decide, rfl⟩
theorem dX1_read_11 : ml_d cX1_read 11 (.aload_n 0) 1 12 := ⟨by decide +kernel, rfl⟩
theorem dX1_read_12 : ml_d cX1_read 12 (.getfield 23) 3 15 := ⟨by decide +kernel, rfl⟩
theorem dX1_read_15 : ml_d cX1_read 15 (.bipush (-9)) 2 17 := ⟨by decide +kernel, rfl⟩
theorem dX1_read_17 : ml_j cX1_read 17 (.if_icmp .ne) 45 20 := ⟨28, by decide +kernel, by decide, rfl⟩
theorem dX1_read_20 : ml_d cX1_read 20 (.aload_n 0) 1 21 := ⟨by decide +kernel, rfl⟩
theorem dX1_read_21 : ml_d cX1_read 21 (.getfield 31) 3 24 := ⟨by decide +kernel, rfl⟩
theorem dX1_read_24 : ml_d cX1_read 24 (.aload_n 0) 1 25 := ⟨by decide +kernel, rfl⟩
theorem dX1_read_25 : ml_d cX1_read 25 (.getfield 27) 3 28 := ⟨by decide +kernel, rfl⟩
theorem dX1_read_28 : ml_d cX1_read 28 (.arraylength) 1 29 := ⟨by decide +kernel, rfl⟩
theorem dX1_read_29 : ml_j cX1_read 29 (.if_icmp .ge) 45 32 := ⟨16, by decide +kernel, by decide, rfl⟩
theorem dX1_read_32 : ml_d cX1_read 32 (.aload_n 0) 1 33 := ⟨by decide +kernel, rfl⟩
theorem dX1_read_33 : ml_d cX1_read 33 (.aload_n 0) 1 34 := ⟨by decide +kernel, rfl⟩
theorem dX1_read_34 : ml_d cX1_read 34 (.getfield 27) 3 37 := ⟨by decide +kernel, rfl⟩
theorem dX1_read_37 : ml_d cX1_read 37 (.aload_n 0) 1 38 := ⟨by decide +kernel, rfl⟩
theorem dX1_read_38 : ml_d cX1_read 38 (.getfield 31) 3 41 := ⟨by decide +kernel, rfl⟩
theorem dX1_read_41 : ml_d cX1_read 41 (.baload) 1 42 := ⟨by decide +kernel, rfl⟩
theorem dX1_read_42 : ml_d cX1_read 42 (.invokevirtual 34) 3 45 := ⟨by decide +kernel, rfl⟩
theorem dX1_read_45 : ml_d cX1_read 45 (.iinc 1 1) 3 48 := ⟨by decide +kernel, rfl⟩
theorem dX1_read_48 : ml_j cX1_read 48 .goto 2 51 := ⟨(-46), by decide +kernel, by decide, rfl⟩
theorem dX1_read_51 : ml_d cX1_read 51 (.return_) 1 52 := ⟨by decide +kernel, rfl⟩
def fX1_read_45 (k2 : Nat → Int32 → ml_M → Option ml_M) (l0 : Nat) (l1 : Int32) (m : ml_M) : Option ml_M :=
    k2 l0 (l1 + (1 : Int32)) m
theorem vX1_read_45 {E : ml_E} (hL : ml_eL E = 2) {rm : ml_M} (hr : ∀ (pc pc' : Nat) (lv : List (Nat × ml_X)), ml_d cX1_read pc .return_ 1 pc' → True → ml_V E "LostRoom$Book" cX1_read 7 false rm pc lv []) {k2 : Nat → Int32 → ml_M → Option ml_M} (hk2 : ∀ (l0 : Nat) (l1 : Int32) (m : ml_M), k2 l0 l1 m = some rm → ml_V E "LostRoom$Book" cX1_read 7 false m 2 [(0, ml_r l0), (1, ml_i l1)] []) : ∀ (l0 : Nat) (l1 : Int32) (m : ml_M), fX1_read_45 k2 l0 l1 m = some rm → ml_V E "LostRoom$Book" cX1_read 7 false m 45 [(0, ml_r l0), (1, ml_i l1)] [] := by
  intro l0 l1 m h
  unfold fX1_read_45 at h
  exact ml_iinc (lv' := [(1, ml_i (l1 + (1 : Int32))), (0, ml_r l0)]) dX1_read_45 1 rfl (congrArg (l1 + ·) kc_i1) (ml_hn hL rfl) rfl <| ml_goto dX1_read_48 <| ml_V.sub [1, 0] rfl (hk2 _ _ _ h)
def fX1_read_2 : Nat → Nat → Int32 → ml_M → Option ml_M
  | 0, _, _, _ => none
  | fu + 1, l0, l1, m =>
    if (ml_K m l0).1 = 1 then
    ml_let (ml_R m l0 6) fun a300 =>
    if (ml_K m a300).1 = 21 then
    if (Int32.ofNat (ml_K m a300).2) ≤ l1 then
    some m
    else
    if (ml_I m l0 4) = (-9 : Int32) then
    ml_let (ml_R m l0 6) fun a302 =>
    if (ml_K m a302).1 = 21 then
    if (Int32.ofNat (ml_K m a302).2) ≤ (ml_I m l0 7) then
    fX1_read_45 (fX1_read_2 fu) l0 l1 m
    else
    ml_let (ml_R m l0 6) fun a304 =>
    if ml_in m a304 21 (ml_I m l0 7) then
    ml_b1 (fX1_readItem l0 (ml_I m a304 (ml_I m l0 7).toNatClampNeg) m) fun m307 =>
    fX1_read_45 (fX1_read_2 fu) l0 l1 m307
    else none
    else none
    else
    fX1_read_45 (fX1_read_2 fu) l0 l1 m
    else none
    else none
theorem vX1_read_2 {E : ml_E} (hL : ml_eL E = 2) {rm : ml_M} (hr : ∀ (pc pc' : Nat) (lv : List (Nat × ml_X)), ml_d cX1_read pc .return_ 1 pc' → True → ml_V E "LostRoom$Book" cX1_read 7 false rm pc lv []) : ∀ (fu : Nat) (l0 : Nat) (l1 : Int32) (m : ml_M), fX1_read_2 fu l0 l1 m = some rm → ml_V E "LostRoom$Book" cX1_read 7 false m 2 [(0, ml_r l0), (1, ml_i l1)] [] := by
  intro fu
  induction fu with
  | zero => intro l0 l1 m h; exact ml_none h
  | succ fu ih =>
    intro l0 l1 m h
    have hk2 := ih
    unfold fX1_read_2 at h
    exact ml_iload_n dX1_read_2 1 rfl <| ml_aload_n dX1_read_3 0 rfl <| ml_ck_of h fun hc299 h => ml_getR dX1_read_4 wb_24 hc299 <| ml_lx (mk := ml_r) h fun a300 h => ml_ck_of h fun hc301 h => ml_alen (kd := 21) dX1_read_7 (by decide) hc301 <| ml_icmp_ge dX1_read_8 h (fun _ h => ml_rv hr dX1_read_51 trivial h) (fun _ h => ml_aload_n dX1_read_11 0 rfl <| ml_getI dX1_read_12 wb_23 hc299 <| ml_bipush dX1_read_15 kc_bm9 <| ml_icmp_ne dX1_read_17 h (fun _ h => ml_V.sub [0, 1] rfl (vX1_read_45 hL hr hk2 _ _ _ h)) (fun _ h => ml_aload_n dX1_read_20 0 rfl <| ml_getI dX1_read_21 wb_21 hc299 <| ml_aload_n dX1_read_24 0 rfl <| ml_getR dX1_read_25 wb_24 hc299 <| ml_lx (mk := ml_r) h fun a302 h => ml_ck_of h fun hc303 h => ml_alen (kd := 21) dX1_read_28 (by decide) hc303 <| ml_icmp_ge dX1_read_29 h (fun _ h => ml_V.sub [0, 1] rfl (vX1_read_45 hL hr hk2 _ _ _ h)) (fun _ h => ml_aload_n dX1_read_32 0 rfl <| ml_aload_n dX1_read_33 0 rfl <| ml_getR dX1_read_34 wb_24 hc299 <| ml_lx (mk := ml_r) h fun a304 h => ml_aload_n dX1_read_37 0 rfl <| ml_getI dX1_read_38 wb_21 hc299 <| ml_ck_of h fun hi305 h => ml_bald dX1_read_41 hi305 <| ml_b1_of h fun m307 hv306 h => ml_callV dX1_read_42 wm_107 wb_57 hc299 (sX1_readItem hv306) rfl (Nat.le_of_ble_eq_true rfl) (Nat.le_of_ble_eq_true rfl) rfl <| ml_V.sub [0, 1] rfl (vX1_read_45 hL hr hk2 _ _ _ h))))
def fX1_read (l0 : Nat) (m : ml_M) : Option ml_M :=
    fX1_read_2 ml_fu l0 (0 : Int32) m
theorem wX1_read_0 {E : ml_E} (hL : ml_eL E = 2) {rm : ml_M} (hr : ∀ (pc pc' : Nat) (lv : List (Nat × ml_X)), ml_d cX1_read pc .return_ 1 pc' → True → ml_V E "LostRoom$Book" cX1_read 7 false rm pc lv []) : ∀ (l0 : Nat) (m : ml_M), fX1_read l0 m = some rm → ml_V E "LostRoom$Book" cX1_read 7 false m 0 [(0, ml_r l0)] [] := by
  intro l0 m h
  unfold fX1_read at h
  exact ml_iconst dX1_read_0 kc_i0 <| ml_istore_n (lv' := [(1, ml_i (0 : Int32)), (0, ml_r l0)]) dX1_read_1 (ml_hn hL rfl) rfl <| ml_V.sub [1, 0] rfl (vX1_read_2 hL hr  ml_fu _ _ _ h)
theorem sX1_read {l0 : Nat} {m : ml_M} {rm : ml_M} (h : fX1_read l0 m = some rm) : ml_Sn yX1_read cX1_read 2 none 7 [ml_r l0] m none rm :=
  ml_Sn_of (P := True) (ini := false) (by decide +kernel) (Nat.le_of_ble_eq_true rfl) (fun h => by cases h) (fun _ => ml_RkV) fun E hL hr => wX1_read_0 hL hr _ _ h
theorem dX10_fault_0 : ml_d cX10_fault 0 (.iload_n 1) 1 1 := ⟨by decide +kernel, rfl⟩
theorem dX10_fault_1 : ml_d cX10_fault 1 (.invokestatic 103) 3 4 := ⟨by decide +kernel, rfl⟩
theorem dX10_fault_4 : ml_j cX10_fault 4 (.ifCond .ne) 9 7 := ⟨5, by decide +kernel, by decide, rfl⟩
theorem dX10_fault_7 : ml_d cX10_fault 7 (.iconst (-1)) 1 8 := ⟨by decide +kernel, rfl⟩
theorem dX10_fault_8 : ml_d cX10_fault 8 (.ireturn) 1 9 := ⟨by decide +kernel, rfl⟩
theorem dX10_fault_9 : ml_d cX10_fault 9 (.aload_n 0) 1 10 := ⟨by decide +kernel, rfl⟩
theorem dX10_fault_10 : ml_d cX10_fault 10 (.getfield 17) 3 13 := ⟨by decide +kernel, rfl⟩
theorem dX10_fault_13 : ml_d cX10_fault 13 (.iload_n 1) 1 14 := ⟨by decide +kernel, rfl⟩
theorem dX10_fault_14 : ml_d cX10_fault 14 (.aaload) 1 15 := ⟨by decide +kernel, rfl⟩
theorem dX10_fault_15 : ml_d cX10_fault 15 (.astore_n 2) 1 16 := ⟨by decide +kernel, rfl⟩
theorem dX10_fault_16 : ml_d cX10_fault 16 (.aload_n 2) 1 17 := ⟨by decide +kernel, rfl⟩
theorem dX10_fault_17 : ml_j cX10_fault 17 .ifnonnull 26 20 := ⟨9, by decide +kernel, by decide, rfl⟩
theorem dX10_fault_20 : ml_d cX10_fault 20 (.aload_n 0) 1 21 := ⟨by decide +kernel, rfl⟩
theorem dX10_fault_21 : ml_d cX10_fault 21 (.iconst 1) 1 22 := ⟨by decide +kernel, rfl⟩
theorem dX10_fault_22 : ml_d cX10_fault 22 (.invokevirtual 86) 3 25 := ⟨by decide +kernel, rfl⟩
theorem dX10_fault_25 : ml_d cX10_fault 25 (.ireturn) 1 26 := ⟨by decide +kernel, rfl⟩
theorem dX10_fault_26 : ml_d cX10_fault 26 (.new 21) 3 29 := ⟨by decide +kernel, rfl⟩
theorem dX10_fault_29 : ml_d cX10_fault 29 (.dup) 1 30 := ⟨by decide +kernel, rfl⟩
theorem dX10_fault_30 : ml_d cX10_fault 30 (.aload_n 2) 1 31 := ⟨by decide +kernel, rfl⟩
theorem dX10_fault_31 : ml_d cX10_fault 31 (.invokespecial 23) 3 34 := ⟨by decide +kernel, rfl⟩
theorem dX10_fault_34 : ml_d cX10_fault 34 (.astore_n 3) 1 35 := ⟨by decide +kernel, rfl⟩
theorem dX10_fault_35 : ml_d cX10_fault 35 (.aload_n 3) 1 36 := ⟨by decide +kernel, rfl⟩
theorem dX10_fault_36 : ml_d cX10_fault 36 (.invokevirtual 112) 3 39 := ⟨by decide +kernel, rfl⟩
theorem dX10_fault_39 : ml_d cX10_fault 39 (.aload_n 3) 1 40 := ⟨by decide +kernel, rfl⟩
theorem dX10_fault_40 : ml_d cX10_fault 40 (.getfield 115) 3 43 := ⟨by decide +kernel, rfl⟩
theorem dX10_fault_43 : ml_d cX10_fault 43 (.ireturn) 1 44 := ⟨by decide +kernel, rfl⟩
def fX10_fault (l0 : Nat) (l1 : Int32) (m : ml_M) : Option (Int32 × ml_M) :=
    ml_b1 (fX10_isText l1 m) fun r309 =>
    if r309 = 0 then
    some ((-1 : Int32), m)
    else
    if (ml_K m l0).1 = 10 then
    ml_let (ml_R m l0 1) fun a311 =>
    if ml_in m a311 24 l1 then
    ml_let (ml_R m a311 l1.toNatClampNeg) fun a313 =>
    if a313 = 0 then
    ml_b2 (fX10_found l0 (1 : Int32) m) fun r325 m326 =>
    some (r325, m326)
    else
    ml_let (ml_n m + 1) fun a314 =>
    ml_let (ml_al m 1 0 8) fun m315 =>
    ml_b1 (fX1_init a314 a313 m315) fun m319 =>
    if (ml_K m319 a314).1 = 1 then
    ml_b1 (fX1_read a314 m319) fun m322 =>
    if (ml_K m322 a314).1 = 1 then
    some ((ml_I m322 a314 4), m322)
    else none
    else none
    else none
    else none
theorem wX10_fault_0 {E : ml_E} (hL : ml_eL E = 4) {rv : Int32} {rm : ml_M} (hr : ∀ (pc pc' : Nat) (lv : List (Nat × ml_X)), ml_d cX10_fault pc .ireturn 1 pc' → True → ml_V E "LostRoom" cX10_fault 8 false rm pc lv [ml_i rv]) : ∀ (l0 : Nat) (l1 : Int32) (m : ml_M), fX10_fault l0 l1 m = some (rv, rm) → ml_V E "LostRoom" cX10_fault 8 false m 0 [(0, ml_r l0), (1, ml_i l1)] [] := by
  intro l0 l1 m h
  unfold fX10_fault at h
  exact ml_iload_n dX10_fault_0 1 rfl <| ml_b1_of h fun r309 hv308 h => ml_callS dX10_fault_1 wm_26 wb_7 (sX10_isText hv308) rfl (Nat.le_of_ble_eq_true rfl) (Nat.le_of_ble_eq_true rfl) rfl <| ml_if_ne dX10_fault_4 h (fun _ h => ml_aload_n dX10_fault_9 0 rfl <| ml_ck_of h fun hc310 h => ml_getR dX10_fault_10 wb_10 hc310 <| ml_lx (mk := ml_r) h fun a311 h => ml_iload_n dX10_fault_13 1 rfl <| ml_ck_of h fun hi312 h => ml_aald (kd := 24) dX10_fault_14 (by decide) hi312 <| ml_lx (mk := ml_r) h fun a313 h => ml_astore_n (lv' := [(2, ml_r a313), (0, ml_r l0), (1, ml_i l1)]) dX10_fault_15 (ml_hn hL rfl) rfl <| ml_aload_n dX10_fault_16 0 rfl <| ml_ifnonnull dX10_fault_17 h (fun _ h => ml_newOs dX10_fault_26 wb_58 h fun a314 m315 hn316 hc317 h => ml_dup dX10_fault_29 rfl <| ml_aload_n dX10_fault_30 0 rfl <| ml_b1_of h fun m319 hv318 h => ml_callI dX10_fault_31 wm_112 wb_59 hn316 (sX1_init hv318) rfl (Nat.le_of_ble_eq_true rfl) (Nat.le_of_ble_eq_true rfl) rfl <| ml_astore_n (lv' := [(3, ml_r a314), (2, ml_r a313), (0, ml_r l0), (1, ml_i l1)]) dX10_fault_34 (ml_hn hL rfl) rfl <| ml_aload_n dX10_fault_35 0 rfl <| ml_ck_of h fun hc321 h => ml_b1_of h fun m322 hv320 h => ml_callV dX10_fault_36 wm_116 wb_60 hc321 (sX1_read hv320) rfl (Nat.le_of_ble_eq_true rfl) (Nat.le_of_ble_eq_true rfl) rfl <| ml_aload_n dX10_fault_39 0 rfl <| ml_ck_of h fun hc323 h => ml_getI dX10_fault_40 wb_61 hc323 <| ml_rI (mk := ml_i) hr dX10_fault_43 (fun _ => trivial) h) (fun _ h => ml_aload_n dX10_fault_20 1 rfl <| ml_iconst dX10_fault_21 kc_i1 <| ml_b2_of h fun r325 m326 hv324 h => ml_callV dX10_fault_22 wm_36 wb_11 hc310 (sX10_found hv324) rfl (Nat.le_of_ble_eq_true rfl) (Nat.le_of_ble_eq_true rfl) rfl <| ml_rI (mk := ml_i) hr dX10_fault_25 (fun _ => trivial) h)) (fun _ h => ml_iconst dX10_fault_7 kc_im1 <| ml_rI (mk := ml_i) hr dX10_fault_8 (fun _ => trivial) h)
theorem sX10_fault {l0 : Nat} {l1 : Int32} {m : ml_M} {rv : Int32} {rm : ml_M} (h : fX10_fault l0 l1 m = some (rv, rm)) : ml_Sn yX10_fault cX10_fault 4 (some .int) 8 [ml_r l0, ml_i l1] m (some (ml_i rv)) rm :=
  ml_Sn_of (P := True) (ini := false) (by decide +kernel) (Nat.le_of_ble_eq_true rfl) (fun h => by cases h) (fun _ => ml_RkI rv) fun E hL hr => wX10_fault_0 hL hr _ _ _ h

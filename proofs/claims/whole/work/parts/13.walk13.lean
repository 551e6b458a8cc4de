/-! printed by wip/whole/emit.py out of the claim's own listing -/
theorem dJ6_bitCount_0f7a4_0 : ml_d cJ6_bitCount_0f7a4 0 (.iload_n 0) 1 1 := ⟨by decide +kernel, rfl⟩
theorem dJ6_bitCount_0f7a4_1 : ml_d cJ6_bitCount_0f7a4 1 (.iload_n 0) 1 2 := ⟨by decide +kernel, rfl⟩
theorem dJ6_bitCount_0f7a4_2 : ml_d cJ6_bitCount_0f7a4 2 (.iconst 1) 1 3 := ⟨by decide +kernel, rfl⟩
theorem dJ6_bitCount_0f7a4_3 : ml_d cJ6_bitCount_0f7a4 3 (.iushr) 1 4 := ⟨by decide +kernel, rfl⟩
theorem dJ6_bitCount_0f7a4_4 : ml_d cJ6_bitCount_0f7a4 4 (.ldc_w 265) 3 7 := ⟨by decide +kernel, rfl⟩
theorem dJ6_bitCount_0f7a4_7 : ml_d cJ6_bitCount_0f7a4 7 (.iand) 1 8 := ⟨by decide +kernel, rfl⟩
theorem dJ6_bitCount_0f7a4_8 : ml_d cJ6_bitCount_0f7a4 8 (.isub) 1 9 := ⟨by decide +kernel, rfl⟩
theorem dJ6_bitCount_0f7a4_9 : ml_d cJ6_bitCount_0f7a4 9 (.istore_n 0) 1 10 := ⟨by decide +kernel, rfl⟩
theorem dJ6_bitCount_0f7a4_10 : ml_d cJ6_bitCount_0f7a4 10 (.iload_n 0) 1 11 := ⟨by decide +kernel, rfl⟩
theorem dJ6_bitCount_0f7a4_11 : ml_d cJ6_bitCount_0f7a4 11 (.ldc_w 266) 3 14 := ⟨by decide +kernel, rfl⟩
theorem dJ6_bitCount_0f7a4_14 : ml_d cJ6_bitCount_0f7a4 14 (.iand) 1 15 := ⟨by decide +kernel, rfl⟩
theorem dJ6_bitCount_0f7a4_15 : ml_d cJ6_bitCount_0f7a4 15 (.iload_n 0) 1 16 := ⟨by decide +kernel, rfl⟩
theorem dJ6_bitCount_0f7a4_16 : ml_d cJ6_bitCount_0f7a4 16 (.iconst 2) 1 17 := ⟨by decide +kernel, rfl⟩
theorem dJ6_bitCount_0f7a4_17 : ml_d cJ6_bitCount_0f7a4 17 (.iushr) 1 18 := ⟨by decide +kernel, rfl⟩
theorem dJ6_bitCount_0f7a4_18 : ml_d cJ6_bitCount_0f7a4 18 (.ldc_w 266) 3 21 := ⟨by decide +kernel, rfl⟩
theorem dJ6_bitCount_0f7a4_21 : ml_d cJ6_bitCount_0f7a4 21 (.iand) 1 22 := ⟨by decide +kernel, rfl⟩
theorem dJ6_bitCount_0f7a4_22 : ml_d cJ6_bitCount_0f7a4 22 (.iadd) 1 23 := ⟨by decide +kernel, rfl⟩
theorem dJ6_bitCount_0f7a4_23 : ml_d cJ6_bitCount_0f7a4 23 (.istore_n 0) 1 24 := ⟨by decide +kernel, rfl⟩
theorem dJ6_bitCount_0f7a4_24 : ml_d cJ6_bitCount_0f7a4 24 (.iload_n 0) 1 25 := ⟨by decide +kernel, rfl⟩
theorem dJ6_bitCount_0f7a4_25 : ml_d cJ6_bitCount_0f7a4 25 (.iload_n 0) 1 26 := ⟨by decide +kernel, rfl⟩
theorem dJ6_bitCount_0f7a4_26 : ml_d cJ6_bitCount_0f7a4 26 (.iconst 4) 1 27 := ⟨by decide +kernel, rfl⟩
theorem dJ6_bitCount_0f7a4_27 : ml_d cJ6_bitCount_0f7a4 27 (.iushr) 1 28 := ⟨by decide +kernel, rfl⟩
theorem dJ6_bitCount_0f7a4_28 : ml_d cJ6_bitCount_0f7a4 28 (.iadd) 1 29 := ⟨by decide +kernel, rfl⟩
theorem dJ6_bitCount_0f7a4_29 : ml_d cJ6_bitCount_0f7a4 29 (.ldc_w 267) 3 32 := ⟨by decide +kernel, rfl⟩
theorem dJ6_bitCount_0f7a4_32 : ml_d cJ6_bitCount_0f7a4 32 (.iand) 1 33 := ⟨by decide +kernel, rfl⟩
theorem dJ6_bitCount_0f7a4_33 : ml_d cJ6_bitCount_0f7a4 33 (.istore_n 0) 1 34 := ⟨by decide +kernel, rfl⟩
theorem dJ6_bitCount_0f7a4_34 : ml_d cJ6_bitCount_0f7a4 34 (.iload_n 0) 1 35 := ⟨by decide +kernel, rfl⟩
theorem dJ6_bitCount_0f7a4_35 : ml_d cJ6_bitCount_0f7a4 35 (.iload_n 0) 1 36 := ⟨by decide +kernel, rfl⟩
theorem dJ6_bitCount_0f7a4_36 : ml_d cJ6_bitCount_0f7a4 36 (.bipush 8) 2 38 := ⟨by decide +kernel, rfl⟩
theorem dJ6_bitCount_0f7a4_38 : ml_d cJ6_bitCount_0f7a4 38 (.iushr) 1 39 := ⟨by decide +kernel, rfl⟩
theorem dJ6_bitCount_0f7a4_39 : ml_d cJ6_bitCount_0f7a4 39 (.iadd) 1 40 := ⟨by decide +kernel, rfl⟩
theorem dJ6_bitCount_0f7a4_40 : ml_d cJ6_bitCount_0f7a4 40 (.istore_n 0) 1 41 := ⟨by decide +kernel, rfl⟩
theorem dJ6_bitCount_0f7a4_41 : ml_d cJ6_bitCount_0f7a4 41 (.iload_n 0) 1 42 := ⟨by decide +kernel, rfl⟩
theorem dJ6_bitCount_0f7a4_42 : ml_d cJ6_bitCount_0f7a4 42 (.iload_n 0) 1 43 := ⟨by decide +kernel, rfl⟩
theorem dJ6_bitCount_0f7a4_43 : ml_d cJ6_bitCount_0f7a4 43 (.bipush 16) 2 45 := ⟨by decide +kernel, rfl⟩
theorem dJ6_bitCount_0f7a4_45 : ml_d cJ6_bitCount_0f7a4 45 (.iushr) 1 46 := ⟨by decide +kernel, rfl⟩
theorem dJ6_bitCount_0f7a4_46 : ml_d cJ6_bitCount_0f7a4 46 (.iadd) 1 47 := ⟨by decide +kernel, rfl⟩
theorem dJ6_bitCount_0f7a4_47 : ml_d cJ6_bitCount_0f7a4 47 (.istore_n 0) 1 48 := ⟨by decide +kernel, rfl⟩
theorem dJ6_bitCount_0f7a4_48 : ml_d cJ6_bitCount_0f7a4 48 (.iload_n 0) 1 49 := ⟨by decide +kernel, rfl⟩
theorem dJ6_bitCount_0f7a4_49 : ml_d cJ6_bitCount_0f7a4 49 (.bipush 63) 2 51 := ⟨by decide +kernel, rfl⟩
theorem dJ6_bitCount_0f7a4_51 : ml_d cJ6_bitCount_0f7a4 51 (.iand) 1 52 := ⟨by decide +kernel, rfl⟩
theorem dJ6_bitCount_0f7a4_52 : ml_d cJ6_bitCount_0f7a4 52 (.ireturn) 1 53 := ⟨by decide +kernel, rfl⟩
def fJ6_bitCount_0f7a4 (l0 : Int32) (m : ml_M) : Option Int32 :=
    ml_let (l0 - ((l0.toUInt32 >>> ((1 : Int32).toUInt32 &&& Int32.toUInt32 31)).toInt32 &&& (1431655765 : Int32))) fun x1 =>
    ml_let ((x1 &&& (858993459 : Int32)) + ((x1.toUInt32 >>> ((2 : Int32).toUInt32 &&& Int32.toUInt32 31)).toInt32 &&& (858993459 : Int32))) fun x2 =>
    ml_let ((x2 + (x2.toUInt32 >>> ((4 : Int32).toUInt32 &&& Int32.toUInt32 31)).toInt32) &&& (252645135 : Int32)) fun x3 =>
    ml_let (x3 + (x3.toUInt32 >>> ((8 : Int32).toUInt32 &&& Int32.toUInt32 31)).toInt32) fun x4 =>
    ml_let (x4 + (x4.toUInt32 >>> ((16 : Int32).toUInt32 &&& Int32.toUInt32 31)).toInt32) fun x5 =>
    some (x5 &&& (63 : Int32))
theorem wJ6_bitCount_0f7a4_0 {E : ml_E} (hL : ml_eL E = 1) {rv : Int32} {m : ml_M} (hr : ∀ (pc pc' : Nat) (lv : List (Nat × ml_X)), ml_d cJ6_bitCount_0f7a4 pc .ireturn 1 pc' → True → ml_V E "java/lang/Integer" cJ6_bitCount_0f7a4 2 false m pc lv [ml_i rv]) : ∀ (l0 : Int32), fJ6_bitCount_0f7a4 l0 m = some rv → ml_V E "java/lang/Integer" cJ6_bitCount_0f7a4 2 false m 0 [(0, ml_i l0)] [] := by
  intro l0 h
  unfold fJ6_bitCount_0f7a4 at h
  exact ml_iload_n dJ6_bitCount_0f7a4_0 0 rfl <| ml_iload_n dJ6_bitCount_0f7a4_1 0 rfl <| ml_iconst dJ6_bitCount_0f7a4_2 kc_i1 <| ml_iushr dJ6_bitCount_0f7a4_3 <| ml_ldcw dJ6_bitCount_0f7a4_4 wm_0 <| ml_iand dJ6_bitCount_0f7a4_7 <| ml_isub dJ6_bitCount_0f7a4_8 <| ml_lx (mk := ml_i) h fun x1 h => ml_istore_n (lv' := [(0, ml_i x1)]) dJ6_bitCount_0f7a4_9 (ml_hn hL rfl) rfl <| ml_iload_n dJ6_bitCount_0f7a4_10 0 rfl <| ml_ldcw dJ6_bitCount_0f7a4_11 wm_1 <| ml_iand dJ6_bitCount_0f7a4_14 <| ml_iload_n dJ6_bitCount_0f7a4_15 0 rfl <| ml_iconst dJ6_bitCount_0f7a4_16 kc_i2 <| ml_iushr dJ6_bitCount_0f7a4_17 <| ml_ldcw dJ6_bitCount_0f7a4_18 wm_1 <| ml_iand dJ6_bitCount_0f7a4_21 <| ml_iadd dJ6_bitCount_0f7a4_22 <| ml_lx (mk := ml_i) h fun x2 h => ml_istore_n (lv' := [(0, ml_i x2)]) dJ6_bitCount_0f7a4_23 (ml_hn hL rfl) rfl <| ml_iload_n dJ6_bitCount_0f7a4_24 0 rfl <| ml_iload_n dJ6_bitCount_0f7a4_25 0 rfl <| ml_iconst dJ6_bitCount_0f7a4_26 kc_i4 <| ml_iushr dJ6_bitCount_0f7a4_27 <| ml_iadd dJ6_bitCount_0f7a4_28 <| ml_ldcw dJ6_bitCount_0f7a4_29 wm_2 <| ml_iand dJ6_bitCount_0f7a4_32 <| ml_lx (mk := ml_i) h fun x3 h => ml_istore_n (lv' := [(0, ml_i x3)]) dJ6_bitCount_0f7a4_33 (ml_hn hL rfl) rfl <| ml_iload_n dJ6_bitCount_0f7a4_34 0 rfl <| ml_iload_n dJ6_bitCount_0f7a4_35 0 rfl <| ml_bipush dJ6_bitCount_0f7a4_36 kc_b8 <| ml_iushr dJ6_bitCount_0f7a4_38 <| ml_iadd dJ6_bitCount_0f7a4_39 <| ml_lx (mk := ml_i) h fun x4 h => ml_istore_n (lv' := [(0, ml_i x4)]) dJ6_bitCount_0f7a4_40 (ml_hn hL rfl) rfl <| ml_iload_n dJ6_bitCount_0f7a4_41 0 rfl <| ml_iload_n dJ6_bitCount_0f7a4_42 0 rfl <| ml_bipush dJ6_bitCount_0f7a4_43 kc_b16 <| ml_iushr dJ6_bitCount_0f7a4_45 <| ml_iadd dJ6_bitCount_0f7a4_46 <| ml_lx (mk := ml_i) h fun x5 h => ml_istore_n (lv' := [(0, ml_i x5)]) dJ6_bitCount_0f7a4_47 (ml_hn hL rfl) rfl <| ml_iload_n dJ6_bitCount_0f7a4_48 0 rfl <| ml_bipush dJ6_bitCount_0f7a4_49 kc_b63 <| ml_iand dJ6_bitCount_0f7a4_51 <| ml_rp (mk := ml_i) hr dJ6_bitCount_0f7a4_52 (fun _ => trivial) h
theorem sJ6_bitCount_0f7a4 {l0 : Int32} {m : ml_M} {rv : Int32} (h : fJ6_bitCount_0f7a4 l0 m = some rv) : ml_Sn yJ6_bitCount_0f7a4 cJ6_bitCount_0f7a4 1 (some .int) 2 [ml_i l0] m (some (ml_i rv)) m :=
  ml_Sn_of (P := True) (ini := false) (by decide +kernel) (Nat.le_of_ble_eq_true rfl) (fun h => by cases h) (fun _ => ml_RkI rv) fun E hL hr => wJ6_bitCount_0f7a4_0 hL hr _ h
theorem dJ7_copyOf_59c91_0 : ml_d cJ7_copyOf_59c91 0 (.iload_n 1) 1 1 := ⟨by decide +kernel, rfl⟩
theorem dJ7_copyOf_59c91_1 : ml_d cJ7_copyOf_59c91 1 (.aload_n 0) 1 2 := ⟨by decide +kernel, rfl⟩
theorem dJ7_copyOf_59c91_2 : ml_d cJ7_copyOf_59c91 2 (.arraylength) 1 3 := ⟨by decide +kernel, rfl⟩
theorem dJ7_copyOf_59c91_3 : ml_j cJ7_copyOf_59c91 3 (.if_icmp .ne) 14 6 := ⟨11, by decide +kernel, by decide, rfl⟩
theorem dJ7_copyOf_59c91_6 : ml_d cJ7_copyOf_59c91 6 (.aload_n 0) 1 7 := ⟨by decide +kernel, rfl⟩
theorem dJ7_copyOf_59c91_7 : ml_d cJ7_copyOf_59c91 7 (.invokevirtual 316) 3 10 := ⟨by decide +kernel, rfl⟩
theorem dJ7_copyOf_59c91_10 : ml_d cJ7_copyOf_59c91 10 (.checkcast 317) 3 13 := ⟨by decide +kernel, rfl⟩
theorem dJ7_copyOf_59c91_13 : ml_d cJ7_copyOf_59c91 13 (.areturn) 1 14 := ⟨by decide +kernel, rfl⟩
theorem dJ7_copyOf_59c91_14 : ml_d cJ7_copyOf_59c91 14 (.iload_n 1) 1 15 := ⟨by decide +kernel, rfl⟩
theorem dJ7_copyOf_59c91_15 : ml_d cJ7_copyOf_59c91 15 (.newarray .int) 2 17 := ⟨by decide +kernel, rfl⟩
theorem dJ7_copyOf_59c91_17 : ml_d cJ7_copyOf_59c91 17 (.astore_n 2) 1 18 := ⟨by decide +kernel, rfl⟩
theorem dJ7_copyOf_59c91_18 : ml_d cJ7_copyOf_59c91 18 (.aload_n 0) 1 19 := ⟨by decide +kernel, rfl⟩
theorem dJ7_copyOf_59c91_19 : ml_d cJ7_copyOf_59c91 19 (.iconst 0) 1 20 := ⟨by decide +kernel, rfl⟩
theorem dJ7_copyOf_59c91_20 : ml_d cJ7_copyOf_59c91 20 (.aload_n 2) 1 21 := ⟨by decide +kernel, rfl⟩
theorem dJ7_copyOf_59c91_21 : ml_d cJ7_copyOf_59c91 21 (.iconst 0) 1 22 := ⟨by decide +kernel, rfl⟩
theorem dJ7_copyOf_59c91_22 : ml_d cJ7_copyOf_59c91 22 (.aload_n 0) 1 23 := ⟨by decide +kernel, rfl⟩
theorem dJ7_copyOf_59c91_23 : ml_d cJ7_copyOf_59c91 23 (.arraylength) 1 24 := ⟨by decide +kernel, rfl⟩
theorem dJ7_copyOf_59c91_24 : ml_d cJ7_copyOf_59c91 24 (.iload_n 1) 1 25 := ⟨by decide +kernel, rfl⟩
theorem dJ7_copyOf_59c91_25 : ml_d cJ7_copyOf_59c91 25 (.invokestatic 304) 3 28 := ⟨by decide +kernel, rfl⟩
theorem dJ7_copyOf_59c91_28 : ml_d cJ7_copyOf_59c91 28 (.invokestatic 150) 3 31 := ⟨by decide +kernel, rfl⟩
theorem dJ7_copyOf_59c91_31 : ml_d cJ7_copyOf_59c91 31 (.aload_n 2) 1 32 := ⟨by decide +kernel, rfl⟩
theorem dJ7_copyOf_59c91_32 : ml_d cJ7_copyOf_59c91 32 (.areturn) 1 33 := ⟨by decide +kernel, rfl⟩
def fJ7_copyOf_59c91 (l0 : Nat) (l1 : Int32) (m : ml_M) : Option (Nat × ml_M) :=
    if (ml_K m l0).1 = 20 then
    if l1 = (Int32.ofNat (ml_K m l0).2) then
    ml_let (ml_n m + 1) fun a16 =>
    ml_let (ml_cl2 m l0) fun m17 =>
    some (a16, m17)
    else
    if ml_len l1 then
    ml_let (ml_n m + 1) fun a8 =>
    ml_let (ml_al m 20 l1.toNatClampNeg l1.toNatClampNeg) fun m9 =>
    if (ml_K m9 l0).1 = 20 then
    if ml_cpo m9 l0 a8 (0 : Int32) (0 : Int32) (if l1 < (Int32.ofNat (ml_K m9 l0).2) then l1 else (Int32.ofNat (ml_K m9 l0).2)) then
    ml_let (ml_cp m9 l0 (0 : Int32).toNatClampNeg a8 (0 : Int32).toNatClampNeg (if l1 < (Int32.ofNat (ml_K m9 l0).2) then l1 else (Int32.ofNat (ml_K m9 l0).2)).toNatClampNeg) fun m14 =>
    some (a8, m14)
    else none
    else none
    else none
    else none
theorem wJ7_copyOf_59c91_0 {E : ml_E} (hL : ml_eL E = 3) {rv : Nat} {rm : ml_M} (hr : ∀ (pc pc' : Nat) (lv : List (Nat × ml_X)), ml_d cJ7_copyOf_59c91 pc .areturn 1 pc' → True → ml_V E "java/util/Arrays" cJ7_copyOf_59c91 2 false rm pc lv [ml_r rv]) : ∀ (l0 : Nat) (l1 : Int32) (m : ml_M), fJ7_copyOf_59c91 l0 l1 m = some (rv, rm) → ml_V E "java/util/Arrays" cJ7_copyOf_59c91 2 false m 0 [(0, ml_r l0), (1, ml_i l1)] [] := by
  intro l0 l1 m h
  unfold fJ7_copyOf_59c91 at h
  exact ml_iload_n dJ7_copyOf_59c91_0 1 rfl <| ml_aload_n dJ7_copyOf_59c91_1 0 rfl <| ml_ck_of h fun hc6 h => ml_alen (kd := 20) dJ7_copyOf_59c91_2 (by decide) hc6 <| ml_icmp_ne dJ7_copyOf_59c91_3 h (fun _ h => ml_iload_n dJ7_copyOf_59c91_14 1 rfl <| ml_ck_of h fun hl7 h => ml_newAs (kd := 20) dJ7_copyOf_59c91_15 wb_0 hl7 h fun a8 m9 hn10 hc11 h => ml_astore_n (lv' := [(2, ml_r a8), (0, ml_r l0), (1, ml_i l1)]) dJ7_copyOf_59c91_17 (ml_hn hL rfl) rfl <| ml_aload_n dJ7_copyOf_59c91_18 1 rfl <| ml_iconst dJ7_copyOf_59c91_19 kc_i0 <| ml_aload_n dJ7_copyOf_59c91_20 0 rfl <| ml_iconst dJ7_copyOf_59c91_21 kc_i0 <| ml_aload_n dJ7_copyOf_59c91_22 1 rfl <| ml_ck_of h fun hc12 h => ml_alen (kd := 20) dJ7_copyOf_59c91_23 (by decide) hc12 <| ml_iload_n dJ7_copyOf_59c91_24 2 rfl <| ml_mmin dJ7_copyOf_59c91_25 wb_1 (Nat.le_of_ble_eq_true rfl) (Nat.le_of_ble_eq_true rfl) <| ml_ck_of h fun ho13 h => ml_copys dJ7_copyOf_59c91_28 wb_2 (Nat.le_of_ble_eq_true rfl) (Nat.le_of_ble_eq_true rfl) ho13 h fun m14 em15 h => ml_aload_n dJ7_copyOf_59c91_31 0 rfl <| ml_rI (mk := ml_r) hr dJ7_copyOf_59c91_32 (fun _ => trivial) h) (fun _ h => ml_aload_n dJ7_copyOf_59c91_6 0 rfl <| ml_clones dJ7_copyOf_59c91_7 wb_3 (Nat.le_of_ble_eq_true rfl) (Nat.le_of_ble_eq_true rfl) hc6 h fun a16 m17 hn18 hc19 h => ml_cast dJ7_copyOf_59c91_10 wm_17 hc19 <| ml_rI (mk := ml_r) hr dJ7_copyOf_59c91_13 (fun _ => trivial) h)
theorem sJ7_copyOf_59c91 {l0 : Nat} {l1 : Int32} {m : ml_M} {rv : Nat} {rm : ml_M} (h : fJ7_copyOf_59c91 l0 l1 m = some (rv, rm)) : ml_Sn yJ7_copyOf_59c91 cJ7_copyOf_59c91 3 (some (.array .int)) 2 [ml_r l0, ml_i l1] m (some (ml_r rv)) rm :=
  ml_Sn_of (P := True) (ini := false) (by decide +kernel) (Nat.le_of_ble_eq_true rfl) (fun h => by cases h) (fun _ => ml_RkA (Or.inr ⟨_, rfl⟩) rv) fun E hL hr => wJ7_copyOf_59c91_0 hL hr _ _ _ h
theorem dJ7_fill_031fb_0 : ml_d cJ7_fill_031fb 0 (.iconst 0) 1 1 := ⟨by decide +kernel, rfl⟩
theorem dJ7_fill_031fb_1 : ml_d cJ7_fill_031fb 1 (.istore_n 2) 1 2 := ⟨by decide +kernel, rfl⟩
theorem dJ7_fill_031fb_2 : ml_d cJ7_fill_031fb 2 (.aload_n 0) 1 3 := ⟨by decide +kernel, rfl⟩
theorem dJ7_fill_031fb_3 : ml_d cJ7_fill_031fb 3 (.arraylength) 1 4 := ⟨by decide +kernel, rfl⟩
theorem dJ7_fill_031fb_4 : ml_d cJ7_fill_031fb 4 (.istore_n 3) 1 5 := ⟨by decide +kernel, rfl⟩
theorem dJ7_fill_031fb_5 : ml_d cJ7_fill_031fb 5 (.iload_n 2) 1 6 := ⟨by decide +kernel, rfl⟩
theorem dJ7_fill_031fb_6 : ml_d cJ7_fill_031fb 6 (.iload_n 3) 1 7 := ⟨by decide +kernel, rfl⟩
theorem dJ7_fill_031fb_7 : ml_j cJ7_fill_031fb 7 (.if_icmp .ge) 20 10 := ⟨13, by decide +kernel, by decide, rfl⟩
theorem dJ7_fill_031fb_10 : ml_d cJ7_fill_031fb 10 (.aload_n 0) 1 11 := ⟨by decide +kernel, rfl⟩
theorem dJ7_fill_031fb_11 : ml_d cJ7_fill_031fb 11 (.iload_n 2) 1 12 := ⟨by decide +kernel, rfl⟩
theorem dJ7_fill_031fb_12 : ml_d cJ7_fill_031fb 12 (.iload_n 1) 1 13 := ⟨by decide +kernel, rfl⟩
theorem dJ7_fill_031fb_13 : ml_d cJ7_fill_031fb 13 (.bastore) 1 14 := ⟨by decide +kernel, rfl⟩
theorem dJ7_fill_031fb_14 : ml_d cJ7_fill_031fb 14 (.iinc 2 1) 3 17 := ⟨by decide +kernel, rfl⟩
theorem dJ7_fill_031fb_17 : ml_j cJ7_fill_031fb 17 .goto 5 20 := ⟨(-12), by decide +kernel, by decide, rfl⟩
theorem dJ7_fill_031fb_20 : ml_d cJ7_fill_031fb 20 (.return_) 1 21 := ⟨by decide +kernel, rfl⟩
def fJ7_fill_031fb_5 : Nat → Nat → Int32 → Int32 → Int32 → ml_M → Option ml_M
  | 0, _, _, _, _, _ => none
  | fu + 1, l0, l1, l2, l3, m =>
    if l3 ≤ l2 then
    some m
    else
    if ml_in m l0 21 l2 then
    ml_let (ml_sI m l0 l2.toNatClampNeg l1.toInt8.toInt32) fun m21 =>
    (fJ7_fill_031fb_5 fu) l0 l1 (l2 + (1 : Int32)) l3 m21
    else none
theorem vJ7_fill_031fb_5 {E : ml_E} (hL : ml_eL E = 4) {rm : ml_M} (hr : ∀ (pc pc' : Nat) (lv : List (Nat × ml_X)), ml_d cJ7_fill_031fb pc .return_ 1 pc' → True → ml_V E "java/util/Arrays" cJ7_fill_031fb 2 false rm pc lv []) : ∀ (fu : Nat) (l0 : Nat) (l1 : Int32) (l2 : Int32) (l3 : Int32) (m : ml_M), fJ7_fill_031fb_5 fu l0 l1 l2 l3 m = some rm → ml_V E "java/util/Arrays" cJ7_fill_031fb 2 false m 5 [(0, ml_r l0), (1, ml_i l1), (2, ml_i l2), (3, ml_i l3)] [] := by
  intro fu
  induction fu with
  | zero => intro l0 l1 l2 l3 m h; exact ml_none h
  | succ fu ih =>
    intro l0 l1 l2 l3 m h
    have hk5 := ih
    unfold fJ7_fill_031fb_5 at h
    exact ml_iload_n dJ7_fill_031fb_5 2 rfl <| ml_iload_n dJ7_fill_031fb_6 3 rfl <| ml_icmp_ge dJ7_fill_031fb_7 h (fun _ h => ml_rv hr dJ7_fill_031fb_20 trivial h) (fun _ h => ml_aload_n dJ7_fill_031fb_10 0 rfl <| ml_iload_n dJ7_fill_031fb_11 2 rfl <| ml_iload_n dJ7_fill_031fb_12 1 rfl <| ml_ck_of h fun hi20 h => ml_bast dJ7_fill_031fb_13 hi20 <| ml_lt (m := m) rfl h fun m21 em22 h => ml_iinc (lv' := [(2, ml_i (l2 + (1 : Int32))), (0, ml_r l0), (1, ml_i l1), (3, ml_i l3)]) dJ7_fill_031fb_14 2 rfl (congrArg (l2 + ·) kc_i1) (ml_hn hL rfl) rfl <| ml_goto dJ7_fill_031fb_17 <| ml_V.sub [1, 2, 0, 3] rfl (hk5 _ _ _ _ _ h))
def fJ7_fill_031fb (l0 : Nat) (l1 : Int32) (m : ml_M) : Option ml_M :=
    if (ml_K m l0).1 = 21 then
    ml_let (Int32.ofNat (ml_K m l0).2) fun x24 =>
    fJ7_fill_031fb_5 ml_fu l0 l1 (0 : Int32) x24 m
    else none
theorem wJ7_fill_031fb_0 {E : ml_E} (hL : ml_eL E = 4) {rm : ml_M} (hr : ∀ (pc pc' : Nat) (lv : List (Nat × ml_X)), ml_d cJ7_fill_031fb pc .return_ 1 pc' → True → ml_V E "java/util/Arrays" cJ7_fill_031fb 2 false rm pc lv []) : ∀ (l0 : Nat) (l1 : Int32) (m : ml_M), fJ7_fill_031fb l0 l1 m = some rm → ml_V E "java/util/Arrays" cJ7_fill_031fb 2 false m 0 [(0, ml_r l0), (1, ml_i l1)] [] := by
  intro l0 l1 m h
  unfold fJ7_fill_031fb at h
  exact ml_iconst dJ7_fill_031fb_0 kc_i0 <| ml_istore_n (lv' := [(2, ml_i (0 : Int32)), (0, ml_r l0), (1, ml_i l1)]) dJ7_fill_031fb_1 (ml_hn hL rfl) rfl <| ml_aload_n dJ7_fill_031fb_2 1 rfl <| ml_ck_of h fun hc23 h => ml_alen (kd := 21) dJ7_fill_031fb_3 (by decide) hc23 <| ml_lx (mk := ml_i) h fun x24 h => ml_istore_n (lv' := [(3, ml_i x24), (2, ml_i (0 : Int32)), (0, ml_r l0), (1, ml_i l1)]) dJ7_fill_031fb_4 (ml_hn hL rfl) rfl <| ml_V.sub [2, 3, 1, 0] rfl (vJ7_fill_031fb_5 hL hr  ml_fu _ _ _ _ _ h)
theorem sJ7_fill_031fb {l0 : Nat} {l1 : Int32} {m : ml_M} {rm : ml_M} (h : fJ7_fill_031fb l0 l1 m = some rm) : ml_Sn yJ7_fill_031fb cJ7_fill_031fb 4 none 2 [ml_r l0, ml_i l1] m none rm :=
  ml_Sn_of (P := True) (ini := false) (by decide +kernel) (Nat.le_of_ble_eq_true rfl) (fun h => by cases h) (fun _ => ml_RkV) fun E hL hr => wJ7_fill_031fb_0 hL hr _ _ _ h
theorem dJ7_fill_53178_0 : ml_d cJ7_fill_53178 0 (.iconst 0) 1 1 := ⟨by decide +kernel, rfl⟩
theorem dJ7_fill_53178_1 : ml_d cJ7_fill_53178 1 (.istore_n 2) 1 2 := ⟨by decide +kernel, rfl⟩
theorem dJ7_fill_53178_2 : ml_d cJ7_fill_53178 2 (.aload_n 0) 1 3 := ⟨by decide +kernel, rfl⟩
theorem dJ7_fill_53178_3 : ml_d cJ7_fill_53178 3 (.arraylength) 1 4 := ⟨by decide +kernel, rfl⟩
theorem dJ7_fill_53178_4 : ml_d cJ7_fill_53178 4 (.istore_n 3) 1 5 := ⟨by decide +kernel, rfl⟩
theorem dJ7_fill_53178_5 : ml_d cJ7_fill_53178 5 (.iload_n 2) 1 6 := ⟨by decide +kernel, rfl⟩
theorem dJ7_fill_53178_6 : ml_d cJ7_fill_53178 6 (.iload_n 3) 1 7 := ⟨by decide +kernel, rfl⟩
theorem dJ7_fill_53178_7 : ml_j cJ7_fill_53178 7 (.if_icmp .ge) 20 10 := ⟨13, by decide +kernel, by decide, rfl⟩
theorem dJ7_fill_53178_10 : ml_d cJ7_fill_53178 10 (.aload_n 0) 1 11 := ⟨by decide +kernel, rfl⟩
theorem dJ7_fill_53178_11 : ml_d cJ7_fill_53178 11 (.iload_n 2) 1 12 := ⟨by decide +kernel, rfl⟩
theorem dJ7_fill_53178_12 : ml_d cJ7_fill_53178 12 (.iload_n 1) 1 13 := ⟨by decide +kernel, rfl⟩
theorem dJ7_fill_53178_13 : ml_d cJ7_fill_53178 13 (.iastore) 1 14 := ⟨by decide +kernel, rfl⟩
theorem dJ7_fill_53178_14 : ml_d cJ7_fill_53178 14 (.iinc 2 1) 3 17 := ⟨by decide +kernel, rfl⟩
theorem dJ7_fill_53178_17 : ml_j cJ7_fill_53178 17 .goto 5 20 := ⟨(-12), by decide +kernel, by decide, rfl⟩
theorem dJ7_fill_53178_20 : ml_d cJ7_fill_53178 20 (.return_) 1 21 := ⟨by decide +kernel, rfl⟩
def fJ7_fill_53178_5 : Nat → Nat → Int32 → Int32 → Int32 → ml_M → Option ml_M
  | 0, _, _, _, _, _ => none
  | fu + 1, l0, l1, l2, l3, m =>
    if l3 ≤ l2 then
    some m
    else
    if ml_in m l0 20 l2 then
    ml_let (ml_sI m l0 l2.toNatClampNeg l1) fun m26 =>
    (fJ7_fill_53178_5 fu) l0 l1 (l2 + (1 : Int32)) l3 m26
    else none
theorem vJ7_fill_53178_5 {E : ml_E} (hL : ml_eL E = 4) {rm : ml_M} (hr : ∀ (pc pc' : Nat) (lv : List (Nat × ml_X)), ml_d cJ7_fill_53178 pc .return_ 1 pc' → True → ml_V E "java/util/Arrays" cJ7_fill_53178 2 false rm pc lv []) : ∀ (fu : Nat) (l0 : Nat) (l1 : Int32) (l2 : Int32) (l3 : Int32) (m : ml_M), fJ7_fill_53178_5 fu l0 l1 l2 l3 m = some rm → ml_V E "java/util/Arrays" cJ7_fill_53178 2 false m 5 [(0, ml_r l0), (1, ml_i l1), (2, ml_i l2), (3, ml_i l3)] [] := by
  intro fu
  induction fu with
  | zero => intro l0 l1 l2 l3 m h; exact ml_none h
  | succ fu ih =>
    intro l0 l1 l2 l3 m h
    have hk5 := ih
    unfold fJ7_fill_53178_5 at h
    exact ml_iload_n dJ7_fill_53178_5 2 rfl <| ml_iload_n dJ7_fill_53178_6 3 rfl <| ml_icmp_ge dJ7_fill_53178_7 h (fun _ h => ml_rv hr dJ7_fill_53178_20 trivial h) (fun _ h => ml_aload_n dJ7_fill_53178_10 0 rfl <| ml_iload_n dJ7_fill_53178_11 2 rfl <| ml_iload_n dJ7_fill_53178_12 1 rfl <| ml_ck_of h fun hi25 h => ml_iast dJ7_fill_53178_13 hi25 <| ml_lt (m := m) rfl h fun m26 em27 h => ml_iinc (lv' := [(2, ml_i (l2 + (1 : Int32))), (0, ml_r l0), (1, ml_i l1), (3, ml_i l3)]) dJ7_fill_53178_14 2 rfl (congrArg (l2 + ·) kc_i1) (ml_hn hL rfl) rfl <| ml_goto dJ7_fill_53178_17 <| ml_V.sub [1, 2, 0, 3] rfl (hk5 _ _ _ _ _ h))
def fJ7_fill_53178 (l0 : Nat) (l1 : Int32) (m : ml_M) : Option ml_M :=
    if (ml_K m l0).1 = 20 then
    ml_let (Int32.ofNat (ml_K m l0).2) fun x29 =>
    fJ7_fill_53178_5 ml_fu l0 l1 (0 : Int32) x29 m
    else none
theorem wJ7_fill_53178_0 {E : ml_E} (hL : ml_eL E = 4) {rm : ml_M} (hr : ∀ (pc pc' : Nat) (lv : List (Nat × ml_X)), ml_d cJ7_fill_53178 pc .return_ 1 pc' → True → ml_V E "java/util/Arrays" cJ7_fill_53178 2 false rm pc lv []) : ∀ (l0 : Nat) (l1 : Int32) (m : ml_M), fJ7_fill_53178 l0 l1 m = some rm → ml_V E "java/util/Arrays" cJ7_fill_53178 2 false m 0 [(0, ml_r l0), (1, ml_i l1)] [] := by
  intro l0 l1 m h
  unfold fJ7_fill_53178 at h
  exact ml_iconst dJ7_fill_53178_0 kc_i0 <| ml_istore_n (lv' := [(2, ml_i (0 : Int32)), (0, ml_r l0), (1, ml_i l1)]) dJ7_fill_53178_1 (ml_hn hL rfl) rfl <| ml_aload_n dJ7_fill_53178_2 1 rfl <| ml_ck_of h fun hc28 h => ml_alen (kd := 20) dJ7_fill_53178_3 (by decide) hc28 <| ml_lx (mk := ml_i) h fun x29 h => ml_istore_n (lv' := [(3, ml_i x29), (2, ml_i (0 : Int32)), (0, ml_r l0), (1, ml_i l1)]) dJ7_fill_53178_4 (ml_hn hL rfl) rfl <| ml_V.sub [2, 3, 1, 0] rfl (vJ7_fill_53178_5 hL hr  ml_fu _ _ _ _ _ h)
theorem sJ7_fill_53178 {l0 : Nat} {l1 : Int32} {m : ml_M} {rm : ml_M} (h : fJ7_fill_53178 l0 l1 m = some rm) : ml_Sn yJ7_fill_53178 cJ7_fill_53178 4 none 2 [ml_r l0, ml_i l1] m none rm :=
  ml_Sn_of (P := True) (ini := false) (by decide +kernel) (Nat.le_of_ble_eq_true rfl) (fun h => by cases h) (fun _ => ml_RkV) fun E hL hr => wJ7_fill_53178_0 hL hr _ _ _ h
theorem dX1_init_0 : ml_d cX1_init 0 (.aload_n 0) 1 1 := ⟨by decide +kernel, rfl⟩
theorem dX1_init_1 : ml_d cX1_init 1 (.invokespecial 3) 3 4 := ⟨by decide +kernel, rfl⟩
theorem dX1_init_4 : ml_d cX1_init 4 (.aload_n 0) 1 5 := ⟨by decide +kernel, rfl⟩
theorem dX1_init_5 : ml_d cX1_init 5 (.bipush 8) 2 7 := ⟨by decide +kernel, rfl⟩
theorem dX1_init_7 : ml_d cX1_init 7 (.anewarray 9) 3 10 := ⟨by decide +kernel, rfl⟩
theorem dX1_init_10 : ml_d cX1_init 10 (.putfield 11) 3 13 := ⟨by decide +kernel, rfl⟩
theorem dX1_init_13 : ml_d cX1_init 13 (.aload_n 0) 1 14 := ⟨by decide +kernel, rfl⟩
theorem dX1_init_14 : ml_d cX1_init 14 (.bipush 8) 2 16 := ⟨by decide +kernel, rfl⟩
theorem dX1_init_16 : ml_d cX1_init 16 (.anewarray 17) 3 19 := ⟨by decide +kernel, rfl⟩
theorem dX1_init_19 : ml_d cX1_init 19 (.putfield 19) 3 22 := ⟨by decide +kernel, rfl⟩
theorem dX1_init_22 : ml_d cX1_init 22 (.aload_n 0) 1 23 := ⟨by decide +kernel, rfl⟩
theorem dX1_init_23 : ml_d cX1_init 23 (.bipush (-9)) 2 25 := ⟨by decide +kernel, rfl⟩
theorem dX1_init_25 : ml_d cX1_init 25 (.putfield 23) 3 28 := ⟨by decide +kernel, rfl⟩
theorem dX1_init_28 : ml_d cX1_init 28 (.aload_n 0) 1 29 := ⟨by decide +kernel, rfl⟩
theorem dX1_init_29 : ml_d cX1_init 29 (.aload_n 1) 1 30 := ⟨by decide +kernel, rfl⟩
theorem dX1_init_30 : ml_d cX1_init 30 (.putfield 27) 3 33 := ⟨by decide +kernel, rfl⟩
theorem dX1_init_33 : ml_d cX1_init 33 (.return_) 1 34 := ⟨by decide +kernel, rfl⟩
def fX1_init (l0 : Nat) (l1 : Nat) (m : ml_M) : Option ml_M :=
    if l0 ≠ 0 then
    ml_let (ml_n m + 1) fun a31 =>
    ml_let (ml_al m 28 (8 : Int32).toNatClampNeg (8 : Int32).toNatClampNeg) fun m32 =>
    if (ml_K m32 l0).1 = 1 then
    ml_let (ml_sR m32 l0 0 a31) fun m36 =>
    ml_let (ml_n m36 + 1) fun a38 =>
    ml_let (ml_al m36 30 (8 : Int32).toNatClampNeg (8 : Int32).toNatClampNeg) fun m39 =>
    if (ml_K m39 l0).1 = 1 then
    ml_let (ml_sR m39 l0 1 a38) fun m43 =>
    ml_let (ml_sI m43 l0 4 (-9 : Int32)) fun m45 =>
    ml_let (ml_sR m45 l0 6 l1) fun m47 =>
    some m47
    else none
    else none
    else none
theorem wX1_init_0 {E : ml_E} (hL : ml_eL E = 2) {rm : ml_M} (hr : ∀ (pc pc' : Nat) (lv : List (Nat × ml_X)), ml_d cX1_init pc .return_ 1 pc' → True → ml_V E "LostRoom$Book" cX1_init 2 true rm pc lv []) : ∀ (l0 : Nat) (l1 : Nat) (m : ml_M), fX1_init l0 l1 m = some rm → ml_V E "LostRoom$Book" cX1_init 2 true m 0 [(0, ml_r l0), (1, ml_r l1)] [] := by
  intro l0 l1 m h
  unfold fX1_init at h
  exact ml_aload_n dX1_init_0 0 rfl <| ml_ck_of h fun hz30 h => ml_objInit dX1_init_1 wb_4 (Nat.le_of_ble_eq_true rfl) (Nat.le_of_ble_eq_true rfl) hz30 <| ml_aload_n dX1_init_4 0 rfl <| ml_bipush dX1_init_5 kc_b8 <| ml_newQs (c9 := "LostRoom$Lodger") (kd := 28) dX1_init_7 wb_5 (by decide) h fun a31 m32 hn33 hc34 h => ml_ck_of h fun hc35 h => ml_putR dX1_init_10 wb_6 hc35 <| ml_lt (m := m32) rfl h fun m36 em37 h => ml_aload_n dX1_init_13 0 rfl <| ml_bipush dX1_init_14 kc_b8 <| ml_newQs (c9 := "LostRoom$Trunk") (kd := 30) dX1_init_16 wb_7 (by decide) h fun a38 m39 hn40 hc41 h => ml_ck_of h fun hc42 h => ml_putR dX1_init_19 wb_8 hc42 <| ml_lt (m := m39) rfl h fun m43 em44 h => ml_aload_n dX1_init_22 0 rfl <| ml_bipush dX1_init_23 kc_bm9 <| ml_putI dX1_init_25 wb_9 (ml_kk em44 hc42) <| ml_lt (m := m43) rfl h fun m45 em46 h => ml_aload_n dX1_init_28 0 rfl <| ml_aload_n dX1_init_29 1 rfl <| ml_putR dX1_init_30 wb_10 (ml_kk em46 (ml_kk em44 hc42)) <| ml_lt (m := m45) rfl h fun m47 em48 h => ml_rv hr dX1_init_33 trivial h
theorem sX1_init {l0 : Nat} {l1 : Nat} {m : ml_M} {rm : ml_M} (h : fX1_init l0 l1 m = some rm) : ml_Sn yX1_init cX1_init 2 none 2 [ml_r l0, ml_r l1] m none rm :=
  ml_Sn_of (P := True) (ini := true) (by decide +kernel) (Nat.le_of_ble_eq_true rfl) (fun _ => rfl) (fun _ => ml_RkV) fun E hL hr => wX1_init_0 hL hr _ _ _ h
theorem dX7_init_0 : ml_d cX7_init 0 (.aload_n 0) 1 1 := ⟨by decide +kernel, rfl⟩
theorem dX7_init_1 : ml_d cX7_init 1 (.invokespecial 3) 3 4 := ⟨by decide +kernel, rfl⟩
theorem dX7_init_4 : ml_d cX7_init 4 (.aload_n 0) 1 5 := ⟨by decide +kernel, rfl⟩
theorem dX7_init_5 : ml_d cX7_init 5 (.iconst 1) 1 6 := ⟨by decide +kernel, rfl⟩
theorem dX7_init_6 : ml_d cX7_init 6 (.putfield 9) 3 9 := ⟨by decide +kernel, rfl⟩
theorem dX7_init_9 : ml_d cX7_init 9 (.aload_n 0) 1 10 := ⟨by decide +kernel, rfl⟩
theorem dX7_init_10 : ml_d cX7_init 10 (.bipush 8) 2 12 := ⟨by decide +kernel, rfl⟩
theorem dX7_init_12 : ml_d cX7_init 12 (.newarray .int) 2 14 := ⟨by decide +kernel, rfl⟩
theorem dX7_init_14 : ml_d cX7_init 14 (.putfield 15) 3 17 := ⟨by decide +kernel, rfl⟩
theorem dX7_init_17 : ml_d cX7_init 17 (.aload_n 0) 1 18 := ⟨by decide +kernel, rfl⟩
theorem dX7_init_18 : ml_d cX7_init 18 (.bipush 21) 2 20 := ⟨by decide +kernel, rfl⟩
theorem dX7_init_20 : ml_d cX7_init 20 (.newarray .int) 2 22 := ⟨by decide +kernel, rfl⟩
theorem dX7_init_22 : ml_d cX7_init 22 (.putfield 19) 3 25 := ⟨by decide +kernel, rfl⟩
theorem dX7_init_25 : ml_d cX7_init 25 (.aload_n 0) 1 26 := ⟨by decide +kernel, rfl⟩
theorem dX7_init_26 : ml_d cX7_init 26 (.sipush 1344) 3 29 := ⟨by decide +kernel, rfl⟩
theorem dX7_init_29 : ml_d cX7_init 29 (.newarray .int) 2 31 := ⟨by decide +kernel, rfl⟩
theorem dX7_init_31 : ml_d cX7_init 31 (.putfield 22) 3 34 := ⟨by decide +kernel, rfl⟩
theorem dX7_init_34 : ml_d cX7_init 34 (.aload_n 0) 1 35 := ⟨by decide +kernel, rfl⟩
theorem dX7_init_35 : ml_d cX7_init 35 (.bipush 64) 2 37 := ⟨by decide +kernel, rfl⟩
theorem dX7_init_37 : ml_d cX7_init 37 (.newarray .int) 2 39 := ⟨by decide +kernel, rfl⟩
theorem dX7_init_39 : ml_d cX7_init 39 (.putfield 25) 3 42 := ⟨by decide +kernel, rfl⟩
theorem dX7_init_42 : ml_d cX7_init 42 (.aload_n 0) 1 43 := ⟨by decide +kernel, rfl⟩
theorem dX7_init_43 : ml_d cX7_init 43 (.sipush 256) 3 46 := ⟨by decide +kernel, rfl⟩
theorem dX7_init_46 : ml_d cX7_init 46 (.newarray .boolean) 2 48 := ⟨by decide +kernel, rfl⟩
theorem dX7_init_48 : ml_d cX7_init 48 (.putfield 28) 3 51 := ⟨by decide +kernel, rfl⟩
theorem dX7_init_51 : ml_d cX7_init 51 (.aload_n 0) 1 52 := ⟨by decide +kernel, rfl⟩
theorem dX7_init_52 : ml_d cX7_init 52 (.bipush 8) 2 54 := ⟨by decide +kernel, rfl⟩
theorem dX7_init_54 : ml_d cX7_init 54 (.newarray .int) 2 56 := ⟨by decide +kernel, rfl⟩
theorem dX7_init_56 : ml_d cX7_init 56 (.putfield 32) 3 59 := ⟨by decide +kernel, rfl⟩
theorem dX7_init_59 : ml_d cX7_init 59 (.aload_n 0) 1 60 := ⟨by decide +kernel, rfl⟩
theorem dX7_init_60 : ml_d cX7_init 60 (.bipush 8) 2 62 := ⟨by decide +kernel, rfl⟩
theorem dX7_init_62 : ml_d cX7_init 62 (.newarray .int) 2 64 := ⟨by decide +kernel, rfl⟩
theorem dX7_init_64 : ml_d cX7_init 64 (.putfield 35) 3 67 := ⟨by decide +kernel, rfl⟩
theorem dX7_init_67 : ml_d cX7_init 67 (.aload_n 0) 1 68 := ⟨by decide +kernel, rfl⟩
theorem dX7_init_68 : ml_d cX7_init 68 (.bipush 8) 2 70 := ⟨by decide +kernel, rfl⟩
theorem dX7_init_70 : ml_d cX7_init 70 (.newarray .int) 2 72 := ⟨by decide +kernel, rfl⟩
theorem dX7_init_72 : ml_d cX7_init 72 (.putfield 38) 3 75 := ⟨by decide +kernel, rfl⟩
theorem dX7_init_75 : ml_d cX7_init 75 (.return_) 1 76 := ⟨by decide +kernel, rfl⟩
def fX7_init (l0 : Nat) (m : ml_M) : Option ml_M :=
    if l0 ≠ 0 then
    if (ml_K m l0).1 = 7 then
    ml_let (ml_sI m l0 0 (1 : Int32)) fun m51 =>
    ml_let (ml_n m51 + 1) fun a53 =>
    ml_let (ml_al m51 20 (8 : Int32).toNatClampNeg (8 : Int32).toNatClampNeg) fun m54 =>
    if (ml_K m54 l0).1 = 7 then
    ml_let (ml_sR m54 l0 2 a53) fun m58 =>
    ml_let (ml_n m58 + 1) fun a60 =>
    ml_let (ml_al m58 20 (21 : Int32).toNatClampNeg (21 : Int32).toNatClampNeg) fun m61 =>
    if (ml_K m61 l0).1 = 7 then
    ml_let (ml_sR m61 l0 3 a60) fun m65 =>
    ml_let (ml_n m65 + 1) fun a67 =>
    ml_let (ml_al m65 20 (1344 : Int32).toNatClampNeg (1344 : Int32).toNatClampNeg) fun m68 =>
    if (ml_K m68 l0).1 = 7 then
    ml_let (ml_sR m68 l0 4 a67) fun m72 =>
    ml_let (ml_n m72 + 1) fun a74 =>
    ml_let (ml_al m72 20 (64 : Int32).toNatClampNeg (64 : Int32).toNatClampNeg) fun m75 =>
    if (ml_K m75 l0).1 = 7 then
    ml_let (ml_sR m75 l0 8 a74) fun m79 =>
    ml_let (ml_n m79 + 1) fun a81 =>
    ml_let (ml_al m79 22 (256 : Int32).toNatClampNeg (256 : Int32).toNatClampNeg) fun m82 =>
    if (ml_K m82 l0).1 = 7 then
    ml_let (ml_sR m82 l0 9 a81) fun m86 =>
    ml_let (ml_n m86 + 1) fun a88 =>
    ml_let (ml_al m86 20 (8 : Int32).toNatClampNeg (8 : Int32).toNatClampNeg) fun m89 =>
    if (ml_K m89 l0).1 = 7 then
    ml_let (ml_sR m89 l0 10 a88) fun m93 =>
    ml_let (ml_n m93 + 1) fun a95 =>
    ml_let (ml_al m93 20 (8 : Int32).toNatClampNeg (8 : Int32).toNatClampNeg) fun m96 =>
    if (ml_K m96 l0).1 = 7 then
    ml_let (ml_sR m96 l0 11 a95) fun m100 =>
    ml_let (ml_n m100 + 1) fun a102 =>
    ml_let (ml_al m100 20 (8 : Int32).toNatClampNeg (8 : Int32).toNatClampNeg) fun m103 =>
    if (ml_K m103 l0).1 = 7 then
    ml_let (ml_sR m103 l0 12 a102) fun m107 =>
    some m107
    else none
    else none
    else none
    else none
    else none
    else none
    else none
    else none
    else none
    else none
theorem wX7_init_0 {E : ml_E} (hL : ml_eL E = 1) {rm : ml_M} (hr : ∀ (pc pc' : Nat) (lv : List (Nat × ml_X)), ml_d cX7_init pc .return_ 1 pc' → True → ml_V E "LostRoom$Sharings" cX7_init 2 true rm pc lv []) : ∀ (l0 : Nat) (m : ml_M), fX7_init l0 m = some rm → ml_V E "LostRoom$Sharings" cX7_init 2 true m 0 [(0, ml_r l0)] [] := by
  intro l0 m h
  unfold fX7_init at h
  exact ml_aload_n dX7_init_0 0 rfl <| ml_ck_of h fun hz49 h => ml_objInit dX7_init_1 wb_11 (Nat.le_of_ble_eq_true rfl) (Nat.le_of_ble_eq_true rfl) hz49 <| ml_aload_n dX7_init_4 0 rfl <| ml_iconst dX7_init_5 kc_i1 <| ml_ck_of h fun hc50 h => ml_putZ dX7_init_6 wb_12 hc50 (Or.inr rfl) <| ml_lt (m := m) rfl h fun m51 em52 h => ml_aload_n dX7_init_9 0 rfl <| ml_bipush dX7_init_10 kc_b8 <| ml_newAs (kd := 20) dX7_init_12 wb_0 (by decide) h fun a53 m54 hn55 hc56 h => ml_ck_of h fun hc57 h => ml_putR dX7_init_14 wb_13 hc57 <| ml_lt (m := m54) rfl h fun m58 em59 h => ml_aload_n dX7_init_17 0 rfl <| ml_bipush dX7_init_18 kc_b21 <| ml_newAs (kd := 20) dX7_init_20 wb_0 (by decide) h fun a60 m61 hn62 hc63 h => ml_ck_of h fun hc64 h => ml_putR dX7_init_22 wb_14 hc64 <| ml_lt (m := m61) rfl h fun m65 em66 h => ml_aload_n dX7_init_25 0 rfl <| ml_sipush dX7_init_26 kc_s1344 <| ml_newAs (kd := 20) dX7_init_29 wb_0 (by decide) h fun a67 m68 hn69 hc70 h => ml_ck_of h fun hc71 h => ml_putR dX7_init_31 wb_15 hc71 <| ml_lt (m := m68) rfl h fun m72 em73 h => ml_aload_n dX7_init_34 0 rfl <| ml_bipush dX7_init_35 kc_b64 <| ml_newAs (kd := 20) dX7_init_37 wb_0 (by decide) h fun a74 m75 hn76 hc77 h => ml_ck_of h fun hc78 h => ml_putR dX7_init_39 wb_16 hc78 <| ml_lt (m := m75) rfl h fun m79 em80 h => ml_aload_n dX7_init_42 0 rfl <| ml_sipush dX7_init_43 kc_s256 <| ml_newAs (kd := 22) dX7_init_46 wb_17 (by decide) h fun a81 m82 hn83 hc84 h => ml_ck_of h fun hc85 h => ml_putR dX7_init_48 wb_18 hc85 <| ml_lt (m := m82) rfl h fun m86 em87 h => ml_aload_n dX7_init_51 0 rfl <| ml_bipush dX7_init_52 kc_b8 <| ml_newAs (kd := 20) dX7_init_54 wb_0 (by decide) h fun a88 m89 hn90 hc91 h => ml_ck_of h fun hc92 h => ml_putR dX7_init_56 wb_19 hc92 <| ml_lt (m := m89) rfl h fun m93 em94 h => ml_aload_n dX7_init_59 0 rfl <| ml_bipush dX7_init_60 kc_b8 <| ml_newAs (kd := 20) dX7_init_62 wb_0 (by decide) h fun a95 m96 hn97 hc98 h => ml_ck_of h fun hc99 h => ml_putR dX7_init_64 wb_20 hc99 <| ml_lt (m := m96) rfl h fun m100 em101 h => ml_aload_n dX7_init_67 0 rfl <| ml_bipush dX7_init_68 kc_b8 <| ml_newAs (kd := 20) dX7_init_70 wb_0 (by decide) h fun a102 m103 hn104 hc105 h => ml_ck_of h fun hc106 h => ml_putR dX7_init_72 wb_21 hc106 <| ml_lt (m := m103) rfl h fun m107 em108 h => ml_rv hr dX7_init_75 trivial h
theorem sX7_init {l0 : Nat} {m : ml_M} {rm : ml_M} (h : fX7_init l0 m = some rm) : ml_Sn yX7_init cX7_init 1 none 2 [ml_r l0] m none rm :=
  ml_Sn_of (P := True) (ini := true) (by decide +kernel) (Nat.le_of_ble_eq_true rfl) (fun _ => rfl) (fun _ => ml_RkV) fun E hL hr => wX7_init_0 hL hr _ _ h
theorem dX4_init_0 : ml_d cX4_init 0 (.aload_n 0) 1 1 := ⟨by decide +kernel, rfl⟩
theorem dX4_init_1 : ml_d cX4_init 1 (.invokespecial 3) 3 4 := ⟨by decide +kernel, rfl⟩
theorem dX4_init_4 : ml_d cX4_init 4 (.aload_n 0) 1 5 := ⟨by decide +kernel, rfl⟩
theorem dX4_init_5 : ml_d cX4_init 5 (.iconst 1) 1 6 := ⟨by decide +kernel, rfl⟩
theorem dX4_init_6 : ml_d cX4_init 6 (.putfield 9) 3 9 := ⟨by decide +kernel, rfl⟩
theorem dX4_init_9 : ml_d cX4_init 9 (.aload_n 0) 1 10 := ⟨by decide +kernel, rfl⟩
theorem dX4_init_10 : ml_d cX4_init 10 (.bipush 10) 2 12 := ⟨by decide +kernel, rfl⟩
theorem dX4_init_12 : ml_d cX4_init 12 (.newarray .int) 2 14 := ⟨by decide +kernel, rfl⟩
theorem dX4_init_14 : ml_d cX4_init 14 (.putfield 15) 3 17 := ⟨by decide +kernel, rfl⟩
theorem dX4_init_17 : ml_d cX4_init 17 (.aload_n 0) 1 18 := ⟨by decide +kernel, rfl⟩
theorem dX4_init_18 : ml_d cX4_init 18 (.bipush 10) 2 20 := ⟨by decide +kernel, rfl⟩
theorem dX4_init_20 : ml_d cX4_init 20 (.newarray .int) 2 22 := ⟨by decide +kernel, rfl⟩
theorem dX4_init_22 : ml_d cX4_init 22 (.putfield 19) 3 25 := ⟨by decide +kernel, rfl⟩
theorem dX4_init_25 : ml_d cX4_init 25 (.aload_n 0) 1 26 := ⟨by decide +kernel, rfl⟩
theorem dX4_init_26 : ml_d cX4_init 26 (.sipush 10240) 3 29 := ⟨by decide +kernel, rfl⟩
theorem dX4_init_29 : ml_d cX4_init 29 (.newarray .int) 2 31 := ⟨by decide +kernel, rfl⟩
theorem dX4_init_31 : ml_d cX4_init 31 (.putfield 22) 3 34 := ⟨by decide +kernel, rfl⟩
theorem dX4_init_34 : ml_d cX4_init 34 (.aload_n 0) 1 35 := ⟨by decide +kernel, rfl⟩
theorem dX4_init_35 : ml_d cX4_init 35 (.sipush 10240) 3 38 := ⟨by decide +kernel, rfl⟩
theorem dX4_init_38 : ml_d cX4_init 38 (.newarray .int) 2 40 := ⟨by decide +kernel, rfl⟩
theorem dX4_init_40 : ml_d cX4_init 40 (.putfield 25) 3 43 := ⟨by decide +kernel, rfl⟩
theorem dX4_init_43 : ml_d cX4_init 43 (.return_) 1 44 := ⟨by decide +kernel, rfl⟩
def fX4_init (l0 : Nat) (m : ml_M) : Option ml_M :=
    if l0 ≠ 0 then
    if (ml_K m l0).1 = 4 then
    ml_let (ml_sI m l0 0 (1 : Int32)) fun m111 =>
    ml_let (ml_n m111 + 1) fun a113 =>
    ml_let (ml_al m111 20 (10 : Int32).toNatClampNeg (10 : Int32).toNatClampNeg) fun m114 =>
    if (ml_K m114 l0).1 = 4 then
    ml_let (ml_sR m114 l0 3 a113) fun m118 =>
    ml_let (ml_n m118 + 1) fun a120 =>
    ml_let (ml_al m118 20 (10 : Int32).toNatClampNeg (10 : Int32).toNatClampNeg) fun m121 =>
    if (ml_K m121 l0).1 = 4 then
    ml_let (ml_sR m121 l0 5 a120) fun m125 =>
    ml_let (ml_n m125 + 1) fun a127 =>
    ml_let (ml_al m125 20 (10240 : Int32).toNatClampNeg (10240 : Int32).toNatClampNeg) fun m128 =>
    if (ml_K m128 l0).1 = 4 then
    ml_let (ml_sR m128 l0 6 a127) fun m132 =>
    ml_let (ml_n m132 + 1) fun a134 =>
    ml_let (ml_al m132 20 (10240 : Int32).toNatClampNeg (10240 : Int32).toNatClampNeg) fun m135 =>
    if (ml_K m135 l0).1 = 4 then
    ml_let (ml_sR m135 l0 7 a134) fun m139 =>
    some m139
    else none
    else none
    else none
    else none
    else none
    else none
theorem wX4_init_0 {E : ml_E} (hL : ml_eL E = 1) {rm : ml_M} (hr : ∀ (pc pc' : Nat) (lv : List (Nat × ml_X)), ml_d cX4_init pc .return_ 1 pc' → True → ml_V E "LostRoom$Lays" cX4_init 2 true rm pc lv []) : ∀ (l0 : Nat) (m : ml_M), fX4_init l0 m = some rm → ml_V E "LostRoom$Lays" cX4_init 2 true m 0 [(0, ml_r l0)] [] := by
  intro l0 m h
  unfold fX4_init at h
  exact ml_aload_n dX4_init_0 0 rfl <| ml_ck_of h fun hz109 h => ml_objInit dX4_init_1 wb_22 (Nat.le_of_ble_eq_true rfl) (Nat.le_of_ble_eq_true rfl) hz109 <| ml_aload_n dX4_init_4 0 rfl <| ml_iconst dX4_init_5 kc_i1 <| ml_ck_of h fun hc110 h => ml_putZ dX4_init_6 wb_23 hc110 (Or.inr rfl) <| ml_lt (m := m) rfl h fun m111 em112 h => ml_aload_n dX4_init_9 0 rfl <| ml_bipush dX4_init_10 kc_b10 <| ml_newAs (kd := 20) dX4_init_12 wb_0 (by decide) h fun a113 m114 hn115 hc116 h => ml_ck_of h fun hc117 h => ml_putR dX4_init_14 wb_24 hc117 <| ml_lt (m := m114) rfl h fun m118 em119 h => ml_aload_n dX4_init_17 0 rfl <| ml_bipush dX4_init_18 kc_b10 <| ml_newAs (kd := 20) dX4_init_20 wb_0 (by decide) h fun a120 m121 hn122 hc123 h => ml_ck_of h fun hc124 h => ml_putR dX4_init_22 wb_25 hc124 <| ml_lt (m := m121) rfl h fun m125 em126 h => ml_aload_n dX4_init_25 0 rfl <| ml_sipush dX4_init_26 kc_s10240 <| ml_newAs (kd := 20) dX4_init_29 wb_0 (by decide) h fun a127 m128 hn129 hc130 h => ml_ck_of h fun hc131 h => ml_putR dX4_init_31 wb_26 hc131 <| ml_lt (m := m128) rfl h fun m132 em133 h => ml_aload_n dX4_init_34 0 rfl <| ml_sipush dX4_init_35 kc_s10240 <| ml_newAs (kd := 20) dX4_init_38 wb_0 (by decide) h fun a134 m135 hn136 hc137 h => ml_ck_of h fun hc138 h => ml_putR dX4_init_40 wb_27 hc138 <| ml_lt (m := m135) rfl h fun m139 em140 h => ml_rv hr dX4_init_43 trivial h
theorem sX4_init {l0 : Nat} {m : ml_M} {rm : ml_M} (h : fX4_init l0 m = some rm) : ml_Sn yX4_init cX4_init 1 none 2 [ml_r l0] m none rm :=
  ml_Sn_of (P := True) (ini := true) (by decide +kernel) (Nat.le_of_ble_eq_true rfl) (fun _ => rfl) (fun _ => ml_RkV) fun E hL hr => wX4_init_0 hL hr _ _ h
theorem dX3_init_0 : ml_d cX3_init 0 (.aload_n 0) 1 1 := ⟨by decide +kernel, rfl⟩
theorem dX3_init_1 : ml_d cX3_init 1 (.invokespecial 3) 3 4 := ⟨by decide +kernel, rfl⟩
theorem dX3_init_4 : ml_d cX3_init 4 (.aload_n 0) 1 5 := ⟨by decide +kernel, rfl⟩
theorem dX3_init_5 : ml_d cX3_init 5 (.bipush 10) 2 7 := ⟨by decide +kernel, rfl⟩
theorem dX3_init_7 : ml_d cX3_init 7 (.anewarray 9) 3 10 := ⟨by decide +kernel, rfl⟩
theorem dX3_init_10 : ml_d cX3_init 10 (.putfield 11) 3 13 := ⟨by decide +kernel, rfl⟩
theorem dX3_init_13 : ml_d cX3_init 13 (.aload_n 0) 1 14 := ⟨by decide +kernel, rfl⟩
theorem dX3_init_14 : ml_d cX3_init 14 (.bipush 10) 2 16 := ⟨by decide +kernel, rfl⟩
theorem dX3_init_16 : ml_d cX3_init 16 (.newarray .int) 2 18 := ⟨by decide +kernel, rfl⟩
theorem dX3_init_18 : ml_d cX3_init 18 (.putfield 17) 3 21 := ⟨by decide +kernel, rfl⟩
theorem dX3_init_21 : ml_d cX3_init 21 (.aload_n 0) 1 22 := ⟨by decide +kernel, rfl⟩
theorem dX3_init_22 : ml_d cX3_init 22 (.sipush 1024) 3 25 := ⟨by decide +kernel, rfl⟩
theorem dX3_init_25 : ml_d cX3_init 25 (.newarray .int) 2 27 := ⟨by decide +kernel, rfl⟩
theorem dX3_init_27 : ml_d cX3_init 27 (.putfield 21) 3 30 := ⟨by decide +kernel, rfl⟩
theorem dX3_init_30 : ml_d cX3_init 30 (.aload_n 0) 1 31 := ⟨by decide +kernel, rfl⟩
theorem dX3_init_31 : ml_d cX3_init 31 (.sipush 1024) 3 34 := ⟨by decide +kernel, rfl⟩
theorem dX3_init_34 : ml_d cX3_init 34 (.newarray .int) 2 36 := ⟨by decide +kernel, rfl⟩
theorem dX3_init_36 : ml_d cX3_init 36 (.putfield 24) 3 39 := ⟨by decide +kernel, rfl⟩
theorem dX3_init_39 : ml_d cX3_init 39 (.aload_n 0) 1 40 := ⟨by decide +kernel, rfl⟩
theorem dX3_init_40 : ml_d cX3_init 40 (.sipush 1024) 3 43 := ⟨by decide +kernel, rfl⟩
theorem dX3_init_43 : ml_d cX3_init 43 (.newarray .int) 2 45 := ⟨by decide +kernel, rfl⟩
theorem dX3_init_45 : ml_d cX3_init 45 (.putfield 27) 3 48 := ⟨by decide +kernel, rfl⟩
theorem dX3_init_48 : ml_d cX3_init 48 (.return_) 1 49 := ⟨by decide +kernel, rfl⟩
def fX3_init (l0 : Nat) (m : ml_M) : Option ml_M :=
    if l0 ≠ 0 then
    ml_let (ml_n m + 1) fun a142 =>
    ml_let (ml_al m 29 (10 : Int32).toNatClampNeg (10 : Int32).toNatClampNeg) fun m143 =>
    if (ml_K m143 l0).1 = 3 then
    ml_let (ml_sR m143 l0 0 a142) fun m147 =>
    ml_let (ml_n m147 + 1) fun a149 =>
    ml_let (ml_al m147 20 (10 : Int32).toNatClampNeg (10 : Int32).toNatClampNeg) fun m150 =>
    if (ml_K m150 l0).1 = 3 then
    ml_let (ml_sR m150 l0 2 a149) fun m154 =>
    ml_let (ml_n m154 + 1) fun a156 =>
    ml_let (ml_al m154 20 (1024 : Int32).toNatClampNeg (1024 : Int32).toNatClampNeg) fun m157 =>
    if (ml_K m157 l0).1 = 3 then
    ml_let (ml_sR m157 l0 3 a156) fun m161 =>
    ml_let (ml_n m161 + 1) fun a163 =>
    ml_let (ml_al m161 20 (1024 : Int32).toNatClampNeg (1024 : Int32).toNatClampNeg) fun m164 =>
    if (ml_K m164 l0).1 = 3 then
    ml_let (ml_sR m164 l0 4 a163) fun m168 =>
    ml_let (ml_n m168 + 1) fun a170 =>
    ml_let (ml_al m168 20 (1024 : Int32).toNatClampNeg (1024 : Int32).toNatClampNeg) fun m171 =>
    if (ml_K m171 l0).1 = 3 then
    ml_let (ml_sR m171 l0 5 a170) fun m175 =>
    some m175
    else none
    else none
    else none
    else none
    else none
    else none
theorem wX3_init_0 {E : ml_E} (hL : ml_eL E = 1) {rm : ml_M} (hr : ∀ (pc pc' : Nat) (lv : List (Nat × ml_X)), ml_d cX3_init pc .return_ 1 pc' → True → ml_V E "LostRoom$Journeys" cX3_init 2 true rm pc lv []) : ∀ (l0 : Nat) (m : ml_M), fX3_init l0 m = some rm → ml_V E "LostRoom$Journeys" cX3_init 2 true m 0 [(0, ml_r l0)] [] := by
  intro l0 m h
  unfold fX3_init at h
  exact ml_aload_n dX3_init_0 0 rfl <| ml_ck_of h fun hz141 h => ml_objInit dX3_init_1 wb_28 (Nat.le_of_ble_eq_true rfl) (Nat.le_of_ble_eq_true rfl) hz141 <| ml_aload_n dX3_init_4 0 rfl <| ml_bipush dX3_init_5 kc_b10 <| ml_newQs (c9 := "LostRoom$Thing") (kd := 29) dX3_init_7 wb_29 (by decide) h fun a142 m143 hn144 hc145 h => ml_ck_of h fun hc146 h => ml_putR dX3_init_10 wb_30 hc146 <| ml_lt (m := m143) rfl h fun m147 em148 h => ml_aload_n dX3_init_13 0 rfl <| ml_bipush dX3_init_14 kc_b10 <| ml_newAs (kd := 20) dX3_init_16 wb_0 (by decide) h fun a149 m150 hn151 hc152 h => ml_ck_of h fun hc153 h => ml_putR dX3_init_18 wb_31 hc153 <| ml_lt (m := m150) rfl h fun m154 em155 h => ml_aload_n dX3_init_21 0 rfl <| ml_sipush dX3_init_22 kc_s1024 <| ml_newAs (kd := 20) dX3_init_25 wb_0 (by decide) h fun a156 m157 hn158 hc159 h => ml_ck_of h fun hc160 h => ml_putR dX3_init_27 wb_32 hc160 <| ml_lt (m := m157) rfl h fun m161 em162 h => ml_aload_n dX3_init_30 0 rfl <| ml_sipush dX3_init_31 kc_s1024 <| ml_newAs (kd := 20) dX3_init_34 wb_0 (by decide) h fun a163 m164 hn165 hc166 h => ml_ck_of h fun hc167 h => ml_putR dX3_init_36 wb_33 hc167 <| ml_lt (m := m164) rfl h fun m168 em169 h => ml_aload_n dX3_init_39 0 rfl <| ml_sipush dX3_init_40 kc_s1024 <| ml_newAs (kd := 20) dX3_init_43 wb_0 (by decide) h fun a170 m171 hn172 hc173 h => ml_ck_of h fun hc174 h => ml_putR dX3_init_45 wb_34 hc174 <| ml_lt (m := m171) rfl h fun m175 em176 h => ml_rv hr dX3_init_48 trivial h
theorem sX3_init {l0 : Nat} {m : ml_M} {rm : ml_M} (h : fX3_init l0 m = some rm) : ml_Sn yX3_init cX3_init 1 none 2 [ml_r l0] m none rm :=
  ml_Sn_of (P := True) (ini := true) (by decide +kernel) (Nat.le_of_ble_eq_true rfl) (fun _ => rfl) (fun _ => ml_RkV) fun E hL hr => wX3_init_0 hL hr _ _ h
theorem dX10_init_0 : ml_d cX10_init 0 (.aload_n 0) 1 1 := ⟨by decide +kernel, rfl⟩
theorem dX10_init_1 : ml_d cX10_init 1 (.invokespecial 1) 3 4 := ⟨by decide +kernel, rfl⟩
theorem dX10_init_4 : ml_d cX10_init 4 (.aload_n 0) 1 5 := ⟨by decide +kernel, rfl⟩
theorem dX10_init_5 : ml_d cX10_init 5 (.bipush 6) 2 7 := ⟨by decide +kernel, rfl⟩
theorem dX10_init_7 : ml_d cX10_init 7 (.anewarray 9) 3 10 := ⟨by decide +kernel, rfl⟩
theorem dX10_init_10 : ml_d cX10_init 10 (.putfield 11) 3 13 := ⟨by decide +kernel, rfl⟩
theorem dX10_init_13 : ml_d cX10_init 13 (.aload_n 0) 1 14 := ⟨by decide +kernel, rfl⟩
theorem dX10_init_14 : ml_d cX10_init 14 (.iconst 4) 1 15 := ⟨by decide +kernel, rfl⟩
theorem dX10_init_15 : ml_d cX10_init 15 (.anewarray 15) 3 18 := ⟨by decide +kernel, rfl⟩
theorem dX10_init_18 : ml_d cX10_init 18 (.putfield 17) 3 21 := ⟨by decide +kernel, rfl⟩
theorem dX10_init_21 : ml_d cX10_init 21 (.aload_n 0) 1 22 := ⟨by decide +kernel, rfl⟩
theorem dX10_init_22 : ml_d cX10_init 22 (.new 21) 3 25 := ⟨by decide +kernel, rfl⟩
theorem dX10_init_25 : ml_d cX10_init 25 (.dup) 1 26 := ⟨by decide +kernel, rfl⟩
theorem dX10_init_26 : ml_d cX10_init 26 (.iconst 0) 1 27 := ⟨by decide +kernel, rfl⟩
theorem dX10_init_27 : ml_d cX10_init 27 (.newarray .byte) 2 29 := ⟨by decide +kernel, rfl⟩
theorem dX10_init_29 : ml_d cX10_init 29 (.invokespecial 23) 3 32 := ⟨by decide +kernel, rfl⟩
theorem dX10_init_32 : ml_d cX10_init 32 (.putfield 26) 3 35 := ⟨by decide +kernel, rfl⟩
theorem dX10_init_35 : ml_d cX10_init 35 (.aload_n 0) 1 36 := ⟨by decide +kernel, rfl⟩
theorem dX10_init_36 : ml_d cX10_init 36 (.iconst 1) 1 37 := ⟨by decide +kernel, rfl⟩
theorem dX10_init_37 : ml_d cX10_init 37 (.putfield 30) 3 40 := ⟨by decide +kernel, rfl⟩
theorem dX10_init_40 : ml_d cX10_init 40 (.aload_n 0) 1 41 := ⟨by decide +kernel, rfl⟩
theorem dX10_init_41 : ml_d cX10_init 41 (.bipush 20) 2 43 := ⟨by decide +kernel, rfl⟩
theorem dX10_init_43 : ml_d cX10_init 43 (.anewarray 34) 3 46 := ⟨by decide +kernel, rfl⟩
theorem dX10_init_46 : ml_d cX10_init 46 (.putfield 36) 3 49 := ⟨by decide +kernel, rfl⟩
theorem dX10_init_49 : ml_d cX10_init 49 (.aload_n 0) 1 50 := ⟨by decide +kernel, rfl⟩
theorem dX10_init_50 : ml_d cX10_init 50 (.bipush 8) 2 52 := ⟨by decide +kernel, rfl⟩
theorem dX10_init_52 : ml_d cX10_init 52 (.anewarray 40) 3 55 := ⟨by decide +kernel, rfl⟩
theorem dX10_init_55 : ml_d cX10_init 55 (.putfield 42) 3 58 := ⟨by decide +kernel, rfl⟩
theorem dX10_init_58 : ml_d cX10_init 58 (.aload_n 0) 1 59 := ⟨by decide +kernel, rfl⟩
theorem dX10_init_59 : ml_d cX10_init 59 (.bipush 10) 2 61 := ⟨by decide +kernel, rfl⟩
theorem dX10_init_61 : ml_d cX10_init 61 (.anewarray 46) 3 64 := ⟨by decide +kernel, rfl⟩
theorem dX10_init_64 : ml_d cX10_init 64 (.putfield 48) 3 67 := ⟨by decide +kernel, rfl⟩
theorem dX10_init_67 : ml_d cX10_init 67 (.aload_n 0) 1 68 := ⟨by decide +kernel, rfl⟩
theorem dX10_init_68 : ml_d cX10_init 68 (.bipush 8) 2 70 := ⟨by decide +kernel, rfl⟩
theorem dX10_init_70 : ml_d cX10_init 70 (.anewarray 52) 3 73 := ⟨by decide +kernel, rfl⟩
theorem dX10_init_73 : ml_d cX10_init 73 (.putfield 54) 3 76 := ⟨by decide +kernel, rfl⟩
theorem dX10_init_76 : ml_d cX10_init 76 (.aload_n 0) 1 77 := ⟨by decide +kernel, rfl⟩
theorem dX10_init_77 : ml_d cX10_init 77 (.new 58) 3 80 := ⟨by decide +kernel, rfl⟩
theorem dX10_init_80 : ml_d cX10_init 80 (.dup) 1 81 := ⟨by decide +kernel, rfl⟩
theorem dX10_init_81 : ml_d cX10_init 81 (.invokespecial 60) 3 84 := ⟨by decide +kernel, rfl⟩
theorem dX10_init_84 : ml_d cX10_init 84 (.putfield 61) 3 87 := ⟨by decide +kernel, rfl⟩
theorem dX10_init_87 : ml_d cX10_init 87 (.aload_n 0) 1 88 := ⟨by decide +kernel, rfl⟩
theorem dX10_init_88 : ml_d cX10_init 88 (.new 65) 3 91 := ⟨by decide +kernel, rfl⟩
theorem dX10_init_91 : ml_d cX10_init 91 (.dup) 1 92 := ⟨by decide +kernel, rfl⟩
theorem dX10_init_92 : ml_d cX10_init 92 (.invokespecial 67) 3 95 := ⟨by decide +kernel, rfl⟩
theorem dX10_init_95 : ml_d cX10_init 95 (.putfield 68) 3 98 := ⟨by decide +kernel, rfl⟩
theorem dX10_init_98 : ml_d cX10_init 98 (.aload_n 0) 1 99 := ⟨by decide +kernel, rfl⟩
theorem dX10_init_99 : ml_d cX10_init 99 (.new 72) 3 102 := ⟨by decide +kernel, rfl⟩
theorem dX10_init_102 : ml_d cX10_init 102 (.dup) 1 103 := ⟨by decide +kernel, rfl⟩
theorem dX10_init_103 : ml_d cX10_init 103 (.invokespecial 74) 3 106 := ⟨by decide +kernel, rfl⟩
theorem dX10_init_106 : ml_d cX10_init 106 (.putfield 75) 3 109 := ⟨by decide +kernel, rfl⟩
theorem dX10_init_109 : ml_d cX10_init 109 (.aload_n 0) 1 110 := ⟨by decide +kernel, rfl⟩
theorem dX10_init_110 : ml_d cX10_init 110 (.bipush 6) 2 112 := ⟨by decide +kernel, rfl⟩
theorem dX10_init_112 : ml_d cX10_init 112 (.newarray .int) 2 114 := ⟨by decide +kernel, rfl⟩
theorem dX10_init_114 : ml_d cX10_init 114 (.putfield 79) 3 117 := ⟨by decide +kernel, rfl⟩
theorem dX10_init_117 : ml_d cX10_init 117 (.return_) 1 118 := ⟨by decide +kernel, rfl⟩
def fX10_init (l0 : Nat) (m : ml_M) : Option ml_M :=
    if l0 ≠ 0 then
    ml_let (ml_n m + 1) fun a178 =>
    ml_let (ml_al m 23 (6 : Int32).toNatClampNeg (6 : Int32).toNatClampNeg) fun m179 =>
    if (ml_K m179 l0).1 = 10 then
    ml_let (ml_sR m179 l0 0 a178) fun m183 =>
    ml_let (ml_n m183 + 1) fun a185 =>
    ml_let (ml_al m183 24 (4 : Int32).toNatClampNeg (4 : Int32).toNatClampNeg) fun m186 =>
    if (ml_K m186 l0).1 = 10 then
    ml_let (ml_sR m186 l0 1 a185) fun m190 =>
    ml_let (ml_n m190 + 1) fun a192 =>
    ml_let (ml_al m190 1 0 8) fun m193 =>
    ml_let (ml_n m193 + 1) fun a196 =>
    ml_let (ml_al m193 21 (0 : Int32).toNatClampNeg (0 : Int32).toNatClampNeg) fun m197 =>
    ml_b1 (fX1_init a192 a196 m197) fun m201 =>
    if (ml_K m201 l0).1 = 10 then
    ml_let (ml_sR m201 l0 2 a192) fun m203 =>
    ml_let (ml_sI m203 l0 3 (1 : Int32)) fun m205 =>
    ml_let (ml_n m205 + 1) fun a207 =>
    ml_let (ml_al m205 29 (20 : Int32).toNatClampNeg (20 : Int32).toNatClampNeg) fun m208 =>
    if (ml_K m208 l0).1 = 10 then
    ml_let (ml_sR m208 l0 4 a207) fun m212 =>
    ml_let (ml_n m212 + 1) fun a214 =>
    ml_let (ml_al m212 27 (8 : Int32).toNatClampNeg (8 : Int32).toNatClampNeg) fun m215 =>
    if (ml_K m215 l0).1 = 10 then
    ml_let (ml_sR m215 l0 6 a214) fun m219 =>
    ml_let (ml_n m219 + 1) fun a221 =>
    ml_let (ml_al m219 25 (10 : Int32).toNatClampNeg (10 : Int32).toNatClampNeg) fun m222 =>
    if (ml_K m222 l0).1 = 10 then
    ml_let (ml_sR m222 l0 8 a221) fun m226 =>
    ml_let (ml_n m226 + 1) fun a228 =>
    ml_let (ml_al m226 26 (8 : Int32).toNatClampNeg (8 : Int32).toNatClampNeg) fun m229 =>
    if (ml_K m229 l0).1 = 10 then
    ml_let (ml_sR m229 l0 10 a228) fun m233 =>
    ml_let (ml_n m233 + 1) fun a235 =>
    ml_let (ml_al m233 7 0 13) fun m236 =>
    ml_b1 (fX7_init a235 m236) fun m240 =>
    if (ml_K m240 l0).1 = 10 then
    ml_let (ml_sR m240 l0 12 a235) fun m242 =>
    ml_let (ml_n m242 + 1) fun a244 =>
    ml_let (ml_al m242 4 0 8) fun m245 =>
    ml_b1 (fX4_init a244 m245) fun m249 =>
    if (ml_K m249 l0).1 = 10 then
    ml_let (ml_sR m249 l0 13 a244) fun m251 =>
    ml_let (ml_n m251 + 1) fun a253 =>
    ml_let (ml_al m251 3 0 6) fun m254 =>
    ml_b1 (fX3_init a253 m254) fun m258 =>
    if (ml_K m258 l0).1 = 10 then
    ml_let (ml_sR m258 l0 14 a253) fun m260 =>
    ml_let (ml_n m260 + 1) fun a262 =>
    ml_let (ml_al m260 20 (6 : Int32).toNatClampNeg (6 : Int32).toNatClampNeg) fun m263 =>
    if (ml_K m263 l0).1 = 10 then
    ml_let (ml_sR m263 l0 18 a262) fun m267 =>
    some m267
    else none
    else none
    else none
    else none
    else none
    else none
    else none
    else none
    else none
    else none
    else none
    else none
theorem wX10_init_0 {E : ml_E} (hL : ml_eL E = 1) {rm : ml_M} (hr : ∀ (pc pc' : Nat) (lv : List (Nat × ml_X)), ml_d cX10_init pc .return_ 1 pc' → True → ml_V E "LostRoom" cX10_init 3 true rm pc lv []) : ∀ (l0 : Nat) (m : ml_M), fX10_init l0 m = some rm → ml_V E "LostRoom" cX10_init 3 true m 0 [(0, ml_r l0)] [] := by
  intro l0 m h
  unfold fX10_init at h
  exact ml_aload_n dX10_init_0 0 rfl <| ml_ck_of h fun hz177 h => ml_objInit dX10_init_1 wb_35 (Nat.le_of_ble_eq_true rfl) (Nat.le_of_ble_eq_true rfl) hz177 <| ml_aload_n dX10_init_4 0 rfl <| ml_bipush dX10_init_5 kc_b6 <| ml_newQAs (t9 := .int) (kd := 23) dX10_init_7 wb_36 (by decide) h fun a178 m179 hn180 hc181 h => ml_ck_of h fun hc182 h => ml_putR dX10_init_10 wb_37 hc182 <| ml_lt (m := m179) rfl h fun m183 em184 h => ml_aload_n dX10_init_13 0 rfl <| ml_iconst dX10_init_14 kc_i4 <| ml_newQAs (t9 := .byte) (kd := 24) dX10_init_15 wb_38 (by decide) h fun a185 m186 hn187 hc188 h => ml_ck_of h fun hc189 h => ml_putR dX10_init_18 wb_39 hc189 <| ml_lt (m := m186) rfl h fun m190 em191 h => ml_aload_n dX10_init_21 0 rfl <| ml_newOs dX10_init_22 wb_40 h fun a192 m193 hn194 hc195 h => ml_dup dX10_init_25 rfl <| ml_iconst dX10_init_26 kc_i0 <| ml_newAs (kd := 21) dX10_init_27 wb_41 (by decide) h fun a196 m197 hn198 hc199 h => ml_b1_of h fun m201 hv200 h => ml_callI dX10_init_29 wm_62 wb_42 hn194 (sX1_init hv200) rfl (Nat.le_of_ble_eq_true rfl) (Nat.le_of_ble_eq_true rfl) rfl <| ml_ck_of h fun hc202 h => ml_putR dX10_init_32 wb_43 hc202 <| ml_lt (m := m201) rfl h fun m203 em204 h => ml_aload_n dX10_init_35 0 rfl <| ml_iconst dX10_init_36 kc_i1 <| ml_putI dX10_init_37 wb_44 (ml_kk em204 hc202) <| ml_lt (m := m203) rfl h fun m205 em206 h => ml_aload_n dX10_init_40 0 rfl <| ml_bipush dX10_init_41 kc_b20 <| ml_newQs (c9 := "LostRoom$Thing") (kd := 29) dX10_init_43 wb_45 (by decide) h fun a207 m208 hn209 hc210 h => ml_ck_of h fun hc211 h => ml_putR dX10_init_46 wb_46 hc211 <| ml_lt (m := m208) rfl h fun m212 em213 h => ml_aload_n dX10_init_49 0 rfl <| ml_bipush dX10_init_50 kc_b8 <| ml_newQs (c9 := "LostRoom$Line") (kd := 27) dX10_init_52 wb_47 (by decide) h fun a214 m215 hn216 hc217 h => ml_ck_of h fun hc218 h => ml_putR dX10_init_55 wb_48 hc218 <| ml_lt (m := m215) rfl h fun m219 em220 h => ml_aload_n dX10_init_58 0 rfl <| ml_bipush dX10_init_59 kc_b10 <| ml_newQs (c9 := "LostRoom$Bit") (kd := 25) dX10_init_61 wb_49 (by decide) h fun a221 m222 hn223 hc224 h => ml_ck_of h fun hc225 h => ml_putR dX10_init_64 wb_50 hc225 <| ml_lt (m := m222) rfl h fun m226 em227 h => ml_aload_n dX10_init_67 0 rfl <| ml_bipush dX10_init_68 kc_b8 <| ml_newQs (c9 := "LostRoom$Claim") (kd := 26) dX10_init_70 wb_51 (by decide) h fun a228 m229 hn230 hc231 h => ml_ck_of h fun hc232 h => ml_putR dX10_init_73 wb_52 hc232 <| ml_lt (m := m229) rfl h fun m233 em234 h => ml_aload_n dX10_init_76 0 rfl <| ml_newOs dX10_init_77 wb_53 h fun a235 m236 hn237 hc238 h => ml_dup dX10_init_80 rfl <| ml_b1_of h fun m240 hv239 h => ml_callIN (host := "LostRoom") dX10_init_81 (by decide) wb_54 hn237 (sX7_init hv239) rfl (Nat.le_of_ble_eq_true rfl) (Nat.le_of_ble_eq_true rfl) rfl <| ml_ck_of h fun hc241 h => ml_putR dX10_init_84 wb_55 hc241 <| ml_lt (m := m240) rfl h fun m242 em243 h => ml_aload_n dX10_init_87 0 rfl <| ml_newOs dX10_init_88 wb_56 h fun a244 m245 hn246 hc247 h => ml_dup dX10_init_91 rfl <| ml_b1_of h fun m249 hv248 h => ml_callIN (host := "LostRoom") dX10_init_92 (by decide) wb_57 hn246 (sX4_init hv248) rfl (Nat.le_of_ble_eq_true rfl) (Nat.le_of_ble_eq_true rfl) rfl <| ml_ck_of h fun hc250 h => ml_putR dX10_init_95 wb_58 hc250 <| ml_lt (m := m249) rfl h fun m251 em252 h => ml_aload_n dX10_init_98 0 rfl <| ml_newOs dX10_init_99 wb_59 h fun a253 m254 hn255 hc256 h => ml_dup dX10_init_102 rfl <| ml_b1_of h fun m258 hv257 h => ml_callIN (host := "LostRoom") dX10_init_103 (by decide) wb_60 hn255 (sX3_init hv257) rfl (Nat.le_of_ble_eq_true rfl) (Nat.le_of_ble_eq_true rfl) rfl <| ml_ck_of h fun hc259 h => ml_putR dX10_init_106 wb_61 hc259 <| ml_lt (m := m258) rfl h fun m260 em261 h => ml_aload_n dX10_init_109 0 rfl <| ml_bipush dX10_init_110 kc_b6 <| ml_newAs (kd := 20) dX10_init_112 wb_0 (by decide) h fun a262 m263 hn264 hc265 h => ml_ck_of h fun hc266 h => ml_putR dX10_init_114 wb_62 hc266 <| ml_lt (m := m263) rfl h fun m267 em268 h => ml_rv hr dX10_init_117 trivial h
theorem sX10_init {l0 : Nat} {m : ml_M} {rm : ml_M} (h : fX10_init l0 m = some rm) : ml_Sn yX10_init cX10_init 1 none 3 [ml_r l0] m none rm :=
  ml_Sn_of (P := True) (ini := true) (by decide +kernel) (Nat.le_of_ble_eq_true rfl) (fun _ => rfl) (fun _ => ml_RkV) fun E hL hr => wX10_init_0 hL hr _ _ h
theorem dX11_init_0 : ml_d cX11_init 0 (.aload_n 0) 1 1 := ⟨by decide +kernel, rfl⟩
theorem dX11_init_1 : ml_d cX11_init 1 (.invokespecial 1) 3 4 := ⟨by decide +kernel, rfl⟩
theorem dX11_init_4 : ml_d cX11_init 4 (.aload_n 0) 1 5 := ⟨by decide +kernel, rfl⟩
theorem dX11_init_5 : ml_d cX11_init 5 (.bipush 6) 2 7 := ⟨by decide +kernel, rfl⟩
theorem dX11_init_7 : ml_d cX11_init 7 (.newarray .int) 2 9 := ⟨by decide +kernel, rfl⟩
theorem dX11_init_9 : ml_d cX11_init 9 (.putfield 7) 3 12 := ⟨by decide +kernel, rfl⟩
theorem dX11_init_12 : ml_d cX11_init 12 (.aload_n 0) 1 13 := ⟨by decide +kernel, rfl⟩
theorem dX11_init_13 : ml_d cX11_init 13 (.bipush 6) 2 15 := ⟨by decide +kernel, rfl⟩
theorem dX11_init_15 : ml_d cX11_init 15 (.newarray .int) 2 17 := ⟨by decide +kernel, rfl⟩
theorem dX11_init_17 : ml_d cX11_init 17 (.putfield 13) 3 20 := ⟨by decide +kernel, rfl⟩
theorem dX11_init_20 : ml_d cX11_init 20 (.aload_n 0) 1 21 := ⟨by decide +kernel, rfl⟩
theorem dX11_init_21 : ml_d cX11_init 21 (.sipush 288) 3 24 := ⟨by decide +kernel, rfl⟩
theorem dX11_init_24 : ml_d cX11_init 24 (.newarray .int) 2 26 := ⟨by decide +kernel, rfl⟩
theorem dX11_init_26 : ml_d cX11_init 26 (.putfield 16) 3 29 := ⟨by decide +kernel, rfl⟩
theorem dX11_init_29 : ml_d cX11_init 29 (.aload_n 0) 1 30 := ⟨by decide +kernel, rfl⟩
theorem dX11_init_30 : ml_d cX11_init 30 (.bipush 48) 2 32 := ⟨by decide +kernel, rfl⟩
theorem dX11_init_32 : ml_d cX11_init 32 (.newarray .int) 2 34 := ⟨by decide +kernel, rfl⟩
theorem dX11_init_34 : ml_d cX11_init 34 (.putfield 19) 3 37 := ⟨by decide +kernel, rfl⟩
theorem dX11_init_37 : ml_d cX11_init 37 (.aload_n 0) 1 38 := ⟨by decide +kernel, rfl⟩
theorem dX11_init_38 : ml_d cX11_init 38 (.iconst 4) 1 39 := ⟨by decide +kernel, rfl⟩
theorem dX11_init_39 : ml_d cX11_init 39 (.newarray .int) 2 41 := ⟨by decide +kernel, rfl⟩
theorem dX11_init_41 : ml_d cX11_init 41 (.putfield 22) 3 44 := ⟨by decide +kernel, rfl⟩
theorem dX11_init_44 : ml_d cX11_init 44 (.aload_n 0) 1 45 := ⟨by decide +kernel, rfl⟩
theorem dX11_init_45 : ml_d cX11_init 45 (.sipush 480) 3 48 := ⟨by decide +kernel, rfl⟩
theorem dX11_init_48 : ml_d cX11_init 48 (.newarray .byte) 2 50 := ⟨by decide +kernel, rfl⟩
theorem dX11_init_50 : ml_d cX11_init 50 (.putfield 25) 3 53 := ⟨by decide +kernel, rfl⟩
theorem dX11_init_53 : ml_d cX11_init 53 (.aload_n 0) 1 54 := ⟨by decide +kernel, rfl⟩
theorem dX11_init_54 : ml_d cX11_init 54 (.bipush 40) 2 56 := ⟨by decide +kernel, rfl⟩
theorem dX11_init_56 : ml_d cX11_init 56 (.newarray .int) 2 58 := ⟨by decide +kernel, rfl⟩
theorem dX11_init_58 : ml_d cX11_init 58 (.putfield 29) 3 61 := ⟨by decide +kernel, rfl⟩
theorem dX11_init_61 : ml_d cX11_init 61 (.aload_n 0) 1 62 := ⟨by decide +kernel, rfl⟩
theorem dX11_init_62 : ml_d cX11_init 62 (.bipush 16) 2 64 := ⟨by decide +kernel, rfl⟩
theorem dX11_init_64 : ml_d cX11_init 64 (.newarray .int) 2 66 := ⟨by decide +kernel, rfl⟩
theorem dX11_init_66 : ml_d cX11_init 66 (.putfield 32) 3 69 := ⟨by decide +kernel, rfl⟩
theorem dX11_init_69 : ml_d cX11_init 69 (.aload_n 0) 1 70 := ⟨by decide +kernel, rfl⟩
theorem dX11_init_70 : ml_d cX11_init 70 (.bipush 24) 2 72 := ⟨by decide +kernel, rfl⟩
theorem dX11_init_72 : ml_d cX11_init 72 (.newarray .int) 2 74 := ⟨by decide +kernel, rfl⟩
theorem dX11_init_74 : ml_d cX11_init 74 (.putfield 35) 3 77 := ⟨by decide +kernel, rfl⟩
theorem dX11_init_77 : ml_d cX11_init 77 (.aload_n 0) 1 78 := ⟨by decide +kernel, rfl⟩
theorem dX11_init_78 : ml_d cX11_init 78 (.bipush 40) 2 80 := ⟨by decide +kernel, rfl⟩
theorem dX11_init_80 : ml_d cX11_init 80 (.newarray .int) 2 82 := ⟨by decide +kernel, rfl⟩
theorem dX11_init_82 : ml_d cX11_init 82 (.putfield 38) 3 85 := ⟨by decide +kernel, rfl⟩
theorem dX11_init_85 : ml_d cX11_init 85 (.aload_n 0) 1 86 := ⟨by decide +kernel, rfl⟩
theorem dX11_init_86 : ml_d cX11_init 86 (.bipush 16) 2 88 := ⟨by decide +kernel, rfl⟩
theorem dX11_init_88 : ml_d cX11_init 88 (.newarray .int) 2 90 := ⟨by decide +kernel, rfl⟩
theorem dX11_init_90 : ml_d cX11_init 90 (.putfield 41) 3 93 := ⟨by decide +kernel, rfl⟩
theorem dX11_init_93 : ml_d cX11_init 93 (.aload_n 0) 1 94 := ⟨by decide +kernel, rfl⟩
theorem dX11_init_94 : ml_d cX11_init 94 (.bipush 24) 2 96 := ⟨by decide +kernel, rfl⟩
theorem dX11_init_96 : ml_d cX11_init 96 (.newarray .int) 2 98 := ⟨by decide +kernel, rfl⟩
theorem dX11_init_98 : ml_d cX11_init 98 (.putfield 44) 3 101 := ⟨by decide +kernel, rfl⟩
theorem dX11_init_101 : ml_d cX11_init 101 (.aload_n 0) 1 102 := ⟨by decide +kernel, rfl⟩
theorem dX11_init_102 : ml_d cX11_init 102 (.sipush 140) 3 105 := ⟨by decide +kernel, rfl⟩
theorem dX11_init_105 : ml_d cX11_init 105 (.newarray .int) 2 107 := ⟨by decide +kernel, rfl⟩
theorem dX11_init_107 : ml_d cX11_init 107 (.putfield 47) 3 110 := ⟨by decide +kernel, rfl⟩
theorem dX11_init_110 : ml_d cX11_init 110 (.aload_n 0) 1 111 := ⟨by decide +kernel, rfl⟩
theorem dX11_init_111 : ml_d cX11_init 111 (.sipush 256) 3 114 := ⟨by decide +kernel, rfl⟩
theorem dX11_init_114 : ml_d cX11_init 114 (.newarray .int) 2 116 := ⟨by decide +kernel, rfl⟩
theorem dX11_init_116 : ml_d cX11_init 116 (.putfield 50) 3 119 := ⟨by decide +kernel, rfl⟩
theorem dX11_init_119 : ml_d cX11_init 119 (.aload_n 0) 1 120 := ⟨by decide +kernel, rfl⟩
theorem dX11_init_120 : ml_d cX11_init 120 (.bipush 8) 2 122 := ⟨by decide +kernel, rfl⟩
theorem dX11_init_122 : ml_d cX11_init 122 (.newarray .int) 2 124 := ⟨by decide +kernel, rfl⟩
theorem dX11_init_124 : ml_d cX11_init 124 (.putfield 53) 3 127 := ⟨by decide +kernel, rfl⟩
theorem dX11_init_127 : ml_d cX11_init 127 (.aload_n 0) 1 128 := ⟨by decide +kernel, rfl⟩
theorem dX11_init_128 : ml_d cX11_init 128 (.bipush 8) 2 130 := ⟨by decide +kernel, rfl⟩
theorem dX11_init_130 : ml_d cX11_init 130 (.newarray .int) 2 132 := ⟨by decide +kernel, rfl⟩
theorem dX11_init_132 : ml_d cX11_init 132 (.putfield 56) 3 135 := ⟨by decide +kernel, rfl⟩
theorem dX11_init_135 : ml_d cX11_init 135 (.aload_n 0) 1 136 := ⟨by decide +kernel, rfl⟩
theorem dX11_init_136 : ml_d cX11_init 136 (.bipush 64) 2 138 := ⟨by decide +kernel, rfl⟩
theorem dX11_init_138 : ml_d cX11_init 138 (.newarray .int) 2 140 := ⟨by decide +kernel, rfl⟩
theorem dX11_init_140 : ml_d cX11_init 140 (.putfield 59) 3 143 := ⟨by decide +kernel, rfl⟩
theorem dX11_init_143 : ml_d cX11_init 143 (.aload_n 0) 1 144 := ⟨by decide +kernel, rfl⟩
theorem dX11_init_144 : ml_d cX11_init 144 (.bipush 24) 2 146 := ⟨by decide +kernel, rfl⟩
theorem dX11_init_146 : ml_d cX11_init 146 (.newarray .int) 2 148 := ⟨by decide +kernel, rfl⟩
theorem dX11_init_148 : ml_d cX11_init 148 (.putfield 62) 3 151 := ⟨by decide +kernel, rfl⟩
theorem dX11_init_151 : ml_d cX11_init 151 (.aload_n 0) 1 152 := ⟨by decide +kernel, rfl⟩
theorem dX11_init_152 : ml_d cX11_init 152 (.sipush 2304) 3 155 := ⟨by decide +kernel, rfl⟩
theorem dX11_init_155 : ml_d cX11_init 155 (.newarray .int) 2 157 := ⟨by decide +kernel, rfl⟩
theorem dX11_init_157 : ml_d cX11_init 157 (.putfield 65) 3 160 := ⟨by decide +kernel, rfl⟩
theorem dX11_init_160 : ml_d cX11_init 160 (.aload_n 0) 1 161 := ⟨by decide +kernel, rfl⟩
theorem dX11_init_161 : ml_d cX11_init 161 (.bipush 40) 2 163 := ⟨by decide +kernel, rfl⟩
theorem dX11_init_163 : ml_d cX11_init 163 (.newarray .int) 2 165 := ⟨by decide +kernel, rfl⟩
theorem dX11_init_165 : ml_d cX11_init 165 (.putfield 68) 3 168 := ⟨by decide +kernel, rfl⟩
theorem dX11_init_168 : ml_d cX11_init 168 (.aload_n 0) 1 169 := ⟨by decide +kernel, rfl⟩
theorem dX11_init_169 : ml_d cX11_init 169 (.sipush 10240) 3 172 := ⟨by decide +kernel, rfl⟩
theorem dX11_init_172 : ml_d cX11_init 172 (.newarray .int) 2 174 := ⟨by decide +kernel, rfl⟩
theorem dX11_init_174 : ml_d cX11_init 174 (.putfield 71) 3 177 := ⟨by decide +kernel, rfl⟩
theorem dX11_init_177 : ml_d cX11_init 177 (.aload_n 0) 1 178 := ⟨by decide +kernel, rfl⟩
theorem dX11_init_178 : ml_d cX11_init 178 (.sipush 10240) 3 181 := ⟨by decide +kernel, rfl⟩
theorem dX11_init_181 : ml_d cX11_init 181 (.newarray .int) 2 183 := ⟨by decide +kernel, rfl⟩
theorem dX11_init_183 : ml_d cX11_init 183 (.putfield 74) 3 186 := ⟨by decide +kernel, rfl⟩
theorem dX11_init_186 : ml_d cX11_init 186 (.aload_n 0) 1 187 := ⟨by decide +kernel, rfl⟩
theorem dX11_init_187 : ml_d cX11_init 187 (.bipush 20) 2 189 := ⟨by decide +kernel, rfl⟩
theorem dX11_init_189 : ml_d cX11_init 189 (.newarray .int) 2 191 := ⟨by decide +kernel, rfl⟩
theorem dX11_init_191 : ml_d cX11_init 191 (.putfield 77) 3 194 := ⟨by decide +kernel, rfl⟩
theorem dX11_init_194 : ml_d cX11_init 194 (.aload_n 0) 1 195 := ⟨by decide +kernel, rfl⟩
theorem dX11_init_195 : ml_d cX11_init 195 (.sipush 10240) 3 198 := ⟨by decide +kernel, rfl⟩
theorem dX11_init_198 : ml_d cX11_init 198 (.newarray .int) 2 200 := ⟨by decide +kernel, rfl⟩
theorem dX11_init_200 : ml_d cX11_init 200 (.putfield 80) 3 203 := ⟨by decide +kernel, rfl⟩
theorem dX11_init_203 : ml_d cX11_init 203 (.aload_n 0) 1 204 := ⟨by decide +kernel, rfl⟩
theorem dX11_init_204 : ml_d cX11_init 204 (.sipush 1024) 3 207 := ⟨by decide +kernel, rfl⟩
theorem dX11_init_207 : ml_d cX11_init 207 (.newarray .boolean) 2 209 := ⟨by decide +kernel, rfl⟩
theorem dX11_init_209 : ml_d cX11_init 209 (.putfield 83) 3 212 := ⟨by decide +kernel, rfl⟩
theorem dX11_init_212 : ml_d cX11_init 212 (.aload_n 0) 1 213 := ⟨by decide +kernel, rfl⟩
theorem dX11_init_213 : ml_d cX11_init 213 (.sipush 1024) 3 216 := ⟨by decide +kernel, rfl⟩
theorem dX11_init_216 : ml_d cX11_init 216 (.newarray .int) 2 218 := ⟨by decide +kernel, rfl⟩
theorem dX11_init_218 : ml_d cX11_init 218 (.putfield 87) 3 221 := ⟨by decide +kernel, rfl⟩
theorem dX11_init_221 : ml_d cX11_init 221 (.aload_n 0) 1 222 := ⟨by decide +kernel, rfl⟩
theorem dX11_init_222 : ml_d cX11_init 222 (.sipush 408) 3 225 := ⟨by decide +kernel, rfl⟩
theorem dX11_init_225 : ml_d cX11_init 225 (.newarray .int) 2 227 := ⟨by decide +kernel, rfl⟩
theorem dX11_init_227 : ml_d cX11_init 227 (.putfield 90) 3 230 := ⟨by decide +kernel, rfl⟩
theorem dX11_init_230 : ml_d cX11_init 230 (.aload_n 0) 1 231 := ⟨by decide +kernel, rfl⟩
theorem dX11_init_231 : ml_d cX11_init 231 (.iconst 1) 1 232 := ⟨by decide +kernel, rfl⟩
theorem dX11_init_232 : ml_d cX11_init 232 (.putfield 93) 3 235 := ⟨by decide +kernel, rfl⟩
theorem dX11_init_235 : ml_d cX11_init 235 (.iconst 0) 1 236 := ⟨by decide +kernel, rfl⟩
theorem dX11_init_236 : ml_d cX11_init 236 (.istore_n 1) 1 237 := ⟨by decide +kernel, rfl⟩
theorem dX11_init_237 : ml_d cX11_init 237 (.iload_n 1) 1 238 := ⟨by decide +kernel, rfl⟩
theorem dX11_init_238 : ml_d cX11_init 238 (.bipush 6) 2 240 := ⟨by decide +kernel, rfl⟩
theorem dX11_init_240 : ml_j cX11_init 240 (.if_icmp .ge) 256 243 := ⟨16, by decide +kernel, by decide, rfl⟩
theorem dX11_init_243 : ml_d cX11_init 243 (.aload_n 0) 1 244 := ⟨by decide +kernel, rfl⟩
theorem dX11_init_244 : ml_d cX11_init 244 (.getfield 13) 3 247 := ⟨by decide +kernel, rfl⟩
theorem dX11_init_247 : ml_d cX11_init 247 (.iload_n 1) 1 248 := ⟨by decide +kernel, rfl⟩
theorem dX11_init_248 : ml_d cX11_init 248 (.iconst (-1)) 1 249 := ⟨by decide +kernel, rfl⟩
theorem dX11_init_249 : ml_d cX11_init 249 (.iastore) 1 250 := ⟨by decide +kernel, rfl⟩
theorem dX11_init_250 : ml_d cX11_init 250 (.iinc 1 1) 3 253 := ⟨by decide +kernel, rfl⟩
theorem dX11_init_253 : ml_j cX11_init 253 .goto 237 256 := ⟨(-16), by decide +kernel, by decide, rfl⟩
theorem dX11_init_256 : ml_d cX11_init 256 (.iconst 0) 1 257 := ⟨by decide +kernel, rfl⟩
theorem dX11_init_257 : ml_d cX11_init 257 (.istore_n 1) 1 258 := ⟨by decide +kernel, rfl⟩
theorem dX11_init_258 : ml_d cX11_init 258 (.iload_n 1) 1 259 := ⟨by decide +kernel, rfl⟩
theorem dX11_init_259 : ml_d cX11_init 259 (.iconst 4) 1 260 := ⟨by decide +kernel, rfl⟩
theorem dX11_init_260 : ml_j cX11_init 260 (.if_icmp .ge) 276 263 := ⟨16, by decide +kernel, by decide, rfl⟩
theorem dX11_init_263 : ml_d cX11_init 263 (.aload_n 0) 1 264 := ⟨by decide +kernel, rfl⟩
theorem dX11_init_264 : ml_d cX11_init 264 (.getfield 22) 3 267 := ⟨by decide +kernel, rfl⟩
theorem dX11_init_267 : ml_d cX11_init 267 (.iload_n 1) 1 268 := ⟨by decide +kernel, rfl⟩
theorem dX11_init_268 : ml_d cX11_init 268 (.iconst (-1)) 1 269 := ⟨by decide +kernel, rfl⟩
theorem dX11_init_269 : ml_d cX11_init 269 (.iastore) 1 270 := ⟨by decide +kernel, rfl⟩
theorem dX11_init_270 : ml_d cX11_init 270 (.iinc 1 1) 3 273 := ⟨by decide +kernel, rfl⟩
theorem dX11_init_273 : ml_j cX11_init 273 .goto 258 276 := ⟨(-15), by decide +kernel, by decide, rfl⟩
theorem dX11_init_276 : ml_d cX11_init 276 (.return_) 1 277 := ⟨by decide +kernel, rfl⟩
def fX11_init_258 : Nat → Nat → Int32 → ml_M → Option ml_M
  | 0, _, _, _ => none
  | fu + 1, l0, l1, m =>
    if (4 : Int32) ≤ l1 then
    some m
    else
    if (ml_K m l0).1 = 11 then
    ml_let (ml_R m l0 7) fun a270 =>
    if ml_in m a270 20 l1 then
    ml_let (ml_sI m a270 l1.toNatClampNeg (-1 : Int32)) fun m272 =>
    (fX11_init_258 fu) l0 (l1 + (1 : Int32)) m272
    else none
    else none
theorem vX11_init_258 {E : ml_E} (hL : ml_eL E = 2) {rm : ml_M} (hr : ∀ (pc pc' : Nat) (lv : List (Nat × ml_X)), ml_d cX11_init pc .return_ 1 pc' → True → ml_V E "LostRoomModel" cX11_init 2 true rm pc lv []) : ∀ (fu : Nat) (l0 : Nat) (l1 : Int32) (m : ml_M), fX11_init_258 fu l0 l1 m = some rm → ml_V E "LostRoomModel" cX11_init 2 true m 258 [(0, ml_r l0), (1, ml_i l1)] [] := by
  intro fu
  induction fu with
  | zero => intro l0 l1 m h; exact ml_none h
  | succ fu ih =>
    intro l0 l1 m h
    have hk258 := ih
    unfold fX11_init_258 at h
    exact ml_iload_n dX11_init_258 1 rfl <| ml_iconst dX11_init_259 kc_i4 <| ml_icmp_ge dX11_init_260 h (fun _ h => ml_rv hr dX11_init_276 trivial h) (fun _ h => ml_aload_n dX11_init_263 0 rfl <| ml_ck_of h fun hc269 h => ml_getR dX11_init_264 wb_63 hc269 <| ml_lx (mk := ml_r) h fun a270 h => ml_iload_n dX11_init_267 1 rfl <| ml_iconst dX11_init_268 kc_im1 <| ml_ck_of h fun hi271 h => ml_iast dX11_init_269 hi271 <| ml_lt (m := m) rfl h fun m272 em273 h => ml_iinc (lv' := [(1, ml_i (l1 + (1 : Int32))), (0, ml_r l0)]) dX11_init_270 1 rfl (congrArg (l1 + ·) kc_i1) (ml_hn hL rfl) rfl <| ml_goto dX11_init_273 <| ml_V.sub [1, 0] rfl (hk258 _ _ _ h))
def fX11_init_256 (l0 : Nat) (m : ml_M) : Option ml_M :=
    fX11_init_258 ml_fu l0 (0 : Int32) m
theorem vX11_init_256 {E : ml_E} (hL : ml_eL E = 2) {rm : ml_M} (hr : ∀ (pc pc' : Nat) (lv : List (Nat × ml_X)), ml_d cX11_init pc .return_ 1 pc' → True → ml_V E "LostRoomModel" cX11_init 2 true rm pc lv []) : ∀ (l0 : Nat) (m : ml_M), fX11_init_256 l0 m = some rm → ml_V E "LostRoomModel" cX11_init 2 true m 256 [(0, ml_r l0)] [] := by
  intro l0 m h
  unfold fX11_init_256 at h
  exact ml_iconst dX11_init_256 kc_i0 <| ml_istore_n (lv' := [(1, ml_i (0 : Int32)), (0, ml_r l0)]) dX11_init_257 (ml_hn hL rfl) rfl <| ml_V.sub [1, 0] rfl (vX11_init_258 hL hr  ml_fu _ _ _ h)
def fX11_init_237 : Nat → Nat → Int32 → ml_M → Option ml_M
  | 0, _, _, _ => none
  | fu + 1, l0, l1, m =>
    if (6 : Int32) ≤ l1 then
    fX11_init_256 l0 m
    else
    if (ml_K m l0).1 = 11 then
    ml_let (ml_R m l0 4) fun a275 =>
    if ml_in m a275 20 l1 then
    ml_let (ml_sI m a275 l1.toNatClampNeg (-1 : Int32)) fun m277 =>
    (fX11_init_237 fu) l0 (l1 + (1 : Int32)) m277
    else none
    else none
theorem vX11_init_237 {E : ml_E} (hL : ml_eL E = 2) {rm : ml_M} (hr : ∀ (pc pc' : Nat) (lv : List (Nat × ml_X)), ml_d cX11_init pc .return_ 1 pc' → True → ml_V E "LostRoomModel" cX11_init 2 true rm pc lv []) : ∀ (fu : Nat) (l0 : Nat) (l1 : Int32) (m : ml_M), fX11_init_237 fu l0 l1 m = some rm → ml_V E "LostRoomModel" cX11_init 2 true m 237 [(0, ml_r l0), (1, ml_i l1)] [] := by
  intro fu
  induction fu with
  | zero => intro l0 l1 m h; exact ml_none h
  | succ fu ih =>
    intro l0 l1 m h
    have hk237 := ih
    unfold fX11_init_237 at h
    exact ml_iload_n dX11_init_237 1 rfl <| ml_bipush dX11_init_238 kc_b6 <| ml_icmp_ge dX11_init_240 h (fun _ h => ml_V.sub [0] rfl (vX11_init_256 hL hr  _ _ h)) (fun _ h => ml_aload_n dX11_init_243 0 rfl <| ml_ck_of h fun hc274 h => ml_getR dX11_init_244 wb_64 hc274 <| ml_lx (mk := ml_r) h fun a275 h => ml_iload_n dX11_init_247 1 rfl <| ml_iconst dX11_init_248 kc_im1 <| ml_ck_of h fun hi276 h => ml_iast dX11_init_249 hi276 <| ml_lt (m := m) rfl h fun m277 em278 h => ml_iinc (lv' := [(1, ml_i (l1 + (1 : Int32))), (0, ml_r l0)]) dX11_init_250 1 rfl (congrArg (l1 + ·) kc_i1) (ml_hn hL rfl) rfl <| ml_goto dX11_init_253 <| ml_V.sub [1, 0] rfl (hk237 _ _ _ h))
def fX11_init (l0 : Nat) (m : ml_M) : Option ml_M :=
    if l0 ≠ 0 then
    ml_let (ml_n m + 1) fun a280 =>
    ml_let (ml_al m 20 (6 : Int32).toNatClampNeg (6 : Int32).toNatClampNeg) fun m281 =>
    if (ml_K m281 l0).1 = 11 then
    ml_let (ml_sR m281 l0 1 a280) fun m285 =>
    ml_let (ml_n m285 + 1) fun a287 =>
    ml_let (ml_al m285 20 (6 : Int32).toNatClampNeg (6 : Int32).toNatClampNeg) fun m288 =>
    if (ml_K m288 l0).1 = 11 then
    ml_let (ml_sR m288 l0 4 a287) fun m292 =>
    ml_let (ml_n m292 + 1) fun a294 =>
    ml_let (ml_al m292 20 (288 : Int32).toNatClampNeg (288 : Int32).toNatClampNeg) fun m295 =>
    if (ml_K m295 l0).1 = 11 then
    ml_let (ml_sR m295 l0 5 a294) fun m299 =>
    ml_let (ml_n m299 + 1) fun a301 =>
    ml_let (ml_al m299 20 (48 : Int32).toNatClampNeg (48 : Int32).toNatClampNeg) fun m302 =>
    if (ml_K m302 l0).1 = 11 then
    ml_let (ml_sR m302 l0 6 a301) fun m306 =>
    ml_let (ml_n m306 + 1) fun a308 =>
    ml_let (ml_al m306 20 (4 : Int32).toNatClampNeg (4 : Int32).toNatClampNeg) fun m309 =>
    if (ml_K m309 l0).1 = 11 then
    ml_let (ml_sR m309 l0 7 a308) fun m313 =>
    ml_let (ml_n m313 + 1) fun a315 =>
    ml_let (ml_al m313 21 (480 : Int32).toNatClampNeg (480 : Int32).toNatClampNeg) fun m316 =>
    if (ml_K m316 l0).1 = 11 then
    ml_let (ml_sR m316 l0 8 a315) fun m320 =>
    ml_let (ml_n m320 + 1) fun a322 =>
    ml_let (ml_al m320 20 (40 : Int32).toNatClampNeg (40 : Int32).toNatClampNeg) fun m323 =>
    if (ml_K m323 l0).1 = 11 then
    ml_let (ml_sR m323 l0 12 a322) fun m327 =>
    ml_let (ml_n m327 + 1) fun a329 =>
    ml_let (ml_al m327 20 (16 : Int32).toNatClampNeg (16 : Int32).toNatClampNeg) fun m330 =>
    if (ml_K m330 l0).1 = 11 then
    ml_let (ml_sR m330 l0 13 a329) fun m334 =>
    ml_let (ml_n m334 + 1) fun a336 =>
    ml_let (ml_al m334 20 (24 : Int32).toNatClampNeg (24 : Int32).toNatClampNeg) fun m337 =>
    if (ml_K m337 l0).1 = 11 then
    ml_let (ml_sR m337 l0 14 a336) fun m341 =>
    ml_let (ml_n m341 + 1) fun a343 =>
    ml_let (ml_al m341 20 (40 : Int32).toNatClampNeg (40 : Int32).toNatClampNeg) fun m344 =>
    if (ml_K m344 l0).1 = 11 then
    ml_let (ml_sR m344 l0 20 a343) fun m348 =>
    ml_let (ml_n m348 + 1) fun a350 =>
    ml_let (ml_al m348 20 (16 : Int32).toNatClampNeg (16 : Int32).toNatClampNeg) fun m351 =>
    if (ml_K m351 l0).1 = 11 then
    ml_let (ml_sR m351 l0 21 a350) fun m355 =>
    ml_let (ml_n m355 + 1) fun a357 =>
    ml_let (ml_al m355 20 (24 : Int32).toNatClampNeg (24 : Int32).toNatClampNeg) fun m358 =>
    if (ml_K m358 l0).1 = 11 then
    ml_let (ml_sR m358 l0 22 a357) fun m362 =>
    ml_let (ml_n m362 + 1) fun a364 =>
    ml_let (ml_al m362 20 (140 : Int32).toNatClampNeg (140 : Int32).toNatClampNeg) fun m365 =>
    if (ml_K m365 l0).1 = 11 then
    ml_let (ml_sR m365 l0 25 a364) fun m369 =>
    ml_let (ml_n m369 + 1) fun a371 =>
    ml_let (ml_al m369 20 (256 : Int32).toNatClampNeg (256 : Int32).toNatClampNeg) fun m372 =>
    if (ml_K m372 l0).1 = 11 then
    ml_let (ml_sR m372 l0 26 a371) fun m376 =>
    ml_let (ml_n m376 + 1) fun a378 =>
    ml_let (ml_al m376 20 (8 : Int32).toNatClampNeg (8 : Int32).toNatClampNeg) fun m379 =>
    if (ml_K m379 l0).1 = 11 then
    ml_let (ml_sR m379 l0 27 a378) fun m383 =>
    ml_let (ml_n m383 + 1) fun a385 =>
    ml_let (ml_al m383 20 (8 : Int32).toNatClampNeg (8 : Int32).toNatClampNeg) fun m386 =>
    if (ml_K m386 l0).1 = 11 then
    ml_let (ml_sR m386 l0 29 a385) fun m390 =>
    ml_let (ml_n m390 + 1) fun a392 =>
    ml_let (ml_al m390 20 (64 : Int32).toNatClampNeg (64 : Int32).toNatClampNeg) fun m393 =>
    if (ml_K m393 l0).1 = 11 then
    ml_let (ml_sR m393 l0 31 a392) fun m397 =>
    ml_let (ml_n m397 + 1) fun a399 =>
    ml_let (ml_al m397 20 (24 : Int32).toNatClampNeg (24 : Int32).toNatClampNeg) fun m400 =>
    if (ml_K m400 l0).1 = 11 then
    ml_let (ml_sR m400 l0 35 a399) fun m404 =>
    ml_let (ml_n m404 + 1) fun a406 =>
    ml_let (ml_al m404 20 (2304 : Int32).toNatClampNeg (2304 : Int32).toNatClampNeg) fun m407 =>
    if (ml_K m407 l0).1 = 11 then
    ml_let (ml_sR m407 l0 36 a406) fun m411 =>
    ml_let (ml_n m411 + 1) fun a413 =>
    ml_let (ml_al m411 20 (40 : Int32).toNatClampNeg (40 : Int32).toNatClampNeg) fun m414 =>
    if (ml_K m414 l0).1 = 11 then
    ml_let (ml_sR m414 l0 38 a413) fun m418 =>
    ml_let (ml_n m418 + 1) fun a420 =>
    ml_let (ml_al m418 20 (10240 : Int32).toNatClampNeg (10240 : Int32).toNatClampNeg) fun m421 =>
    if (ml_K m421 l0).1 = 11 then
    ml_let (ml_sR m421 l0 39 a420) fun m425 =>
    ml_let (ml_n m425 + 1) fun a427 =>
    ml_let (ml_al m425 20 (10240 : Int32).toNatClampNeg (10240 : Int32).toNatClampNeg) fun m428 =>
    if (ml_K m428 l0).1 = 11 then
    ml_let (ml_sR m428 l0 40 a427) fun m432 =>
    ml_let (ml_n m432 + 1) fun a434 =>
    ml_let (ml_al m432 20 (20 : Int32).toNatClampNeg (20 : Int32).toNatClampNeg) fun m435 =>
    if (ml_K m435 l0).1 = 11 then
    ml_let (ml_sR m435 l0 42 a434) fun m439 =>
    ml_let (ml_n m439 + 1) fun a441 =>
    ml_let (ml_al m439 20 (10240 : Int32).toNatClampNeg (10240 : Int32).toNatClampNeg) fun m442 =>
    if (ml_K m442 l0).1 = 11 then
    ml_let (ml_sR m442 l0 43 a441) fun m446 =>
    ml_let (ml_n m446 + 1) fun a448 =>
    ml_let (ml_al m446 22 (1024 : Int32).toNatClampNeg (1024 : Int32).toNatClampNeg) fun m449 =>
    if (ml_K m449 l0).1 = 11 then
    ml_let (ml_sR m449 l0 44 a448) fun m453 =>
    ml_let (ml_n m453 + 1) fun a455 =>
    ml_let (ml_al m453 20 (1024 : Int32).toNatClampNeg (1024 : Int32).toNatClampNeg) fun m456 =>
    if (ml_K m456 l0).1 = 11 then
    ml_let (ml_sR m456 l0 45 a455) fun m460 =>
    ml_let (ml_n m460 + 1) fun a462 =>
    ml_let (ml_al m460 20 (408 : Int32).toNatClampNeg (408 : Int32).toNatClampNeg) fun m463 =>
    if (ml_K m463 l0).1 = 11 then
    ml_let (ml_sR m463 l0 47 a462) fun m467 =>
    ml_let (ml_sI m467 l0 23 (1 : Int32)) fun m469 =>
    fX11_init_237 ml_fu l0 (0 : Int32) m469
    else none
    else none
    else none
    else none
    else none
    else none
    else none
    else none
    else none
    else none
    else none
    else none
    else none
    else none
    else none
    else none
    else none
    else none
    else none
    else none
    else none
    else none
    else none
    else none
    else none
    else none
    else none
    else none
theorem wX11_init_0 {E : ml_E} (hL : ml_eL E = 2) {rm : ml_M} (hr : ∀ (pc pc' : Nat) (lv : List (Nat × ml_X)), ml_d cX11_init pc .return_ 1 pc' → True → ml_V E "LostRoomModel" cX11_init 2 true rm pc lv []) : ∀ (l0 : Nat) (m : ml_M), fX11_init l0 m = some rm → ml_V E "LostRoomModel" cX11_init 2 true m 0 [(0, ml_r l0)] [] := by
  intro l0 m h
  unfold fX11_init at h
  exact ml_aload_n dX11_init_0 0 rfl <| ml_ck_of h fun hz279 h => ml_objInit dX11_init_1 wb_65 (Nat.le_of_ble_eq_true rfl) (Nat.le_of_ble_eq_true rfl) hz279 <| ml_aload_n dX11_init_4 0 rfl <| ml_bipush dX11_init_5 kc_b6 <| ml_newAs (kd := 20) dX11_init_7 wb_0 (by decide) h fun a280 m281 hn282 hc283 h => ml_ck_of h fun hc284 h => ml_putR dX11_init_9 wb_66 hc284 <| ml_lt (m := m281) rfl h fun m285 em286 h => ml_aload_n dX11_init_12 0 rfl <| ml_bipush dX11_init_13 kc_b6 <| ml_newAs (kd := 20) dX11_init_15 wb_0 (by decide) h fun a287 m288 hn289 hc290 h => ml_ck_of h fun hc291 h => ml_putR dX11_init_17 wb_67 hc291 <| ml_lt (m := m288) rfl h fun m292 em293 h => ml_aload_n dX11_init_20 0 rfl <| ml_sipush dX11_init_21 kc_s288 <| ml_newAs (kd := 20) dX11_init_24 wb_0 (by decide) h fun a294 m295 hn296 hc297 h => ml_ck_of h fun hc298 h => ml_putR dX11_init_26 wb_68 hc298 <| ml_lt (m := m295) rfl h fun m299 em300 h => ml_aload_n dX11_init_29 0 rfl <| ml_bipush dX11_init_30 kc_b48 <| ml_newAs (kd := 20) dX11_init_32 wb_0 (by decide) h fun a301 m302 hn303 hc304 h => ml_ck_of h fun hc305 h => ml_putR dX11_init_34 wb_69 hc305 <| ml_lt (m := m302) rfl h fun m306 em307 h => ml_aload_n dX11_init_37 0 rfl <| ml_iconst dX11_init_38 kc_i4 <| ml_newAs (kd := 20) dX11_init_39 wb_0 (by decide) h fun a308 m309 hn310 hc311 h => ml_ck_of h fun hc312 h => ml_putR dX11_init_41 wb_70 hc312 <| ml_lt (m := m309) rfl h fun m313 em314 h => ml_aload_n dX11_init_44 0 rfl <| ml_sipush dX11_init_45 kc_s480 <| ml_newAs (kd := 21) dX11_init_48 wb_41 (by decide) h fun a315 m316 hn317 hc318 h => ml_ck_of h fun hc319 h => ml_putR dX11_init_50 wb_71 hc319 <| ml_lt (m := m316) rfl h fun m320 em321 h => ml_aload_n dX11_init_53 0 rfl <| ml_bipush dX11_init_54 kc_b40 <| ml_newAs (kd := 20) dX11_init_56 wb_0 (by decide) h fun a322 m323 hn324 hc325 h => ml_ck_of h fun hc326 h => ml_putR dX11_init_58 wb_72 hc326 <| ml_lt (m := m323) rfl h fun m327 em328 h => ml_aload_n dX11_init_61 0 rfl <| ml_bipush dX11_init_62 kc_b16 <| ml_newAs (kd := 20) dX11_init_64 wb_0 (by decide) h fun a329 m330 hn331 hc332 h => ml_ck_of h fun hc333 h => ml_putR dX11_init_66 wb_73 hc333 <| ml_lt (m := m330) rfl h fun m334 em335 h => ml_aload_n dX11_init_69 0 rfl <| ml_bipush dX11_init_70 kc_b24 <| ml_newAs (kd := 20) dX11_init_72 wb_0 (by decide) h fun a336 m337 hn338 hc339 h => ml_ck_of h fun hc340 h => ml_putR dX11_init_74 wb_74 hc340 <| ml_lt (m := m337) rfl h fun m341 em342 h => ml_aload_n dX11_init_77 0 rfl <| ml_bipush dX11_init_78 kc_b40 <| ml_newAs (kd := 20) dX11_init_80 wb_0 (by decide) h fun a343 m344 hn345 hc346 h => ml_ck_of h fun hc347 h => ml_putR dX11_init_82 wb_75 hc347 <| ml_lt (m := m344) rfl h fun m348 em349 h => ml_aload_n dX11_init_85 0 rfl <| ml_bipush dX11_init_86 kc_b16 <| ml_newAs (kd := 20) dX11_init_88 wb_0 (by decide) h fun a350 m351 hn352 hc353 h => ml_ck_of h fun hc354 h => ml_putR dX11_init_90 wb_76 hc354 <| ml_lt (m := m351) rfl h fun m355 em356 h => ml_aload_n dX11_init_93 0 rfl <| ml_bipush dX11_init_94 kc_b24 <| ml_newAs (kd := 20) dX11_init_96 wb_0 (by decide) h fun a357 m358 hn359 hc360 h => ml_ck_of h fun hc361 h => ml_putR dX11_init_98 wb_77 hc361 <| ml_lt (m := m358) rfl h fun m362 em363 h => ml_aload_n dX11_init_101 0 rfl <| ml_sipush dX11_init_102 kc_s140 <| ml_newAs (kd := 20) dX11_init_105 wb_0 (by decide) h fun a364 m365 hn366 hc367 h => ml_ck_of h fun hc368 h => ml_putR dX11_init_107 wb_78 hc368 <| ml_lt (m := m365) rfl h fun m369 em370 h => ml_aload_n dX11_init_110 0 rfl <| ml_sipush dX11_init_111 kc_s256 <| ml_newAs (kd := 20) dX11_init_114 wb_0 (by decide) h fun a371 m372 hn373 hc374 h => ml_ck_of h fun hc375 h => ml_putR dX11_init_116 wb_79 hc375 <| ml_lt (m := m372) rfl h fun m376 em377 h => ml_aload_n dX11_init_119 0 rfl <| ml_bipush dX11_init_120 kc_b8 <| ml_newAs (kd := 20) dX11_init_122 wb_0 (by decide) h fun a378 m379 hn380 hc381 h => ml_ck_of h fun hc382 h => ml_putR dX11_init_124 wb_80 hc382 <| ml_lt (m := m379) rfl h fun m383 em384 h => ml_aload_n dX11_init_127 0 rfl <| ml_bipush dX11_init_128 kc_b8 <| ml_newAs (kd := 20) dX11_init_130 wb_0 (by decide) h fun a385 m386 hn387 hc388 h => ml_ck_of h fun hc389 h => ml_putR dX11_init_132 wb_81 hc389 <| ml_lt (m := m386) rfl h fun m390 em391 h => ml_aload_n dX11_init_135 0 rfl <| ml_bipush dX11_init_136 kc_b64 <| ml_newAs (kd := 20) dX11_init_138 wb_0 (by decide) h fun a392 m393 hn394 hc395 h => ml_ck_of h fun hc396 h => ml_putR dX11_init_140 wb_82 hc396 <| ml_lt (m := m393) rfl h fun m397 em398 h => ml_aload_n dX11_init_143 0 rfl <| ml_bipush dX11_init_144 kc_b24 <| ml_newAs (kd := 20) dX11_init_146 wb_0 (by decide) h fun a399 m400 hn401 hc402 h => ml_ck_of h fun hc403 h => ml_putR dX11_init_148 wb_83 hc403 <| ml_lt (m := m400) rfl h fun m404 em405 h => ml_aload_n dX11_init_151 0 rfl <| ml_sipush dX11_init_152 kc_s2304 <| ml_newAs (kd := 20) dX11_init_155 wb_0 (by decide) h fun a406 m407 hn408 hc409 h => ml_ck_of h fun hc410 h => ml_putR dX11_init_157 wb_84 hc410 <| ml_lt (m := m407) rfl h fun m411 em412 h => ml_aload_n dX11_init_160 0 rfl <| ml_bipush dX11_init_161 kc_b40 <| ml_newAs (kd := 20) dX11_init_163 wb_0 (by decide) h fun a413 m414 hn415 hc416 h => ml_ck_of h fun hc417 h => ml_putR dX11_init_165 wb_85 hc417 <| ml_lt (m := m414) rfl h fun m418 em419 h => ml_aload_n dX11_init_168 0 rfl <| ml_sipush dX11_init_169 kc_s10240 <| ml_newAs (kd := 20) dX11_init_172 wb_0 (by decide) h fun a420 m421 hn422 hc423 h => ml_ck_of h fun hc424 h => ml_putR dX11_init_174 wb_86 hc424 <| ml_lt (m := m421) rfl h fun m425 em426 h => ml_aload_n dX11_init_177 0 rfl <| ml_sipush dX11_init_178 kc_s10240 <| ml_newAs (kd := 20) dX11_init_181 wb_0 (by decide) h fun a427 m428 hn429 hc430 h => ml_ck_of h fun hc431 h => ml_putR dX11_init_183 wb_87 hc431 <| ml_lt (m := m428) rfl h fun m432 em433 h => ml_aload_n dX11_init_186 0 rfl <| ml_bipush dX11_init_187 kc_b20 <| ml_newAs (kd := 20) dX11_init_189 wb_0 (by decide) h fun a434 m435 hn436 hc437 h => ml_ck_of h fun hc438 h => ml_putR dX11_init_191 wb_88 hc438 <| ml_lt (m := m435) rfl h fun m439 em440 h => ml_aload_n dX11_init_194 0 rfl <| ml_sipush dX11_init_195 kc_s10240 <| ml_newAs (kd := 20) dX11_init_198 wb_0 (by decide) h fun a441 m442 hn443 hc444 h => ml_ck_of h fun hc445 h => ml_putR dX11_init_200 wb_89 hc445 <| ml_lt (m := m442) rfl h fun m446 em447 h => ml_aload_n dX11_init_203 0 rfl <| ml_sipush dX11_init_204 kc_s1024 <| ml_newAs (kd := 22) dX11_init_207 wb_17 (by decide) h fun a448 m449 hn450 hc451 h => ml_ck_of h fun hc452 h => ml_putR dX11_init_209 wb_90 hc452 <| ml_lt (m := m449) rfl h fun m453 em454 h => ml_aload_n dX11_init_212 0 rfl <| ml_sipush dX11_init_213 kc_s1024 <| ml_newAs (kd := 20) dX11_init_216 wb_0 (by decide) h fun a455 m456 hn457 hc458 h => ml_ck_of h fun hc459 h => ml_putR dX11_init_218 wb_91 hc459 <| ml_lt (m := m456) rfl h fun m460 em461 h => ml_aload_n dX11_init_221 0 rfl <| ml_sipush dX11_init_222 kc_s408 <| ml_newAs (kd := 20) dX11_init_225 wb_0 (by decide) h fun a462 m463 hn464 hc465 h => ml_ck_of h fun hc466 h => ml_putR dX11_init_227 wb_92 hc466 <| ml_lt (m := m463) rfl h fun m467 em468 h => ml_aload_n dX11_init_230 0 rfl <| ml_iconst dX11_init_231 kc_i1 <| ml_putI dX11_init_232 wb_93 (ml_kk em468 hc466) <| ml_lt (m := m467) rfl h fun m469 em470 h => ml_iconst dX11_init_235 kc_i0 <| ml_istore_n (lv' := [(1, ml_i (0 : Int32)), (0, ml_r l0)]) dX11_init_236 (ml_hn hL rfl) rfl <| ml_V.sub [1, 0] rfl (vX11_init_237 hL hr  ml_fu _ _ _ h)
theorem sX11_init {l0 : Nat} {m : ml_M} {rm : ml_M} (h : fX11_init l0 m = some rm) : ml_Sn yX11_init cX11_init 2 none 2 [ml_r l0] m none rm :=
  ml_Sn_of (P := True) (ini := true) (by decide +kernel) (Nat.le_of_ble_eq_true rfl) (fun _ => rfl) (fun _ => ml_RkV) fun E hL hr => wX11_init_0 hL hr _ _ h
theorem dX10_within_0 : ml_d cX10_within 0 (.iload_n 0) 1 1 := ⟨by decide +kernel, rfl⟩
theorem dX10_within_1 : ml_d cX10_within 1 (.iload_n 1) 1 2 := ⟨by decide +kernel, rfl⟩
theorem dX10_within_2 : ml_j cX10_within 2 (.if_icmp .lt) 14 5 := ⟨12, by decide +kernel, by decide, rfl⟩
theorem dX10_within_5 : ml_d cX10_within 5 (.iload_n 0) 1 6 := ⟨by decide +kernel, rfl⟩
theorem dX10_within_6 : ml_d cX10_within 6 (.iload_n 2) 1 7 := ⟨by decide +kernel, rfl⟩
theorem dX10_within_7 : ml_j cX10_within 7 (.if_icmp .gt) 14 10 := ⟨7, by decide +kernel, by decide, rfl⟩
theorem dX10_within_10 : ml_d cX10_within 10 (.iconst 1) 1 11 := ⟨by decide +kernel, rfl⟩
theorem dX10_within_11 : ml_j cX10_within 11 .goto 15 14 := ⟨4, by decide +kernel, by decide, rfl⟩
theorem dX10_within_14 : ml_d cX10_within 14 (.iconst 0) 1 15 := ⟨by decide +kernel, rfl⟩
theorem dX10_within_15 : ml_d cX10_within 15 (.ireturn) 1 16 := ⟨by decide +kernel, rfl⟩
def fX10_within (l0 : Int32) (l1 : Int32) (l2 : Int32) (m : ml_M) : Option Int32 :=
    if l0 < l1 then
    some (0 : Int32)
    else
    if l2 < l0 then
    some (0 : Int32)
    else
    some (1 : Int32)
theorem wX10_within_0 {E : ml_E} (hL : ml_eL E = 3) {rv : Int32} {m : ml_M} (hr : ∀ (pc pc' : Nat) (lv : List (Nat × ml_X)), ml_d cX10_within pc .ireturn 1 pc' → (rv = 0 ∨ rv = 1) → ml_V E "LostRoom" cX10_within 2 false m pc lv [ml_i rv]) : ∀ (l0 : Int32) (l1 : Int32) (l2 : Int32), fX10_within l0 l1 l2 m = some rv → ml_V E "LostRoom" cX10_within 2 false m 0 [(0, ml_i l0), (1, ml_i l1), (2, ml_i l2)] [] := by
  intro l0 l1 l2 h
  unfold fX10_within at h
  exact ml_iload_n dX10_within_0 0 rfl <| ml_iload_n dX10_within_1 1 rfl <| ml_icmp_lt dX10_within_2 h (fun _ h => ml_iconst dX10_within_14 kc_i0 <| ml_rp (mk := ml_i) hr dX10_within_15 (fun e => Or.inl e.symm) h) (fun _ h => ml_iload_n dX10_within_5 0 rfl <| ml_iload_n dX10_within_6 2 rfl <| ml_icmp_gt dX10_within_7 h (fun _ h => ml_iconst dX10_within_14 kc_i0 <| ml_rp (mk := ml_i) hr dX10_within_15 (fun e => Or.inl e.symm) h) (fun _ h => ml_iconst dX10_within_10 kc_i1 <| ml_goto dX10_within_11 <| ml_rp (mk := ml_i) hr dX10_within_15 (fun e => Or.inr e.symm) h))
theorem sX10_within {l0 : Int32} {l1 : Int32} {l2 : Int32} {m : ml_M} {rv : Int32} (h : fX10_within l0 l1 l2 m = some rv) : ml_Sn yX10_within cX10_within 3 (some .boolean) 2 [ml_i l0, ml_i l1, ml_i l2] m (some (ml_i rv)) m :=
  ml_Sn_of (P := (rv = 0 ∨ rv = 1)) (ini := false) (by decide +kernel) (Nat.le_of_ble_eq_true rfl) (fun h => by cases h) (fun hz => ml_RkZ rv hz) fun E hL hr => wX10_within_0 hL hr _ _ _ h
theorem dX10_isRow_0 : ml_d cX10_isRow 0 (.iload_n 0) 1 1 := ⟨by decide +kernel, rfl⟩
theorem dX10_isRow_1 : ml_d cX10_isRow 1 (.iconst 0) 1 2 := ⟨by decide +kernel, rfl⟩
theorem dX10_isRow_2 : ml_d cX10_isRow 2 (.iconst 5) 1 3 := ⟨by decide +kernel, rfl⟩
theorem dX10_isRow_3 : ml_d cX10_isRow 3 (.invokestatic 138) 3 6 := ⟨by decide +kernel, rfl⟩
theorem dX10_isRow_6 : ml_d cX10_isRow 6 (.ireturn) 1 7 := ⟨by decide +kernel, rfl⟩
def fX10_isRow (l0 : Int32) (m : ml_M) : Option Int32 :=
    ml_b1 (fX10_within l0 (0 : Int32) (5 : Int32) m) fun r472 =>
    if r472 = 0 ∨ r472 = 1 then some r472 else none
theorem wX10_isRow_0 {E : ml_E} (hL : ml_eL E = 1) {rv : Int32} {m : ml_M} (hr : ∀ (pc pc' : Nat) (lv : List (Nat × ml_X)), ml_d cX10_isRow pc .ireturn 1 pc' → (rv = 0 ∨ rv = 1) → ml_V E "LostRoom" cX10_isRow 3 false m pc lv [ml_i rv]) : ∀ (l0 : Int32), fX10_isRow l0 m = some rv → ml_V E "LostRoom" cX10_isRow 3 false m 0 [(0, ml_i l0)] [] := by
  intro l0 h
  unfold fX10_isRow at h
  exact ml_iload_n dX10_isRow_0 0 rfl <| ml_iconst dX10_isRow_1 kc_i0 <| ml_iconst dX10_isRow_2 kc_i5 <| ml_b1_of h fun r472 hv471 h => ml_callS dX10_isRow_3 wm_124 wb_94 (sX10_within hv471) rfl (Nat.le_of_ble_eq_true rfl) (Nat.le_of_ble_eq_true rfl) rfl <| ml_ck_of h fun hz473 h => ml_rp (mk := ml_i) hr dX10_isRow_6 (fun e => e ▸ hz473) h
theorem sX10_isRow {l0 : Int32} {m : ml_M} {rv : Int32} (h : fX10_isRow l0 m = some rv) : ml_Sn yX10_isRow cX10_isRow 1 (some .boolean) 3 [ml_i l0] m (some (ml_i rv)) m :=
  ml_Sn_of (P := (rv = 0 ∨ rv = 1)) (ini := false) (by decide +kernel) (Nat.le_of_ble_eq_true rfl) (fun h => by cases h) (fun hz => ml_RkZ rv hz) fun E hL hr => wX10_isRow_0 hL hr _ h
theorem dX10_found_0 : ml_d cX10_found 0 (.aload_n 0) 1 1 := ⟨by decide +kernel, rfl⟩
theorem dX10_found_1 : ml_d cX10_found 1 (.iload_n 1) 1 2 := ⟨by decide +kernel, rfl⟩
theorem dX10_found_2 : ml_d cX10_found 2 (.putfield 335) 3 5 := ⟨by decide +kernel, rfl⟩
theorem dX10_found_5 : ml_d cX10_found 5 (.aload_n 0) 1 6 := ⟨by decide +kernel, rfl⟩
theorem dX10_found_6 : ml_d cX10_found 6 (.getfield 79) 3 9 := ⟨by decide +kernel, rfl⟩
theorem dX10_found_9 : ml_d cX10_found 9 (.iload_n 1) 1 10 := ⟨by decide +kernel, rfl⟩
theorem dX10_found_10 : ml_d cX10_found 10 (.dup2) 1 11 := ⟨by decide +kernel, rfl⟩
theorem dX10_found_11 : ml_d cX10_found 11 (.iaload) 1 12 := ⟨by decide +kernel, rfl⟩
theorem dX10_found_12 : ml_d cX10_found 12 (.iconst 1) 1 13 := ⟨by decide +kernel, rfl⟩
theorem dX10_found_13 : ml_d cX10_found 13 (.iadd) 1 14 := ⟨by decide +kernel, rfl⟩
theorem dX10_found_14 : ml_d cX10_found 14 (.iastore) 1 15 := ⟨by decide +kernel, rfl⟩
theorem dX10_found_15 : ml_d cX10_found 15 (.bipush (-3)) 2 17 := ⟨by decide +kernel, rfl⟩
theorem dX10_found_17 : ml_d cX10_found 17 (.ireturn) 1 18 := ⟨by decide +kernel, rfl⟩
def fX10_found (l0 : Nat) (l1 : Int32) (m : ml_M) : Option (Int32 × ml_M) :=
    if (ml_K m l0).1 = 10 then
    ml_let (ml_sI m l0 17 l1) fun m475 =>
    ml_let (ml_R m475 l0 18) fun a477 =>
    if ml_in m475 a477 20 l1 then
    if ml_in m475 a477 20 l1 then
    ml_let (ml_sI m475 a477 l1.toNatClampNeg ((ml_I m475 a477 l1.toNatClampNeg) + (1 : Int32))) fun m480 =>
    some ((-3 : Int32), m480)
    else none
    else none
    else none
theorem wX10_found_0 {E : ml_E} (hL : ml_eL E = 2) {rv : Int32} {rm : ml_M} (hr : ∀ (pc pc' : Nat) (lv : List (Nat × ml_X)), ml_d cX10_found pc .ireturn 1 pc' → True → ml_V E "LostRoom" cX10_found 2 false rm pc lv [ml_i rv]) : ∀ (l0 : Nat) (l1 : Int32) (m : ml_M), fX10_found l0 l1 m = some (rv, rm) → ml_V E "LostRoom" cX10_found 2 false m 0 [(0, ml_r l0), (1, ml_i l1)] [] := by
  intro l0 l1 m h
  unfold fX10_found at h
  exact ml_aload_n dX10_found_0 0 rfl <| ml_iload_n dX10_found_1 1 rfl <| ml_ck_of h fun hc474 h => ml_putI dX10_found_2 wb_95 hc474 <| ml_lt (m := m) rfl h fun m475 em476 h => ml_aload_n dX10_found_5 0 rfl <| ml_getR dX10_found_6 wb_96 (ml_kk em476 hc474) <| ml_lx (mk := ml_r) h fun a477 h => ml_iload_n dX10_found_9 1 rfl <| ml_dup2 dX10_found_10 rfl rfl <| ml_ck_of h fun hi478 h => ml_iald dX10_found_11 hi478 <| ml_iconst dX10_found_12 kc_i1 <| ml_iadd dX10_found_13 <| ml_ck_of h fun hi479 h => ml_iast dX10_found_14 hi479 <| ml_lt (m := m475) rfl h fun m480 em481 h => ml_bipush dX10_found_15 kc_bm3 <| ml_rI (mk := ml_i) hr dX10_found_17 (fun _ => trivial) h
theorem sX10_found {l0 : Nat} {l1 : Int32} {m : ml_M} {rv : Int32} {rm : ml_M} (h : fX10_found l0 l1 m = some (rv, rm)) : ml_Sn yX10_found cX10_found 2 (some .int) 2 [ml_r l0, ml_i l1] m (some (ml_i rv)) rm :=
  ml_Sn_of (P := True) (ini := false) (by decide +kernel) (Nat.le_of_ble_eq_true rfl) (fun h => by cases h) (fun _ => ml_RkI rv) fun E hL hr => wX10_found_0 hL hr _ _ _ h
theorem dX10_row_0 : ml_d cX10_row 0 (.iload_n 1) 1 1 := ⟨by decide +kernel, rfl⟩
theorem dX10_row_1 : ml_d cX10_row 1 (.invokestatic 82) 3 4 := ⟨by decide +kernel, rfl⟩
theorem dX10_row_4 : ml_j cX10_row 4 (.ifCond .eq) 13 7 := ⟨9, by decide +kernel, by decide, rfl⟩
theorem dX10_row_7 : ml_d cX10_row 7 (.iload_n 2) 1 8 := ⟨by decide +kernel, rfl⟩
theorem dX10_row_8 : ml_d cX10_row 8 (.bipush 48) 2 10 := ⟨by decide +kernel, rfl⟩
theorem dX10_row_10 : ml_j cX10_row 10 (.if_icmp .le) 15 13 := ⟨5, by decide +kernel, by decide, rfl⟩
theorem dX10_row_13 : ml_d cX10_row 13 (.iconst (-1)) 1 14 := ⟨by decide +kernel, rfl⟩
theorem dX10_row_14 : ml_d cX10_row 14 (.ireturn) 1 15 := ⟨by decide +kernel, rfl⟩
theorem dX10_row_15 : ml_d cX10_row 15 (.iload_n 2) 1 16 := ⟨by decide +kernel, rfl⟩
theorem dX10_row_16 : ml_j cX10_row 16 (.ifCond .ge) 25 19 := ⟨9, by decide +kernel, by decide, rfl⟩
theorem dX10_row_19 : ml_d cX10_row 19 (.aload_n 0) 1 20 := ⟨by decide +kernel, rfl⟩
theorem dX10_row_20 : ml_d cX10_row 20 (.iconst 5) 1 21 := ⟨by decide +kernel, rfl⟩
theorem dX10_row_21 : ml_d cX10_row 21 (.invokevirtual 86) 3 24 := ⟨by decide +kernel, rfl⟩
theorem dX10_row_24 : ml_d cX10_row 24 (.ireturn) 1 25 := ⟨by decide +kernel, rfl⟩
theorem dX10_row_25 : ml_d cX10_row 25 (.aload_n 0) 1 26 := ⟨by decide +kernel, rfl⟩
theorem dX10_row_26 : ml_d cX10_row 26 (.getfield 11) 3 29 := ⟨by decide +kernel, rfl⟩
theorem dX10_row_29 : ml_d cX10_row 29 (.iload_n 1) 1 30 := ⟨by decide +kernel, rfl⟩
theorem dX10_row_30 : ml_d cX10_row 30 (.iload_n 2) 1 31 := ⟨by decide +kernel, rfl⟩
theorem dX10_row_31 : ml_d cX10_row 31 (.newarray .int) 2 33 := ⟨by decide +kernel, rfl⟩
theorem dX10_row_33 : ml_d cX10_row 33 (.aastore) 1 34 := ⟨by decide +kernel, rfl⟩
theorem dX10_row_34 : ml_d cX10_row 34 (.iload_n 2) 1 35 := ⟨by decide +kernel, rfl⟩
theorem dX10_row_35 : ml_d cX10_row 35 (.ireturn) 1 36 := ⟨by decide +kernel, rfl⟩
def fX10_row (l0 : Nat) (l1 : Int32) (l2 : Int32) (m : ml_M) : Option (Int32 × ml_M) :=
    ml_b1 (fX10_isRow l1 m) fun r483 =>
    if r483 = 0 then
    some ((-1 : Int32), m)
    else
    if l2 ≤ (48 : Int32) then
    if 0 ≤ l2 then
    if (ml_K m l0).1 = 10 then
    ml_let (ml_R m l0 0) fun a485 =>
    if ml_len l2 then
    ml_let (ml_n m + 1) fun a487 =>
    ml_let (ml_al m 20 l2.toNatClampNeg l2.toNatClampNeg) fun m488 =>
    if ml_in m488 a485 23 l1 then
    ml_let (ml_sR m488 a485 l1.toNatClampNeg a487) fun m492 =>
    some (l2, m492)
    else none
    else none
    else none
    else
    if (ml_K m l0).1 = 10 then
    ml_b2 (fX10_found l0 (5 : Int32) m) fun r496 m497 =>
    some (r496, m497)
    else none
    else
    some ((-1 : Int32), m)
theorem wX10_row_0 {E : ml_E} (hL : ml_eL E = 3) {rv : Int32} {rm : ml_M} (hr : ∀ (pc pc' : Nat) (lv : List (Nat × ml_X)), ml_d cX10_row pc .ireturn 1 pc' → True → ml_V E "LostRoom" cX10_row 4 false rm pc lv [ml_i rv]) : ∀ (l0 : Nat) (l1 : Int32) (l2 : Int32) (m : ml_M), fX10_row l0 l1 l2 m = some (rv, rm) → ml_V E "LostRoom" cX10_row 4 false m 0 [(0, ml_r l0), (1, ml_i l1), (2, ml_i l2)] [] := by
  intro l0 l1 l2 m h
  unfold fX10_row at h
  exact ml_iload_n dX10_row_0 1 rfl <| ml_b1_of h fun r483 hv482 h => ml_callS dX10_row_1 wm_128 wb_97 (sX10_isRow hv482) rfl (Nat.le_of_ble_eq_true rfl) (Nat.le_of_ble_eq_true rfl) rfl <| ml_if_eq dX10_row_4 h (fun _ h => ml_iconst dX10_row_13 kc_im1 <| ml_rI (mk := ml_i) hr dX10_row_14 (fun _ => trivial) h) (fun _ h => ml_iload_n dX10_row_7 2 rfl <| ml_bipush dX10_row_8 kc_b48 <| ml_icmp_le dX10_row_10 h (fun _ h => ml_iload_n dX10_row_15 2 rfl <| ml_if_ge dX10_row_16 h (fun _ h => ml_aload_n dX10_row_25 0 rfl <| ml_ck_of h fun hc484 h => ml_getR dX10_row_26 wb_98 hc484 <| ml_lx (mk := ml_r) h fun a485 h => ml_iload_n dX10_row_29 1 rfl <| ml_iload_n dX10_row_30 2 rfl <| ml_ck_of h fun hl486 h => ml_newAs (kd := 20) dX10_row_31 wb_0 hl486 h fun a487 m488 hn489 hc490 h => ml_ck_of h fun hi491 h => ml_aastA (kd := 23) (ka := 20) dX10_row_33 (by decide) hi491 hc490 <| ml_lt (m := m488) rfl h fun m492 em493 h => ml_iload_n dX10_row_34 2 rfl <| ml_rI (mk := ml_i) hr dX10_row_35 (fun _ => trivial) h) (fun _ h => ml_aload_n dX10_row_19 0 rfl <| ml_iconst dX10_row_20 kc_i5 <| ml_ck_of h fun hc495 h => ml_b2_of h fun r496 m497 hv494 h => ml_callV dX10_row_21 wm_132 wb_99 hc495 (sX10_found hv494) rfl (Nat.le_of_ble_eq_true rfl) (Nat.le_of_ble_eq_true rfl) rfl <| ml_rI (mk := ml_i) hr dX10_row_24 (fun _ => trivial) h)) (fun _ h => ml_iconst dX10_row_13 kc_im1 <| ml_rI (mk := ml_i) hr dX10_row_14 (fun _ => trivial) h))
theorem sX10_row {l0 : Nat} {l1 : Int32} {l2 : Int32} {m : ml_M} {rv : Int32} {rm : ml_M} (h : fX10_row l0 l1 l2 m = some (rv, rm)) : ml_Sn yX10_row cX10_row 3 (some .int) 4 [ml_r l0, ml_i l1, ml_i l2] m (some (ml_i rv)) rm :=
  ml_Sn_of (P := True) (ini := false) (by decide +kernel) (Nat.le_of_ble_eq_true rfl) (fun h => by cases h) (fun _ => ml_RkI rv) fun E hL hr => wX10_row_0 hL hr _ _ _ _ h
theorem dX11_in_0 : ml_d cX11_in 0 (.iload_n 0) 1 1 := ⟨by decide +kernel, rfl⟩
theorem dX11_in_1 : ml_d cX11_in 1 (.iload_n 1) 1 2 := ⟨by decide +kernel, rfl⟩
theorem dX11_in_2 : ml_j cX11_in 2 (.if_icmp .lt) 14 5 := ⟨12, by decide +kernel, by decide, rfl⟩
theorem dX11_in_5 : ml_d cX11_in 5 (.iload_n 0) 1 6 := ⟨by decide +kernel, rfl⟩
theorem dX11_in_6 : ml_d cX11_in 6 (.iload_n 2) 1 7 := ⟨by decide +kernel, rfl⟩
theorem dX11_in_7 : ml_j cX11_in 7 (.if_icmp .gt) 14 10 := ⟨7, by decide +kernel, by decide, rfl⟩
theorem dX11_in_10 : ml_d cX11_in 10 (.iconst 1) 1 11 := ⟨by decide +kernel, rfl⟩
theorem dX11_in_11 : ml_j cX11_in 11 .goto 15 14 := ⟨4, by decide +kernel, by decide, rfl⟩
theorem dX11_in_14 : ml_d cX11_in 14 (.iconst 0) 1 15 := ⟨by decide +kernel, rfl⟩
theorem dX11_in_15 : ml_d cX11_in 15 (.ireturn) 1 16 := ⟨by decide +kernel, rfl⟩
def fX11_in (l0 : Int32) (l1 : Int32) (l2 : Int32) (m : ml_M) : Option Int32 :=
    if l0 < l1 then
    some (0 : Int32)
    else
    if l2 < l0 then
    some (0 : Int32)
    else
    some (1 : Int32)
theorem wX11_in_0 {E : ml_E} (hL : ml_eL E = 3) {rv : Int32} {m : ml_M} (hr : ∀ (pc pc' : Nat) (lv : List (Nat × ml_X)), ml_d cX11_in pc .ireturn 1 pc' → (rv = 0 ∨ rv = 1) → ml_V E "LostRoomModel" cX11_in 2 false m pc lv [ml_i rv]) : ∀ (l0 : Int32) (l1 : Int32) (l2 : Int32), fX11_in l0 l1 l2 m = some rv → ml_V E "LostRoomModel" cX11_in 2 false m 0 [(0, ml_i l0), (1, ml_i l1), (2, ml_i l2)] [] := by
  intro l0 l1 l2 h
  unfold fX11_in at h
  exact ml_iload_n dX11_in_0 0 rfl <| ml_iload_n dX11_in_1 1 rfl <| ml_icmp_lt dX11_in_2 h (fun _ h => ml_iconst dX11_in_14 kc_i0 <| ml_rp (mk := ml_i) hr dX11_in_15 (fun e => Or.inl e.symm) h) (fun _ h => ml_iload_n dX11_in_5 0 rfl <| ml_iload_n dX11_in_6 2 rfl <| ml_icmp_gt dX11_in_7 h (fun _ h => ml_iconst dX11_in_14 kc_i0 <| ml_rp (mk := ml_i) hr dX11_in_15 (fun e => Or.inl e.symm) h) (fun _ h => ml_iconst dX11_in_10 kc_i1 <| ml_goto dX11_in_11 <| ml_rp (mk := ml_i) hr dX11_in_15 (fun e => Or.inr e.symm) h))
theorem sX11_in {l0 : Int32} {l1 : Int32} {l2 : Int32} {m : ml_M} {rv : Int32} (h : fX11_in l0 l1 l2 m = some rv) : ml_Sn yX11_in cX11_in 3 (some .boolean) 2 [ml_i l0, ml_i l1, ml_i l2] m (some (ml_i rv)) m :=
  ml_Sn_of (P := (rv = 0 ∨ rv = 1)) (ini := false) (by decide +kernel) (Nat.le_of_ble_eq_true rfl) (fun h => by cases h) (fun hz => ml_RkZ rv hz) fun E hL hr => wX11_in_0 hL hr _ _ _ h
theorem dX11_isRow_0 : ml_d cX11_isRow 0 (.iload_n 0) 1 1 := ⟨by decide +kernel, rfl⟩
theorem dX11_isRow_1 : ml_d cX11_isRow 1 (.iconst 0) 1 2 := ⟨by decide +kernel, rfl⟩
theorem dX11_isRow_2 : ml_d cX11_isRow 2 (.iconst 5) 1 3 := ⟨by decide +kernel, rfl⟩
theorem dX11_isRow_3 : ml_d cX11_isRow 3 (.invokestatic 100) 3 6 := ⟨by decide +kernel, rfl⟩
theorem dX11_isRow_6 : ml_d cX11_isRow 6 (.ireturn) 1 7 := ⟨by decide +kernel, rfl⟩
def fX11_isRow (l0 : Int32) (m : ml_M) : Option Int32 :=
    ml_b1 (fX11_in l0 (0 : Int32) (5 : Int32) m) fun r499 =>
    if r499 = 0 ∨ r499 = 1 then some r499 else none
theorem wX11_isRow_0 {E : ml_E} (hL : ml_eL E = 1) {rv : Int32} {m : ml_M} (hr : ∀ (pc pc' : Nat) (lv : List (Nat × ml_X)), ml_d cX11_isRow pc .ireturn 1 pc' → (rv = 0 ∨ rv = 1) → ml_V E "LostRoomModel" cX11_isRow 3 false m pc lv [ml_i rv]) : ∀ (l0 : Int32), fX11_isRow l0 m = some rv → ml_V E "LostRoomModel" cX11_isRow 3 false m 0 [(0, ml_i l0)] [] := by
  intro l0 h
  unfold fX11_isRow at h
  exact ml_iload_n dX11_isRow_0 0 rfl <| ml_iconst dX11_isRow_1 kc_i0 <| ml_iconst dX11_isRow_2 kc_i5 <| ml_b1_of h fun r499 hv498 h => ml_callS dX11_isRow_3 wm_136 wb_100 (sX11_in hv498) rfl (Nat.le_of_ble_eq_true rfl) (Nat.le_of_ble_eq_true rfl) rfl <| ml_ck_of h fun hz500 h => ml_rp (mk := ml_i) hr dX11_isRow_6 (fun e => e ▸ hz500) h
theorem sX11_isRow {l0 : Int32} {m : ml_M} {rv : Int32} (h : fX11_isRow l0 m = some rv) : ml_Sn yX11_isRow cX11_isRow 1 (some .boolean) 3 [ml_i l0] m (some (ml_i rv)) m :=
  ml_Sn_of (P := (rv = 0 ∨ rv = 1)) (ini := false) (by decide +kernel) (Nat.le_of_ble_eq_true rfl) (fun h => by cases h) (fun hz => ml_RkZ rv hz) fun E hL hr => wX11_isRow_0 hL hr _ h
theorem dX11_meets_0 : ml_d cX11_meets 0 (.aload_n 0) 1 1 := ⟨by decide +kernel, rfl⟩
theorem dX11_meets_1 : ml_d cX11_meets 1 (.iload_n 1) 1 2 := ⟨by decide +kernel, rfl⟩
theorem dX11_meets_2 : ml_d cX11_meets 2 (.putfield 97) 3 5 := ⟨by decide +kernel, rfl⟩
theorem dX11_meets_5 : ml_d cX11_meets 5 (.aload_n 0) 1 6 := ⟨by decide +kernel, rfl⟩
theorem dX11_meets_6 : ml_d cX11_meets 6 (.getfield 7) 3 9 := ⟨by decide +kernel, rfl⟩
theorem dX11_meets_9 : ml_d cX11_meets 9 (.iload_n 1) 1 10 := ⟨by decide +kernel, rfl⟩
theorem dX11_meets_10 : ml_d cX11_meets 10 (.dup2) 1 11 := ⟨by decide +kernel, rfl⟩
theorem dX11_meets_11 : ml_d cX11_meets 11 (.iaload) 1 12 := ⟨by decide +kernel, rfl⟩
theorem dX11_meets_12 : ml_d cX11_meets 12 (.iconst 1) 1 13 := ⟨by decide +kernel, rfl⟩
theorem dX11_meets_13 : ml_d cX11_meets 13 (.iadd) 1 14 := ⟨by decide +kernel, rfl⟩
theorem dX11_meets_14 : ml_d cX11_meets 14 (.iastore) 1 15 := ⟨by decide +kernel, rfl⟩
theorem dX11_meets_15 : ml_d cX11_meets 15 (.bipush (-3)) 2 17 := ⟨by decide +kernel, rfl⟩
theorem dX11_meets_17 : ml_d cX11_meets 17 (.ireturn) 1 18 := ⟨by decide +kernel, rfl⟩
def fX11_meets (l0 : Nat) (l1 : Int32) (m : ml_M) : Option (Int32 × ml_M) :=
    if (ml_K m l0).1 = 11 then
    ml_let (ml_sI m l0 0 l1) fun m502 =>
    ml_let (ml_R m502 l0 1) fun a504 =>
    if ml_in m502 a504 20 l1 then
    if ml_in m502 a504 20 l1 then
    ml_let (ml_sI m502 a504 l1.toNatClampNeg ((ml_I m502 a504 l1.toNatClampNeg) + (1 : Int32))) fun m507 =>
    some ((-3 : Int32), m507)
    else none
    else none
    else none
theorem wX11_meets_0 {E : ml_E} (hL : ml_eL E = 2) {rv : Int32} {rm : ml_M} (hr : ∀ (pc pc' : Nat) (lv : List (Nat × ml_X)), ml_d cX11_meets pc .ireturn 1 pc' → True → ml_V E "LostRoomModel" cX11_meets 2 false rm pc lv [ml_i rv]) : ∀ (l0 : Nat) (l1 : Int32) (m : ml_M), fX11_meets l0 l1 m = some (rv, rm) → ml_V E "LostRoomModel" cX11_meets 2 false m 0 [(0, ml_r l0), (1, ml_i l1)] [] := by
  intro l0 l1 m h
  unfold fX11_meets at h
  exact ml_aload_n dX11_meets_0 0 rfl <| ml_iload_n dX11_meets_1 1 rfl <| ml_ck_of h fun hc501 h => ml_putI dX11_meets_2 wb_101 hc501 <| ml_lt (m := m) rfl h fun m502 em503 h => ml_aload_n dX11_meets_5 0 rfl <| ml_getR dX11_meets_6 wb_102 (ml_kk em503 hc501) <| ml_lx (mk := ml_r) h fun a504 h => ml_iload_n dX11_meets_9 1 rfl <| ml_dup2 dX11_meets_10 rfl rfl <| ml_ck_of h fun hi505 h => ml_iald dX11_meets_11 hi505 <| ml_iconst dX11_meets_12 kc_i1 <| ml_iadd dX11_meets_13 <| ml_ck_of h fun hi506 h => ml_iast dX11_meets_14 hi506 <| ml_lt (m := m502) rfl h fun m507 em508 h => ml_bipush dX11_meets_15 kc_bm3 <| ml_rI (mk := ml_i) hr dX11_meets_17 (fun _ => trivial) h
theorem sX11_meets {l0 : Nat} {l1 : Int32} {m : ml_M} {rv : Int32} {rm : ml_M} (h : fX11_meets l0 l1 m = some (rv, rm)) : ml_Sn yX11_meets cX11_meets 2 (some .int) 2 [ml_r l0, ml_i l1] m (some (ml_i rv)) rm :=
  ml_Sn_of (P := True) (ini := false) (by decide +kernel) (Nat.le_of_ble_eq_true rfl) (fun h => by cases h) (fun _ => ml_RkI rv) fun E hL hr => wX11_meets_0 hL hr _ _ _ h
theorem dX11_row_0 : ml_d cX11_row 0 (.iload_n 1) 1 1 := ⟨by decide +kernel, rfl⟩
theorem dX11_row_1 : ml_d cX11_row 1 (.invokestatic 111) 3 4 := ⟨by decide +kernel, rfl⟩
theorem dX11_row_4 : ml_j cX11_row 4 (.ifCond .eq) 13 7 := ⟨9, by decide +kernel, by decide, rfl⟩
theorem dX11_row_7 : ml_d cX11_row 7 (.iload_n 2) 1 8 := ⟨by decide +kernel, rfl⟩
theorem dX11_row_8 : ml_d cX11_row 8 (.bipush 48) 2 10 := ⟨by decide +kernel, rfl⟩
theorem dX11_row_10 : ml_j cX11_row 10 (.if_icmp .le) 15 13 := ⟨5, by decide +kernel, by decide, rfl⟩
theorem dX11_row_13 : ml_d cX11_row 13 (.iconst (-1)) 1 14 := ⟨by decide +kernel, rfl⟩
theorem dX11_row_14 : ml_d cX11_row 14 (.ireturn) 1 15 := ⟨by decide +kernel, rfl⟩
theorem dX11_row_15 : ml_d cX11_row 15 (.iload_n 2) 1 16 := ⟨by decide +kernel, rfl⟩
theorem dX11_row_16 : ml_j cX11_row 16 (.ifCond .ge) 25 19 := ⟨9, by decide +kernel, by decide, rfl⟩
theorem dX11_row_19 : ml_d cX11_row 19 (.aload_n 0) 1 20 := ⟨by decide +kernel, rfl⟩
theorem dX11_row_20 : ml_d cX11_row 20 (.iconst 5) 1 21 := ⟨by decide +kernel, rfl⟩
theorem dX11_row_21 : ml_d cX11_row 21 (.invokevirtual 115) 3 24 := ⟨by decide +kernel, rfl⟩
theorem dX11_row_24 : ml_d cX11_row 24 (.ireturn) 1 25 := ⟨by decide +kernel, rfl⟩
theorem dX11_row_25 : ml_d cX11_row 25 (.aload_n 0) 1 26 := ⟨by decide +kernel, rfl⟩
theorem dX11_row_26 : ml_d cX11_row 26 (.getfield 13) 3 29 := ⟨by decide +kernel, rfl⟩
theorem dX11_row_29 : ml_d cX11_row 29 (.iload_n 1) 1 30 := ⟨by decide +kernel, rfl⟩
theorem dX11_row_30 : ml_d cX11_row 30 (.iload_n 2) 1 31 := ⟨by decide +kernel, rfl⟩
theorem dX11_row_31 : ml_d cX11_row 31 (.iastore) 1 32 := ⟨by decide +kernel, rfl⟩
theorem dX11_row_32 : ml_d cX11_row 32 (.iconst 0) 1 33 := ⟨by decide +kernel, rfl⟩
theorem dX11_row_33 : ml_d cX11_row 33 (.istore_n 3) 1 34 := ⟨by decide +kernel, rfl⟩
theorem dX11_row_34 : ml_d cX11_row 34 (.iload_n 3) 1 35 := ⟨by decide +kernel, rfl⟩
theorem dX11_row_35 : ml_d cX11_row 35 (.bipush 48) 2 37 := ⟨by decide +kernel, rfl⟩
theorem dX11_row_37 : ml_j cX11_row 37 (.if_icmp .ge) 58 40 := ⟨21, by decide +kernel, by decide, rfl⟩
theorem dX11_row_40 : ml_d cX11_row 40 (.aload_n 0) 1 41 := ⟨by decide +kernel, rfl⟩
theorem dX11_row_41 : ml_d cX11_row 41 (.getfield 16) 3 44 := ⟨by decide +kernel, rfl⟩
theorem dX11_row_44 : ml_d cX11_row 44 (.bipush 48) 2 46 := ⟨by decide +kernel, rfl⟩
theorem dX11_row_46 : ml_d cX11_row 46 (.iload_n 1) 1 47 := ⟨by decide +kernel, rfl⟩
theorem dX11_row_47 : ml_d cX11_row 47 (.imul) 1 48 := ⟨by decide +kernel, rfl⟩
theorem dX11_row_48 : ml_d cX11_row 48 (.iload_n 3) 1 49 := ⟨by decide +kernel, rfl⟩
theorem dX11_row_49 : ml_d cX11_row 49 (.iadd) 1 50 := ⟨by decide +kernel, rfl⟩
theorem dX11_row_50 : ml_d cX11_row 50 (.iconst 0) 1 51 := ⟨by decide +kernel, rfl⟩
theorem dX11_row_51 : ml_d cX11_row 51 (.iastore) 1 52 := ⟨by decide +kernel, rfl⟩
theorem dX11_row_52 : ml_d cX11_row 52 (.iinc 3 1) 3 55 := ⟨by decide +kernel, rfl⟩
theorem dX11_row_55 : ml_j cX11_row 55 .goto 34 58 := ⟨(-21), by decide +kernel, by decide, rfl⟩
theorem dX11_row_58 : ml_d cX11_row 58 (.iload_n 2) 1 59 := ⟨by decide +kernel, rfl⟩
theorem dX11_row_59 : ml_d cX11_row 59 (.ireturn) 1 60 := ⟨by decide +kernel, rfl⟩
def fX11_row_34 : Nat → Nat → Int32 → Int32 → Int32 → ml_M → Option (Int32 × ml_M)
  | 0, _, _, _, _, _ => none
  | fu + 1, l0, l1, l2, l3, m =>
    if (48 : Int32) ≤ l3 then
    some (l2, m)
    else
    if (ml_K m l0).1 = 11 then
    ml_let (ml_R m l0 5) fun a510 =>
    if ml_in m a510 20 (((48 : Int32) * l1) + l3) then
    ml_let (ml_sI m a510 (((48 : Int32) * l1) + l3).toNatClampNeg (0 : Int32)) fun m512 =>
    (fX11_row_34 fu) l0 l1 l2 (l3 + (1 : Int32)) m512
    else none
    else none
theorem vX11_row_34 {E : ml_E} (hL : ml_eL E = 4) {rv : Int32} {rm : ml_M} (hr : ∀ (pc pc' : Nat) (lv : List (Nat × ml_X)), ml_d cX11_row pc .ireturn 1 pc' → True → ml_V E "LostRoomModel" cX11_row 4 false rm pc lv [ml_i rv]) : ∀ (fu : Nat) (l0 : Nat) (l1 : Int32) (l2 : Int32) (l3 : Int32) (m : ml_M), fX11_row_34 fu l0 l1 l2 l3 m = some (rv, rm) → ml_V E "LostRoomModel" cX11_row 4 false m 34 [(0, ml_r l0), (1, ml_i l1), (2, ml_i l2), (3, ml_i l3)] [] := by
  intro fu
  induction fu with
  | zero => intro l0 l1 l2 l3 m h; exact ml_none h
  | succ fu ih =>
    intro l0 l1 l2 l3 m h
    have hk34 := ih
    unfold fX11_row_34 at h
    exact ml_iload_n dX11_row_34 3 rfl <| ml_bipush dX11_row_35 kc_b48 <| ml_icmp_ge dX11_row_37 h (fun _ h => ml_iload_n dX11_row_58 2 rfl <| ml_rI (mk := ml_i) hr dX11_row_59 (fun _ => trivial) h) (fun _ h => ml_aload_n dX11_row_40 0 rfl <| ml_ck_of h fun hc509 h => ml_getR dX11_row_41 wb_103 hc509 <| ml_lx (mk := ml_r) h fun a510 h => ml_bipush dX11_row_44 kc_b48 <| ml_iload_n dX11_row_46 1 rfl <| ml_imul dX11_row_47 <| ml_iload_n dX11_row_48 3 rfl <| ml_iadd dX11_row_49 <| ml_iconst dX11_row_50 kc_i0 <| ml_ck_of h fun hi511 h => ml_iast dX11_row_51 hi511 <| ml_lt (m := m) rfl h fun m512 em513 h => ml_iinc (lv' := [(3, ml_i (l3 + (1 : Int32))), (0, ml_r l0), (1, ml_i l1), (2, ml_i l2)]) dX11_row_52 3 rfl (congrArg (l3 + ·) kc_i1) (ml_hn hL rfl) rfl <| ml_goto dX11_row_55 <| ml_V.sub [1, 2, 3, 0] rfl (hk34 _ _ _ _ _ h))
def fX11_row (l0 : Nat) (l1 : Int32) (l2 : Int32) (m : ml_M) : Option (Int32 × ml_M) :=
    ml_b1 (fX11_isRow l1 m) fun r515 =>
    if r515 = 0 then
    some ((-1 : Int32), m)
    else
    if l2 ≤ (48 : Int32) then
    if 0 ≤ l2 then
    if (ml_K m l0).1 = 11 then
    ml_let (ml_R m l0 4) fun a517 =>
    if ml_in m a517 20 l1 then
    ml_let (ml_sI m a517 l1.toNatClampNeg l2) fun m519 =>
    fX11_row_34 ml_fu l0 l1 l2 (0 : Int32) m519
    else none
    else none
    else
    if (ml_K m l0).1 = 11 then
    ml_b2 (fX11_meets l0 (5 : Int32) m) fun r523 m524 =>
    some (r523, m524)
    else none
    else
    some ((-1 : Int32), m)
theorem wX11_row_0 {E : ml_E} (hL : ml_eL E = 4) {rv : Int32} {rm : ml_M} (hr : ∀ (pc pc' : Nat) (lv : List (Nat × ml_X)), ml_d cX11_row pc .ireturn 1 pc' → True → ml_V E "LostRoomModel" cX11_row 4 false rm pc lv [ml_i rv]) : ∀ (l0 : Nat) (l1 : Int32) (l2 : Int32) (m : ml_M), fX11_row l0 l1 l2 m = some (rv, rm) → ml_V E "LostRoomModel" cX11_row 4 false m 0 [(0, ml_r l0), (1, ml_i l1), (2, ml_i l2)] [] := by
  intro l0 l1 l2 m h
  unfold fX11_row at h
  exact ml_iload_n dX11_row_0 1 rfl <| ml_b1_of h fun r515 hv514 h => ml_callS dX11_row_1 wm_140 wb_104 (sX11_isRow hv514) rfl (Nat.le_of_ble_eq_true rfl) (Nat.le_of_ble_eq_true rfl) rfl <| ml_if_eq dX11_row_4 h (fun _ h => ml_iconst dX11_row_13 kc_im1 <| ml_rI (mk := ml_i) hr dX11_row_14 (fun _ => trivial) h) (fun _ h => ml_iload_n dX11_row_7 2 rfl <| ml_bipush dX11_row_8 kc_b48 <| ml_icmp_le dX11_row_10 h (fun _ h => ml_iload_n dX11_row_15 2 rfl <| ml_if_ge dX11_row_16 h (fun _ h => ml_aload_n dX11_row_25 0 rfl <| ml_ck_of h fun hc516 h => ml_getR dX11_row_26 wb_64 hc516 <| ml_lx (mk := ml_r) h fun a517 h => ml_iload_n dX11_row_29 1 rfl <| ml_iload_n dX11_row_30 2 rfl <| ml_ck_of h fun hi518 h => ml_iast dX11_row_31 hi518 <| ml_lt (m := m) rfl h fun m519 em520 h => ml_iconst dX11_row_32 kc_i0 <| ml_istore_n (lv' := [(3, ml_i (0 : Int32)), (0, ml_r l0), (1, ml_i l1), (2, ml_i l2)]) dX11_row_33 (ml_hn hL rfl) rfl <| ml_V.sub [1, 2, 3, 0] rfl (vX11_row_34 hL hr  ml_fu _ _ _ _ _ h)) (fun _ h => ml_aload_n dX11_row_19 0 rfl <| ml_iconst dX11_row_20 kc_i5 <| ml_ck_of h fun hc522 h => ml_b2_of h fun r523 m524 hv521 h => ml_callV dX11_row_21 wm_144 wb_105 hc522 (sX11_meets hv521) rfl (Nat.le_of_ble_eq_true rfl) (Nat.le_of_ble_eq_true rfl) rfl <| ml_rI (mk := ml_i) hr dX11_row_24 (fun _ => trivial) h)) (fun _ h => ml_iconst dX11_row_13 kc_im1 <| ml_rI (mk := ml_i) hr dX11_row_14 (fun _ => trivial) h))
theorem sX11_row {l0 : Nat} {l1 : Int32} {l2 : Int32} {m : ml_M} {rv : Int32} {rm : ml_M} (h : fX11_row l0 l1 l2 m = some (rv, rm)) : ml_Sn yX11_row cX11_row 4 (some .int) 4 [ml_r l0, ml_i l1, ml_i l2] m (some (ml_i rv)) rm :=
  ml_Sn_of (P := True) (ini := false) (by decide +kernel) (Nat.le_of_ble_eq_true rfl) (fun h => by cases h) (fun _ => ml_RkI rv) fun E hL hr => wX11_row_0 hL hr _ _ _ _ h
theorem dX10_tell_0 : ml_d cX10_tell 0 (.aload_n 0) 1 1 := ⟨by decide +kernel, rfl⟩
theorem dX10_tell_1 : ml_d cX10_tell 1 (.iload_n 1) 1 2 := ⟨by decide +kernel, rfl⟩
theorem dX10_tell_2 : ml_d cX10_tell 2 (.putfield 203) 3 5 := ⟨by decide +kernel, rfl⟩
theorem dX10_tell_5 : ml_d cX10_tell 5 (.iconst 1) 1 6 := ⟨by decide +kernel, rfl⟩
theorem dX10_tell_6 : ml_d cX10_tell 6 (.ireturn) 1 7 := ⟨by decide +kernel, rfl⟩
def fX10_tell (l0 : Nat) (l1 : Int32) (m : ml_M) : Option (Int32 × ml_M) :=
    if (ml_K m l0).1 = 10 then
    ml_let (ml_sI m l0 15 l1) fun m526 =>
    some ((1 : Int32), m526)
    else none
theorem wX10_tell_0 {E : ml_E} (hL : ml_eL E = 2) {rv : Int32} {rm : ml_M} (hr : ∀ (pc pc' : Nat) (lv : List (Nat × ml_X)), ml_d cX10_tell pc .ireturn 1 pc' → True → ml_V E "LostRoom" cX10_tell 2 false rm pc lv [ml_i rv]) : ∀ (l0 : Nat) (l1 : Int32) (m : ml_M), fX10_tell l0 l1 m = some (rv, rm) → ml_V E "LostRoom" cX10_tell 2 false m 0 [(0, ml_r l0), (1, ml_i l1)] [] := by
  intro l0 l1 m h
  unfold fX10_tell at h
  exact ml_aload_n dX10_tell_0 0 rfl <| ml_iload_n dX10_tell_1 1 rfl <| ml_ck_of h fun hc525 h => ml_putI dX10_tell_2 wb_106 hc525 <| ml_lt (m := m) rfl h fun m526 em527 h => ml_iconst dX10_tell_5 kc_i1 <| ml_rI (mk := ml_i) hr dX10_tell_6 (fun _ => trivial) h
theorem sX10_tell {l0 : Nat} {l1 : Int32} {m : ml_M} {rv : Int32} {rm : ml_M} (h : fX10_tell l0 l1 m = some (rv, rm)) : ml_Sn yX10_tell cX10_tell 2 (some .int) 2 [ml_r l0, ml_i l1] m (some (ml_i rv)) rm :=
  ml_Sn_of (P := True) (ini := false) (by decide +kernel) (Nat.le_of_ble_eq_true rfl) (fun h => by cases h) (fun _ => ml_RkI rv) fun E hL hr => wX10_tell_0 hL hr _ _ _ h
theorem dX10_lay_0 : ml_d cX10_lay 0 (.iload_n 1) 1 1 := ⟨by decide +kernel, rfl⟩
theorem dX10_lay_1 : ml_d cX10_lay 1 (.invokestatic 82) 3 4 := ⟨by decide +kernel, rfl⟩
theorem dX10_lay_4 : ml_j cX10_lay 4 (.ifCond .ne) 9 7 := ⟨5, by decide +kernel, by decide, rfl⟩
theorem dX10_lay_7 : ml_d cX10_lay 7 (.iconst (-1)) 1 8 := ⟨by decide +kernel, rfl⟩
theorem dX10_lay_8 : ml_d cX10_lay 8 (.ireturn) 1 9 := ⟨by decide +kernel, rfl⟩
theorem dX10_lay_9 : ml_d cX10_lay 9 (.aload_n 0) 1 10 := ⟨by decide +kernel, rfl⟩
theorem dX10_lay_10 : ml_d cX10_lay 10 (.getfield 11) 3 13 := ⟨by decide +kernel, rfl⟩
theorem dX10_lay_13 : ml_d cX10_lay 13 (.iload_n 1) 1 14 := ⟨by decide +kernel, rfl⟩
theorem dX10_lay_14 : ml_d cX10_lay 14 (.aaload) 1 15 := ⟨by decide +kernel, rfl⟩
theorem dX10_lay_15 : ml_d cX10_lay 15 (.astore 4) 2 17 := ⟨by decide +kernel, rfl⟩
theorem dX10_lay_17 : ml_d cX10_lay 17 (.aload 4) 2 19 := ⟨by decide +kernel, rfl⟩
theorem dX10_lay_19 : ml_j cX10_lay 19 .ifnonnull 28 22 := ⟨9, by decide +kernel, by decide, rfl⟩
theorem dX10_lay_22 : ml_d cX10_lay 22 (.aload_n 0) 1 23 := ⟨by decide +kernel, rfl⟩
theorem dX10_lay_23 : ml_d cX10_lay 23 (.iconst 1) 1 24 := ⟨by decide +kernel, rfl⟩
theorem dX10_lay_24 : ml_d cX10_lay 24 (.invokevirtual 86) 3 27 := ⟨by decide +kernel, rfl⟩
theorem dX10_lay_27 : ml_d cX10_lay 27 (.ireturn) 1 28 := ⟨by decide +kernel, rfl⟩
theorem dX10_lay_28 : ml_d cX10_lay 28 (.iload_n 2) 1 29 := ⟨by decide +kernel, rfl⟩
theorem dX10_lay_29 : ml_j cX10_lay 29 (.ifCond .lt) 39 32 := ⟨10, by decide +kernel, by decide, rfl⟩
theorem dX10_lay_32 : ml_d cX10_lay 32 (.iload_n 2) 1 33 := ⟨by decide +kernel, rfl⟩
theorem dX10_lay_33 : ml_d cX10_lay 33 (.aload 4) 2 35 := ⟨by decide +kernel, rfl⟩
theorem dX10_lay_35 : ml_d cX10_lay 35 (.arraylength) 1 36 := ⟨by decide +kernel, rfl⟩
theorem dX10_lay_36 : ml_j cX10_lay 36 (.if_icmp .lt) 45 39 := ⟨9, by decide +kernel, by decide, rfl⟩
theorem dX10_lay_39 : ml_d cX10_lay 39 (.aload_n 0) 1 40 := ⟨by decide +kernel, rfl⟩
theorem dX10_lay_40 : ml_d cX10_lay 40 (.iconst 2) 1 41 := ⟨by decide +kernel, rfl⟩
theorem dX10_lay_41 : ml_d cX10_lay 41 (.invokevirtual 86) 3 44 := ⟨by decide +kernel, rfl⟩
theorem dX10_lay_44 : ml_d cX10_lay 44 (.ireturn) 1 45 := ⟨by decide +kernel, rfl⟩
theorem dX10_lay_45 : ml_d cX10_lay 45 (.aload 4) 2 47 := ⟨by decide +kernel, rfl⟩
theorem dX10_lay_47 : ml_d cX10_lay 47 (.iload_n 2) 1 48 := ⟨by decide +kernel, rfl⟩
theorem dX10_lay_48 : ml_d cX10_lay 48 (.iaload) 1 49 := ⟨by decide +kernel, rfl⟩
theorem dX10_lay_49 : ml_d cX10_lay 49 (.istore 5) 2 51 := ⟨by decide +kernel, rfl⟩
theorem dX10_lay_51 : ml_d cX10_lay 51 (.aload 4) 2 53 := ⟨by decide +kernel, rfl⟩
theorem dX10_lay_53 : ml_d cX10_lay 53 (.iload_n 2) 1 54 := ⟨by decide +kernel, rfl⟩
theorem dX10_lay_54 : ml_d cX10_lay 54 (.iload_n 3) 1 55 := ⟨by decide +kernel, rfl⟩
theorem dX10_lay_55 : ml_d cX10_lay 55 (.iastore) 1 56 := ⟨by decide +kernel, rfl⟩
theorem dX10_lay_56 : ml_d cX10_lay 56 (.aload_n 0) 1 57 := ⟨by decide +kernel, rfl⟩
theorem dX10_lay_57 : ml_d cX10_lay 57 (.iload 5) 2 59 := ⟨by decide +kernel, rfl⟩
theorem dX10_lay_59 : ml_d cX10_lay 59 (.invokevirtual 90) 3 62 := ⟨by decide +kernel, rfl⟩
theorem dX10_lay_62 : ml_d cX10_lay 62 (.ireturn) 1 63 := ⟨by decide +kernel, rfl⟩
def fX10_lay_39 (l0 : Nat) (m : ml_M) : Option (Int32 × ml_M) :=
    if (ml_K m l0).1 = 10 then
    ml_b2 (fX10_found l0 (2 : Int32) m) fun r530 m531 =>
    some (r530, m531)
    else none
theorem vX10_lay_39 {E : ml_E} (hL : ml_eL E = 6) {rv : Int32} {rm : ml_M} (hr : ∀ (pc pc' : Nat) (lv : List (Nat × ml_X)), ml_d cX10_lay pc .ireturn 1 pc' → True → ml_V E "LostRoom" cX10_lay 4 false rm pc lv [ml_i rv]) : ∀ (l0 : Nat) (m : ml_M), fX10_lay_39 l0 m = some (rv, rm) → ml_V E "LostRoom" cX10_lay 4 false m 39 [(0, ml_r l0)] [] := by
  intro l0 m h
  unfold fX10_lay_39 at h
  exact ml_aload_n dX10_lay_39 0 rfl <| ml_iconst dX10_lay_40 kc_i2 <| ml_ck_of h fun hc529 h => ml_b2_of h fun r530 m531 hv528 h => ml_callV dX10_lay_41 wm_132 wb_99 hc529 (sX10_found hv528) rfl (Nat.le_of_ble_eq_true rfl) (Nat.le_of_ble_eq_true rfl) rfl <| ml_rI (mk := ml_i) hr dX10_lay_44 (fun _ => trivial) h
def fX10_lay (l0 : Nat) (l1 : Int32) (l2 : Int32) (l3 : Int32) (m : ml_M) : Option (Int32 × ml_M) :=
    ml_b1 (fX10_isRow l1 m) fun r533 =>
    if r533 = 0 then
    some ((-1 : Int32), m)
    else
    if (ml_K m l0).1 = 10 then
    ml_let (ml_R m l0 0) fun a535 =>
    if ml_in m a535 23 l1 then
    ml_let (ml_R m a535 l1.toNatClampNeg) fun a537 =>
    if a537 = 0 then
    ml_b2 (fX10_found l0 (1 : Int32) m) fun r548 m549 =>
    some (r548, m549)
    else
    if l2 < 0 then
    fX10_lay_39 l0 m
    else
    if (ml_K m a537).1 = 20 then
    if l2 < (Int32.ofNat (ml_K m a537).2) then
    if ml_in m a537 20 l2 then
    ml_let (ml_I m a537 l2.toNatClampNeg) fun x540 =>
    if ml_in m a537 20 l2 then
    ml_let (ml_sI m a537 l2.toNatClampNeg l3) fun m542 =>
    ml_b2 (fX10_tell l0 x540 m542) fun r545 m546 =>
    some (r545, m546)
    else none
    else none
    else
    fX10_lay_39 l0 m
    else none
    else none
    else none
theorem wX10_lay_0 {E : ml_E} (hL : ml_eL E = 6) {rv : Int32} {rm : ml_M} (hr : ∀ (pc pc' : Nat) (lv : List (Nat × ml_X)), ml_d cX10_lay pc .ireturn 1 pc' → True → ml_V E "LostRoom" cX10_lay 4 false rm pc lv [ml_i rv]) : ∀ (l0 : Nat) (l1 : Int32) (l2 : Int32) (l3 : Int32) (m : ml_M), fX10_lay l0 l1 l2 l3 m = some (rv, rm) → ml_V E "LostRoom" cX10_lay 4 false m 0 [(0, ml_r l0), (1, ml_i l1), (2, ml_i l2), (3, ml_i l3)] [] := by
  intro l0 l1 l2 l3 m h
  unfold fX10_lay at h
  exact ml_iload_n dX10_lay_0 1 rfl <| ml_b1_of h fun r533 hv532 h => ml_callS dX10_lay_1 wm_128 wb_97 (sX10_isRow hv532) rfl (Nat.le_of_ble_eq_true rfl) (Nat.le_of_ble_eq_true rfl) rfl <| ml_if_ne dX10_lay_4 h (fun _ h => ml_aload_n dX10_lay_9 0 rfl <| ml_ck_of h fun hc534 h => ml_getR dX10_lay_10 wb_98 hc534 <| ml_lx (mk := ml_r) h fun a535 h => ml_iload_n dX10_lay_13 1 rfl <| ml_ck_of h fun hi536 h => ml_aald (kd := 23) dX10_lay_14 (by decide) hi536 <| ml_lx (mk := ml_r) h fun a537 h => ml_astore (lv' := [(4, ml_r a537), (0, ml_r l0), (1, ml_i l1), (2, ml_i l2), (3, ml_i l3)]) dX10_lay_15 (ml_hn hL rfl) rfl <| ml_aload dX10_lay_17 0 rfl <| ml_ifnonnull dX10_lay_19 h (fun _ h => ml_iload_n dX10_lay_28 3 rfl <| ml_if_lt dX10_lay_29 h (fun _ h => ml_V.sub [1] rfl (vX10_lay_39 hL hr  _ _ h)) (fun _ h => ml_iload_n dX10_lay_32 3 rfl <| ml_aload dX10_lay_33 0 rfl <| ml_ck_of h fun hc538 h => ml_alen (kd := 20) dX10_lay_35 (by decide) hc538 <| ml_icmp_lt dX10_lay_36 h (fun _ h => ml_aload dX10_lay_45 0 rfl <| ml_iload_n dX10_lay_47 3 rfl <| ml_ck_of h fun hi539 h => ml_iald dX10_lay_48 hi539 <| ml_lx (mk := ml_i) h fun x540 h => ml_istore (lv' := [(5, ml_i x540), (4, ml_r a537), (0, ml_r l0), (1, ml_i l1), (2, ml_i l2), (3, ml_i l3)]) dX10_lay_49 (ml_hn hL rfl) rfl <| ml_aload dX10_lay_51 1 rfl <| ml_iload_n dX10_lay_53 4 rfl <| ml_iload_n dX10_lay_54 5 rfl <| ml_ck_of h fun hi541 h => ml_iast dX10_lay_55 hi541 <| ml_lt (m := m) rfl h fun m542 em543 h => ml_aload_n dX10_lay_56 2 rfl <| ml_iload dX10_lay_57 0 rfl <| ml_b2_of h fun r545 m546 hv544 h => ml_callV dX10_lay_59 wm_149 wb_107 (ml_kk em543 hc534) (sX10_tell hv544) rfl (Nat.le_of_ble_eq_true rfl) (Nat.le_of_ble_eq_true rfl) rfl <| ml_rI (mk := ml_i) hr dX10_lay_62 (fun _ => trivial) h) (fun _ h => ml_V.sub [1] rfl (vX10_lay_39 hL hr  _ _ h)))) (fun _ h => ml_aload_n dX10_lay_22 1 rfl <| ml_iconst dX10_lay_23 kc_i1 <| ml_b2_of h fun r548 m549 hv547 h => ml_callV dX10_lay_24 wm_132 wb_99 hc534 (sX10_found hv547) rfl (Nat.le_of_ble_eq_true rfl) (Nat.le_of_ble_eq_true rfl) rfl <| ml_rI (mk := ml_i) hr dX10_lay_27 (fun _ => trivial) h)) (fun _ h => ml_iconst dX10_lay_7 kc_im1 <| ml_rI (mk := ml_i) hr dX10_lay_8 (fun _ => trivial) h)
theorem sX10_lay {l0 : Nat} {l1 : Int32} {l2 : Int32} {l3 : Int32} {m : ml_M} {rv : Int32} {rm : ml_M} (h : fX10_lay l0 l1 l2 l3 m = some (rv, rm)) : ml_Sn yX10_lay cX10_lay 6 (some .int) 4 [ml_r l0, ml_i l1, ml_i l2, ml_i l3] m (some (ml_i rv)) rm :=
  ml_Sn_of (P := True) (ini := false) (by decide +kernel) (Nat.le_of_ble_eq_true rfl) (fun h => by cases h) (fun _ => ml_RkI rv) fun E hL hr => wX10_lay_0 hL hr _ _ _ _ _ h
theorem dX11_rowAt_0 : ml_d cX11_rowAt 0 (.aload_n 0) 1 1 := ⟨by decide +kernel, rfl⟩
theorem dX11_rowAt_1 : ml_d cX11_rowAt 1 (.getfield 16) 3 4 := ⟨by decide +kernel, rfl⟩
theorem dX11_rowAt_4 : ml_d cX11_rowAt 4 (.bipush 48) 2 6 := ⟨by decide +kernel, rfl⟩
theorem dX11_rowAt_6 : ml_d cX11_rowAt 6 (.iload_n 1) 1 7 := ⟨by decide +kernel, rfl⟩
theorem dX11_rowAt_7 : ml_d cX11_rowAt 7 (.imul) 1 8 := ⟨by decide +kernel, rfl⟩
theorem dX11_rowAt_8 : ml_d cX11_rowAt 8 (.iload_n 2) 1 9 := ⟨by decide +kernel, rfl⟩
theorem dX11_rowAt_9 : ml_d cX11_rowAt 9 (.iadd) 1 10 := ⟨by decide +kernel, rfl⟩
theorem dX11_rowAt_10 : ml_d cX11_rowAt 10 (.iaload) 1 11 := ⟨by decide +kernel, rfl⟩
theorem dX11_rowAt_11 : ml_d cX11_rowAt 11 (.ireturn) 1 12 := ⟨by decide +kernel, rfl⟩
def fX11_rowAt (l0 : Nat) (l1 : Int32) (l2 : Int32) (m : ml_M) : Option Int32 :=
    if (ml_K m l0).1 = 11 then
    ml_let (ml_R m l0 5) fun a551 =>
    if ml_in m a551 20 (((48 : Int32) * l1) + l2) then
    some (ml_I m a551 (((48 : Int32) * l1) + l2).toNatClampNeg)
    else none
    else none
theorem wX11_rowAt_0 {E : ml_E} (hL : ml_eL E = 3) {rv : Int32} {m : ml_M} (hr : ∀ (pc pc' : Nat) (lv : List (Nat × ml_X)), ml_d cX11_rowAt pc .ireturn 1 pc' → True → ml_V E "LostRoomModel" cX11_rowAt 2 false m pc lv [ml_i rv]) : ∀ (l0 : Nat) (l1 : Int32) (l2 : Int32), fX11_rowAt l0 l1 l2 m = some rv → ml_V E "LostRoomModel" cX11_rowAt 2 false m 0 [(0, ml_r l0), (1, ml_i l1), (2, ml_i l2)] [] := by
  intro l0 l1 l2 h
  unfold fX11_rowAt at h
  exact ml_aload_n dX11_rowAt_0 0 rfl <| ml_ck_of h fun hc550 h => ml_getR dX11_rowAt_1 wb_103 hc550 <| ml_lx (mk := ml_r) h fun a551 h => ml_bipush dX11_rowAt_4 kc_b48 <| ml_iload_n dX11_rowAt_6 1 rfl <| ml_imul dX11_rowAt_7 <| ml_iload_n dX11_rowAt_8 2 rfl <| ml_iadd dX11_rowAt_9 <| ml_ck_of h fun hi552 h => ml_iald dX11_rowAt_10 hi552 <| ml_rp (mk := ml_i) hr dX11_rowAt_11 (fun _ => trivial) h
theorem sX11_rowAt {l0 : Nat} {l1 : Int32} {l2 : Int32} {m : ml_M} {rv : Int32} (h : fX11_rowAt l0 l1 l2 m = some rv) : ml_Sn yX11_rowAt cX11_rowAt 3 (some .int) 2 [ml_r l0, ml_i l1, ml_i l2] m (some (ml_i rv)) m :=
  ml_Sn_of (P := True) (ini := false) (by decide +kernel) (Nat.le_of_ble_eq_true rfl) (fun h => by cases h) (fun _ => ml_RkI rv) fun E hL hr => wX11_rowAt_0 hL hr _ _ _ h
theorem dX11_tells_0 : ml_d cX11_tells 0 (.aload_n 0) 1 1 := ⟨by decide +kernel, rfl⟩
theorem dX11_tells_1 : ml_d cX11_tells 1 (.iload_n 1) 1 2 := ⟨by decide +kernel, rfl⟩
theorem dX11_tells_2 : ml_d cX11_tells 2 (.putfield 104) 3 5 := ⟨by decide +kernel, rfl⟩
theorem dX11_tells_5 : ml_d cX11_tells 5 (.iload_n 2) 1 6 := ⟨by decide +kernel, rfl⟩
theorem dX11_tells_6 : ml_d cX11_tells 6 (.ireturn) 1 7 := ⟨by decide +kernel, rfl⟩
def fX11_tells (l0 : Nat) (l1 : Int32) (l2 : Int32) (m : ml_M) : Option (Int32 × ml_M) :=
    if (ml_K m l0).1 = 11 then
    ml_let (ml_sI m l0 2 l1) fun m554 =>
    some (l2, m554)
    else none
theorem wX11_tells_0 {E : ml_E} (hL : ml_eL E = 3) {rv : Int32} {rm : ml_M} (hr : ∀ (pc pc' : Nat) (lv : List (Nat × ml_X)), ml_d cX11_tells pc .ireturn 1 pc' → True → ml_V E "LostRoomModel" cX11_tells 2 false rm pc lv [ml_i rv]) : ∀ (l0 : Nat) (l1 : Int32) (l2 : Int32) (m : ml_M), fX11_tells l0 l1 l2 m = some (rv, rm) → ml_V E "LostRoomModel" cX11_tells 2 false m 0 [(0, ml_r l0), (1, ml_i l1), (2, ml_i l2)] [] := by
  intro l0 l1 l2 m h
  unfold fX11_tells at h
  exact ml_aload_n dX11_tells_0 0 rfl <| ml_iload_n dX11_tells_1 1 rfl <| ml_ck_of h fun hc553 h => ml_putI dX11_tells_2 wb_108 hc553 <| ml_lt (m := m) rfl h fun m554 em555 h => ml_iload_n dX11_tells_5 2 rfl <| ml_rI (mk := ml_i) hr dX11_tells_6 (fun _ => trivial) h
theorem sX11_tells {l0 : Nat} {l1 : Int32} {l2 : Int32} {m : ml_M} {rv : Int32} {rm : ml_M} (h : fX11_tells l0 l1 l2 m = some (rv, rm)) : ml_Sn yX11_tells cX11_tells 3 (some .int) 2 [ml_r l0, ml_i l1, ml_i l2] m (some (ml_i rv)) rm :=
  ml_Sn_of (P := True) (ini := false) (by decide +kernel) (Nat.le_of_ble_eq_true rfl) (fun h => by cases h) (fun _ => ml_RkI rv) fun E hL hr => wX11_tells_0 hL hr _ _ _ _ h
theorem dX11_lay_0 : ml_d cX11_lay 0 (.iload_n 1) 1 1 := ⟨by decide +kernel, rfl⟩
theorem dX11_lay_1 : ml_d cX11_lay 1 (.invokestatic 111) 3 4 := ⟨by decide +kernel, rfl⟩
theorem dX11_lay_4 : ml_j cX11_lay 4 (.ifCond .ne) 9 7 := ⟨5, by decide +kernel, by decide, rfl⟩
theorem dX11_lay_7 : ml_d cX11_lay 7 (.iconst (-1)) 1 8 := ⟨by decide +kernel, rfl⟩
theorem dX11_lay_8 : ml_d cX11_lay 8 (.ireturn) 1 9 := ⟨by decide +kernel, rfl⟩
theorem dX11_lay_9 : ml_d cX11_lay 9 (.aload_n 0) 1 10 := ⟨by decide +kernel, rfl⟩
theorem dX11_lay_10 : ml_d cX11_lay 10 (.getfield 13) 3 13 := ⟨by decide +kernel, rfl⟩
theorem dX11_lay_13 : ml_d cX11_lay 13 (.iload_n 1) 1 14 := ⟨by decide +kernel, rfl⟩
theorem dX11_lay_14 : ml_d cX11_lay 14 (.iaload) 1 15 := ⟨by decide +kernel, rfl⟩
theorem dX11_lay_15 : ml_j cX11_lay 15 (.ifCond .ge) 24 18 := ⟨9, by decide +kernel, by decide, rfl⟩
theorem dX11_lay_18 : ml_d cX11_lay 18 (.aload_n 0) 1 19 := ⟨by decide +kernel, rfl⟩
theorem dX11_lay_19 : ml_d cX11_lay 19 (.iconst 1) 1 20 := ⟨by decide +kernel, rfl⟩
theorem dX11_lay_20 : ml_d cX11_lay 20 (.invokevirtual 115) 3 23 := ⟨by decide +kernel, rfl⟩
theorem dX11_lay_23 : ml_d cX11_lay 23 (.ireturn) 1 24 := ⟨by decide +kernel, rfl⟩
theorem dX11_lay_24 : ml_d cX11_lay 24 (.iload_n 2) 1 25 := ⟨by decide +kernel, rfl⟩
theorem dX11_lay_25 : ml_d cX11_lay 25 (.iconst 0) 1 26 := ⟨by decide +kernel, rfl⟩
theorem dX11_lay_26 : ml_d cX11_lay 26 (.aload_n 0) 1 27 := ⟨by decide +kernel, rfl⟩
theorem dX11_lay_27 : ml_d cX11_lay 27 (.getfield 13) 3 30 := ⟨by decide +kernel, rfl⟩
theorem dX11_lay_30 : ml_d cX11_lay 30 (.iload_n 1) 1 31 := ⟨by decide +kernel, rfl⟩
theorem dX11_lay_31 : ml_d cX11_lay 31 (.iaload) 1 32 := ⟨by decide +kernel, rfl⟩
theorem dX11_lay_32 : ml_d cX11_lay 32 (.iconst 1) 1 33 := ⟨by decide +kernel, rfl⟩
theorem dX11_lay_33 : ml_d cX11_lay 33 (.isub) 1 34 := ⟨by decide +kernel, rfl⟩
theorem dX11_lay_34 : ml_d cX11_lay 34 (.invokestatic 100) 3 37 := ⟨by decide +kernel, rfl⟩
theorem dX11_lay_37 : ml_j cX11_lay 37 (.ifCond .ne) 46 40 := ⟨9, by decide +kernel, by decide, rfl⟩
theorem dX11_lay_40 : ml_d cX11_lay 40 (.aload_n 0) 1 41 := ⟨by decide +kernel, rfl⟩
theorem dX11_lay_41 : ml_d cX11_lay 41 (.iconst 2) 1 42 := ⟨by decide +kernel, rfl⟩
theorem dX11_lay_42 : ml_d cX11_lay 42 (.invokevirtual 115) 3 45 := ⟨by decide +kernel, rfl⟩
theorem dX11_lay_45 : ml_d cX11_lay 45 (.ireturn) 1 46 := ⟨by decide +kernel, rfl⟩
theorem dX11_lay_46 : ml_d cX11_lay 46 (.aload_n 0) 1 47 := ⟨by decide +kernel, rfl⟩
theorem dX11_lay_47 : ml_d cX11_lay 47 (.iload_n 1) 1 48 := ⟨by decide +kernel, rfl⟩
theorem dX11_lay_48 : ml_d cX11_lay 48 (.iload_n 2) 1 49 := ⟨by decide +kernel, rfl⟩
theorem dX11_lay_49 : ml_d cX11_lay 49 (.invokevirtual 119) 3 52 := ⟨by decide +kernel, rfl⟩
theorem dX11_lay_52 : ml_d cX11_lay 52 (.istore 4) 2 54 := ⟨by decide +kernel, rfl⟩
theorem dX11_lay_54 : ml_d cX11_lay 54 (.aload_n 0) 1 55 := ⟨by decide +kernel, rfl⟩
theorem dX11_lay_55 : ml_d cX11_lay 55 (.getfield 16) 3 58 := ⟨by decide +kernel, rfl⟩
theorem dX11_lay_58 : ml_d cX11_lay 58 (.bipush 48) 2 60 := ⟨by decide +kernel, rfl⟩
theorem dX11_lay_60 : ml_d cX11_lay 60 (.iload_n 1) 1 61 := ⟨by decide +kernel, rfl⟩
theorem dX11_lay_61 : ml_d cX11_lay 61 (.imul) 1 62 := ⟨by decide +kernel, rfl⟩
theorem dX11_lay_62 : ml_d cX11_lay 62 (.iload_n 2) 1 63 := ⟨by decide +kernel, rfl⟩
theorem dX11_lay_63 : ml_d cX11_lay 63 (.iadd) 1 64 := ⟨by decide +kernel, rfl⟩
theorem dX11_lay_64 : ml_d cX11_lay 64 (.iload_n 3) 1 65 := ⟨by decide +kernel, rfl⟩
theorem dX11_lay_65 : ml_d cX11_lay 65 (.iastore) 1 66 := ⟨by decide +kernel, rfl⟩
theorem dX11_lay_66 : ml_d cX11_lay 66 (.aload_n 0) 1 67 := ⟨by decide +kernel, rfl⟩
theorem dX11_lay_67 : ml_d cX11_lay 67 (.iload 4) 2 69 := ⟨by decide +kernel, rfl⟩
theorem dX11_lay_69 : ml_d cX11_lay 69 (.iconst 1) 1 70 := ⟨by decide +kernel, rfl⟩
theorem dX11_lay_70 : ml_d cX11_lay 70 (.invokevirtual 123) 3 73 := ⟨by decide +kernel, rfl⟩
theorem dX11_lay_73 : ml_d cX11_lay 73 (.ireturn) 1 74 := ⟨by decide +kernel, rfl⟩
def fX11_lay (l0 : Nat) (l1 : Int32) (l2 : Int32) (l3 : Int32) (m : ml_M) : Option (Int32 × ml_M) :=
    ml_b1 (fX11_isRow l1 m) fun r557 =>
    if r557 = 0 then
    some ((-1 : Int32), m)
    else
    if (ml_K m l0).1 = 11 then
    ml_let (ml_R m l0 4) fun a559 =>
    if ml_in m a559 20 l1 then
    if 0 ≤ (ml_I m a559 l1.toNatClampNeg) then
    ml_let (ml_R m l0 4) fun a561 =>
    if ml_in m a561 20 l1 then
    ml_b1 (fX11_in l2 (0 : Int32) ((ml_I m a561 l1.toNatClampNeg) - (1 : Int32)) m) fun r564 =>
    if r564 = 0 then
    ml_b2 (fX11_meets l0 (2 : Int32) m) fun r575 m576 =>
    some (r575, m576)
    else
    ml_b1 (fX11_rowAt l0 l1 l2 m) fun r566 =>
    ml_let (ml_R m l0 5) fun a567 =>
    if ml_in m a567 20 (((48 : Int32) * l1) + l2) then
    ml_let (ml_sI m a567 (((48 : Int32) * l1) + l2).toNatClampNeg l3) fun m569 =>
    ml_b2 (fX11_tells l0 r566 (1 : Int32) m569) fun r572 m573 =>
    some (r572, m573)
    else none
    else none
    else
    ml_b2 (fX11_meets l0 (1 : Int32) m) fun r578 m579 =>
    some (r578, m579)
    else none
    else none
theorem wX11_lay_0 {E : ml_E} (hL : ml_eL E = 5) {rv : Int32} {rm : ml_M} (hr : ∀ (pc pc' : Nat) (lv : List (Nat × ml_X)), ml_d cX11_lay pc .ireturn 1 pc' → True → ml_V E "LostRoomModel" cX11_lay 4 false rm pc lv [ml_i rv]) : ∀ (l0 : Nat) (l1 : Int32) (l2 : Int32) (l3 : Int32) (m : ml_M), fX11_lay l0 l1 l2 l3 m = some (rv, rm) → ml_V E "LostRoomModel" cX11_lay 4 false m 0 [(0, ml_r l0), (1, ml_i l1), (2, ml_i l2), (3, ml_i l3)] [] := by
  intro l0 l1 l2 l3 m h
  unfold fX11_lay at h
  exact ml_iload_n dX11_lay_0 1 rfl <| ml_b1_of h fun r557 hv556 h => ml_callS dX11_lay_1 wm_140 wb_104 (sX11_isRow hv556) rfl (Nat.le_of_ble_eq_true rfl) (Nat.le_of_ble_eq_true rfl) rfl <| ml_if_ne dX11_lay_4 h (fun _ h => ml_aload_n dX11_lay_9 0 rfl <| ml_ck_of h fun hc558 h => ml_getR dX11_lay_10 wb_64 hc558 <| ml_lx (mk := ml_r) h fun a559 h => ml_iload_n dX11_lay_13 1 rfl <| ml_ck_of h fun hi560 h => ml_iald dX11_lay_14 hi560 <| ml_if_ge dX11_lay_15 h (fun _ h => ml_iload_n dX11_lay_24 2 rfl <| ml_iconst dX11_lay_25 kc_i0 <| ml_aload_n dX11_lay_26 0 rfl <| ml_getR dX11_lay_27 wb_64 hc558 <| ml_lx (mk := ml_r) h fun a561 h => ml_iload_n dX11_lay_30 1 rfl <| ml_ck_of h fun hi562 h => ml_iald dX11_lay_31 hi562 <| ml_iconst dX11_lay_32 kc_i1 <| ml_isub dX11_lay_33 <| ml_b1_of h fun r564 hv563 h => ml_callS dX11_lay_34 wm_136 wb_100 (sX11_in hv563) rfl (Nat.le_of_ble_eq_true rfl) (Nat.le_of_ble_eq_true rfl) rfl <| ml_if_ne dX11_lay_37 h (fun _ h => ml_aload_n dX11_lay_46 0 rfl <| ml_iload_n dX11_lay_47 1 rfl <| ml_iload_n dX11_lay_48 2 rfl <| ml_b1_of h fun r566 hv565 h => ml_callV dX11_lay_49 wm_154 wb_109 hc558 (sX11_rowAt hv565) rfl (Nat.le_of_ble_eq_true rfl) (Nat.le_of_ble_eq_true rfl) rfl <| ml_istore (lv' := [(4, ml_i r566), (0, ml_r l0), (1, ml_i l1), (2, ml_i l2), (3, ml_i l3)]) dX11_lay_52 (ml_hn hL rfl) rfl <| ml_aload_n dX11_lay_54 1 rfl <| ml_getR dX11_lay_55 wb_103 hc558 <| ml_lx (mk := ml_r) h fun a567 h => ml_bipush dX11_lay_58 kc_b48 <| ml_iload_n dX11_lay_60 2 rfl <| ml_imul dX11_lay_61 <| ml_iload_n dX11_lay_62 3 rfl <| ml_iadd dX11_lay_63 <| ml_iload_n dX11_lay_64 4 rfl <| ml_ck_of h fun hi568 h => ml_iast dX11_lay_65 hi568 <| ml_lt (m := m) rfl h fun m569 em570 h => ml_aload_n dX11_lay_66 1 rfl <| ml_iload dX11_lay_67 0 rfl <| ml_iconst dX11_lay_69 kc_i1 <| ml_b2_of h fun r572 m573 hv571 h => ml_callV dX11_lay_70 wm_158 wb_110 (ml_kk em570 hc558) (sX11_tells hv571) rfl (Nat.le_of_ble_eq_true rfl) (Nat.le_of_ble_eq_true rfl) rfl <| ml_rI (mk := ml_i) hr dX11_lay_73 (fun _ => trivial) h) (fun _ h => ml_aload_n dX11_lay_40 0 rfl <| ml_iconst dX11_lay_41 kc_i2 <| ml_b2_of h fun r575 m576 hv574 h => ml_callV dX11_lay_42 wm_144 wb_105 hc558 (sX11_meets hv574) rfl (Nat.le_of_ble_eq_true rfl) (Nat.le_of_ble_eq_true rfl) rfl <| ml_rI (mk := ml_i) hr dX11_lay_45 (fun _ => trivial) h)) (fun _ h => ml_aload_n dX11_lay_18 0 rfl <| ml_iconst dX11_lay_19 kc_i1 <| ml_b2_of h fun r578 m579 hv577 h => ml_callV dX11_lay_20 wm_144 wb_105 hc558 (sX11_meets hv577) rfl (Nat.le_of_ble_eq_true rfl) (Nat.le_of_ble_eq_true rfl) rfl <| ml_rI (mk := ml_i) hr dX11_lay_23 (fun _ => trivial) h)) (fun _ h => ml_iconst dX11_lay_7 kc_im1 <| ml_rI (mk := ml_i) hr dX11_lay_8 (fun _ => trivial) h)
theorem sX11_lay {l0 : Nat} {l1 : Int32} {l2 : Int32} {l3 : Int32} {m : ml_M} {rv : Int32} {rm : ml_M} (h : fX11_lay l0 l1 l2 l3 m = some (rv, rm)) : ml_Sn yX11_lay cX11_lay 5 (some .int) 4 [ml_r l0, ml_i l1, ml_i l2, ml_i l3] m (some (ml_i rv)) rm :=
  ml_Sn_of (P := True) (ini := false) (by decide +kernel) (Nat.le_of_ble_eq_true rfl) (fun h => by cases h) (fun _ => ml_RkI rv) fun E hL hr => wX11_lay_0 hL hr _ _ _ _ _ h
theorem dX10_at_0 : ml_d cX10_at 0 (.iload_n 1) 1 1 := ⟨by decide +kernel, rfl⟩
theorem dX10_at_1 : ml_d cX10_at 1 (.invokestatic 82) 3 4 := ⟨by decide +kernel, rfl⟩
theorem dX10_at_4 : ml_j cX10_at 4 (.ifCond .ne) 9 7 := ⟨5, by decide +kernel, by decide, rfl⟩
theorem dX10_at_7 : ml_d cX10_at 7 (.iconst (-1)) 1 8 := ⟨by decide +kernel, rfl⟩
theorem dX10_at_8 : ml_d cX10_at 8 (.ireturn) 1 9 := ⟨by decide +kernel, rfl⟩
theorem dX10_at_9 : ml_d cX10_at 9 (.aload_n 0) 1 10 := ⟨by decide +kernel, rfl⟩
theorem dX10_at_10 : ml_d cX10_at 10 (.getfield 11) 3 13 := ⟨by decide +kernel, rfl⟩
theorem dX10_at_13 : ml_d cX10_at 13 (.iload_n 1) 1 14 := ⟨by decide +kernel, rfl⟩
theorem dX10_at_14 : ml_d cX10_at 14 (.aaload) 1 15 := ⟨by decide +kernel, rfl⟩
theorem dX10_at_15 : ml_d cX10_at 15 (.astore_n 3) 1 16 := ⟨by decide +kernel, rfl⟩
theorem dX10_at_16 : ml_d cX10_at 16 (.aload_n 3) 1 17 := ⟨by decide +kernel, rfl⟩
theorem dX10_at_17 : ml_j cX10_at 17 .ifnonnull 26 20 := ⟨9, by decide +kernel, by decide, rfl⟩
theorem dX10_at_20 : ml_d cX10_at 20 (.aload_n 0) 1 21 := ⟨by decide +kernel, rfl⟩
theorem dX10_at_21 : ml_d cX10_at 21 (.iconst 1) 1 22 := ⟨by decide +kernel, rfl⟩
theorem dX10_at_22 : ml_d cX10_at 22 (.invokevirtual 86) 3 25 := ⟨by decide +kernel, rfl⟩
theorem dX10_at_25 : ml_d cX10_at 25 (.ireturn) 1 26 := ⟨by decide +kernel, rfl⟩
theorem dX10_at_26 : ml_d cX10_at 26 (.iload_n 2) 1 27 := ⟨by decide +kernel, rfl⟩
theorem dX10_at_27 : ml_j cX10_at 27 (.ifCond .lt) 36 30 := ⟨9, by decide +kernel, by decide, rfl⟩
theorem dX10_at_30 : ml_d cX10_at 30 (.iload_n 2) 1 31 := ⟨by decide +kernel, rfl⟩
theorem dX10_at_31 : ml_d cX10_at 31 (.aload_n 3) 1 32 := ⟨by decide +kernel, rfl⟩
theorem dX10_at_32 : ml_d cX10_at 32 (.arraylength) 1 33 := ⟨by decide +kernel, rfl⟩
theorem dX10_at_33 : ml_j cX10_at 33 (.if_icmp .lt) 42 36 := ⟨9, by decide +kernel, by decide, rfl⟩
theorem dX10_at_36 : ml_d cX10_at 36 (.aload_n 0) 1 37 := ⟨by decide +kernel, rfl⟩
theorem dX10_at_37 : ml_d cX10_at 37 (.iconst 2) 1 38 := ⟨by decide +kernel, rfl⟩
theorem dX10_at_38 : ml_d cX10_at 38 (.invokevirtual 86) 3 41 := ⟨by decide +kernel, rfl⟩
theorem dX10_at_41 : ml_d cX10_at 41 (.ireturn) 1 42 := ⟨by decide +kernel, rfl⟩
theorem dX10_at_42 : ml_d cX10_at 42 (.aload_n 0) 1 43 := ⟨by decide +kernel, rfl⟩
theorem dX10_at_43 : ml_d cX10_at 43 (.aload_n 3) 1 44 := ⟨by decide +kernel, rfl⟩
theorem dX10_at_44 : ml_d cX10_at 44 (.iload_n 2) 1 45 := ⟨by decide +kernel, rfl⟩
theorem dX10_at_45 : ml_d cX10_at 45 (.iaload) 1 46 := ⟨by decide +kernel, rfl⟩
theorem dX10_at_46 : ml_d cX10_at 46 (.invokevirtual 90) 3 49 := ⟨by decide +kernel, rfl⟩
theorem dX10_at_49 : ml_d cX10_at 49 (.ireturn) 1 50 := ⟨by decide +kernel, rfl⟩
def fX10_at_36 (l0 : Nat) (m : ml_M) : Option (Int32 × ml_M) :=
    if (ml_K m l0).1 = 10 then
    ml_b2 (fX10_found l0 (2 : Int32) m) fun r582 m583 =>
    some (r582, m583)
    else none
theorem vX10_at_36 {E : ml_E} (hL : ml_eL E = 4) {rv : Int32} {rm : ml_M} (hr : ∀ (pc pc' : Nat) (lv : List (Nat × ml_X)), ml_d cX10_at pc .ireturn 1 pc' → True → ml_V E "LostRoom" cX10_at 4 false rm pc lv [ml_i rv]) : ∀ (l0 : Nat) (m : ml_M), fX10_at_36 l0 m = some (rv, rm) → ml_V E "LostRoom" cX10_at 4 false m 36 [(0, ml_r l0)] [] := by
  intro l0 m h
  unfold fX10_at_36 at h
  exact ml_aload_n dX10_at_36 0 rfl <| ml_iconst dX10_at_37 kc_i2 <| ml_ck_of h fun hc581 h => ml_b2_of h fun r582 m583 hv580 h => ml_callV dX10_at_38 wm_132 wb_99 hc581 (sX10_found hv580) rfl (Nat.le_of_ble_eq_true rfl) (Nat.le_of_ble_eq_true rfl) rfl <| ml_rI (mk := ml_i) hr dX10_at_41 (fun _ => trivial) h
def fX10_at (l0 : Nat) (l1 : Int32) (l2 : Int32) (m : ml_M) : Option (Int32 × ml_M) :=
    ml_b1 (fX10_isRow l1 m) fun r585 =>
    if r585 = 0 then
    some ((-1 : Int32), m)
    else
    if (ml_K m l0).1 = 10 then
    ml_let (ml_R m l0 0) fun a587 =>
    if ml_in m a587 23 l1 then
    ml_let (ml_R m a587 l1.toNatClampNeg) fun a589 =>
    if a589 = 0 then
    ml_b2 (fX10_found l0 (1 : Int32) m) fun r596 m597 =>
    some (r596, m597)
    else
    if l2 < 0 then
    fX10_at_36 l0 m
    else
    if (ml_K m a589).1 = 20 then
    if l2 < (Int32.ofNat (ml_K m a589).2) then
    if ml_in m a589 20 l2 then
    ml_b2 (fX10_tell l0 (ml_I m a589 l2.toNatClampNeg) m) fun r593 m594 =>
    some (r593, m594)
    else none
    else
    fX10_at_36 l0 m
    else none
    else none
    else none
theorem wX10_at_0 {E : ml_E} (hL : ml_eL E = 4) {rv : Int32} {rm : ml_M} (hr : ∀ (pc pc' : Nat) (lv : List (Nat × ml_X)), ml_d cX10_at pc .ireturn 1 pc' → True → ml_V E "LostRoom" cX10_at 4 false rm pc lv [ml_i rv]) : ∀ (l0 : Nat) (l1 : Int32) (l2 : Int32) (m : ml_M), fX10_at l0 l1 l2 m = some (rv, rm) → ml_V E "LostRoom" cX10_at 4 false m 0 [(0, ml_r l0), (1, ml_i l1), (2, ml_i l2)] [] := by
  intro l0 l1 l2 m h
  unfold fX10_at at h
  exact ml_iload_n dX10_at_0 1 rfl <| ml_b1_of h fun r585 hv584 h => ml_callS dX10_at_1 wm_128 wb_97 (sX10_isRow hv584) rfl (Nat.le_of_ble_eq_true rfl) (Nat.le_of_ble_eq_true rfl) rfl <| ml_if_ne dX10_at_4 h (fun _ h => ml_aload_n dX10_at_9 0 rfl <| ml_ck_of h fun hc586 h => ml_getR dX10_at_10 wb_98 hc586 <| ml_lx (mk := ml_r) h fun a587 h => ml_iload_n dX10_at_13 1 rfl <| ml_ck_of h fun hi588 h => ml_aald (kd := 23) dX10_at_14 (by decide) hi588 <| ml_lx (mk := ml_r) h fun a589 h => ml_astore_n (lv' := [(3, ml_r a589), (0, ml_r l0), (1, ml_i l1), (2, ml_i l2)]) dX10_at_15 (ml_hn hL rfl) rfl <| ml_aload_n dX10_at_16 0 rfl <| ml_ifnonnull dX10_at_17 h (fun _ h => ml_iload_n dX10_at_26 3 rfl <| ml_if_lt dX10_at_27 h (fun _ h => ml_V.sub [1] rfl (vX10_at_36 hL hr  _ _ h)) (fun _ h => ml_iload_n dX10_at_30 3 rfl <| ml_aload_n dX10_at_31 0 rfl <| ml_ck_of h fun hc590 h => ml_alen (kd := 20) dX10_at_32 (by decide) hc590 <| ml_icmp_lt dX10_at_33 h (fun _ h => ml_aload_n dX10_at_42 1 rfl <| ml_aload_n dX10_at_43 0 rfl <| ml_iload_n dX10_at_44 3 rfl <| ml_ck_of h fun hi591 h => ml_iald dX10_at_45 hi591 <| ml_b2_of h fun r593 m594 hv592 h => ml_callV dX10_at_46 wm_149 wb_107 hc586 (sX10_tell hv592) rfl (Nat.le_of_ble_eq_true rfl) (Nat.le_of_ble_eq_true rfl) rfl <| ml_rI (mk := ml_i) hr dX10_at_49 (fun _ => trivial) h) (fun _ h => ml_V.sub [1] rfl (vX10_at_36 hL hr  _ _ h)))) (fun _ h => ml_aload_n dX10_at_20 1 rfl <| ml_iconst dX10_at_21 kc_i1 <| ml_b2_of h fun r596 m597 hv595 h => ml_callV dX10_at_22 wm_132 wb_99 hc586 (sX10_found hv595) rfl (Nat.le_of_ble_eq_true rfl) (Nat.le_of_ble_eq_true rfl) rfl <| ml_rI (mk := ml_i) hr dX10_at_25 (fun _ => trivial) h)) (fun _ h => ml_iconst dX10_at_7 kc_im1 <| ml_rI (mk := ml_i) hr dX10_at_8 (fun _ => trivial) h)
theorem sX10_at {l0 : Nat} {l1 : Int32} {l2 : Int32} {m : ml_M} {rv : Int32} {rm : ml_M} (h : fX10_at l0 l1 l2 m = some (rv, rm)) : ml_Sn yX10_at cX10_at 4 (some .int) 4 [ml_r l0, ml_i l1, ml_i l2] m (some (ml_i rv)) rm :=
  ml_Sn_of (P := True) (ini := false) (by decide +kernel) (Nat.le_of_ble_eq_true rfl) (fun h => by cases h) (fun _ => ml_RkI rv) fun E hL hr => wX10_at_0 hL hr _ _ _ _ h
theorem dX11_at_0 : ml_d cX11_at 0 (.iload_n 1) 1 1 := ⟨by decide +kernel, rfl⟩
theorem dX11_at_1 : ml_d cX11_at 1 (.invokestatic 111) 3 4 := ⟨by decide +kernel, rfl⟩
theorem dX11_at_4 : ml_j cX11_at 4 (.ifCond .ne) 9 7 := ⟨5, by decide +kernel, by decide, rfl⟩
theorem dX11_at_7 : ml_d cX11_at 7 (.iconst (-1)) 1 8 := ⟨by decide +kernel, rfl⟩
theorem dX11_at_8 : ml_d cX11_at 8 (.ireturn) 1 9 := ⟨by decide +kernel, rfl⟩
theorem dX11_at_9 : ml_d cX11_at 9 (.aload_n 0) 1 10 := ⟨by decide +kernel, rfl⟩
theorem dX11_at_10 : ml_d cX11_at 10 (.getfield 13) 3 13 := ⟨by decide +kernel, rfl⟩
theorem dX11_at_13 : ml_d cX11_at 13 (.iload_n 1) 1 14 := ⟨by decide +kernel, rfl⟩
theorem dX11_at_14 : ml_d cX11_at 14 (.iaload) 1 15 := ⟨by decide +kernel, rfl⟩
theorem dX11_at_15 : ml_j cX11_at 15 (.ifCond .ge) 24 18 := ⟨9, by decide +kernel, by decide, rfl⟩
theorem dX11_at_18 : ml_d cX11_at 18 (.aload_n 0) 1 19 := ⟨by decide +kernel, rfl⟩
theorem dX11_at_19 : ml_d cX11_at 19 (.iconst 1) 1 20 := ⟨by decide +kernel, rfl⟩
theorem dX11_at_20 : ml_d cX11_at 20 (.invokevirtual 115) 3 23 := ⟨by decide +kernel, rfl⟩
theorem dX11_at_23 : ml_d cX11_at 23 (.ireturn) 1 24 := ⟨by decide +kernel, rfl⟩
theorem dX11_at_24 : ml_d cX11_at 24 (.iload_n 2) 1 25 := ⟨by decide +kernel, rfl⟩
theorem dX11_at_25 : ml_d cX11_at 25 (.iconst 0) 1 26 := ⟨by decide +kernel, rfl⟩
theorem dX11_at_26 : ml_d cX11_at 26 (.aload_n 0) 1 27 := ⟨by decide +kernel, rfl⟩
theorem dX11_at_27 : ml_d cX11_at 27 (.getfield 13) 3 30 := ⟨by decide +kernel, rfl⟩
theorem dX11_at_30 : ml_d cX11_at 30 (.iload_n 1) 1 31 := ⟨by decide +kernel, rfl⟩
theorem dX11_at_31 : ml_d cX11_at 31 (.iaload) 1 32 := ⟨by decide +kernel, rfl⟩
theorem dX11_at_32 : ml_d cX11_at 32 (.iconst 1) 1 33 := ⟨by decide +kernel, rfl⟩
theorem dX11_at_33 : ml_d cX11_at 33 (.isub) 1 34 := ⟨by decide +kernel, rfl⟩
theorem dX11_at_34 : ml_d cX11_at 34 (.invokestatic 100) 3 37 := ⟨by decide +kernel, rfl⟩
theorem dX11_at_37 : ml_j cX11_at 37 (.ifCond .eq) 54 40 := ⟨17, by decide +kernel, by decide, rfl⟩
theorem dX11_at_40 : ml_d cX11_at 40 (.aload_n 0) 1 41 := ⟨by decide +kernel, rfl⟩
theorem dX11_at_41 : ml_d cX11_at 41 (.aload_n 0) 1 42 := ⟨by decide +kernel, rfl⟩
theorem dX11_at_42 : ml_d cX11_at 42 (.iload_n 1) 1 43 := ⟨by decide +kernel, rfl⟩
theorem dX11_at_43 : ml_d cX11_at 43 (.iload_n 2) 1 44 := ⟨by decide +kernel, rfl⟩
theorem dX11_at_44 : ml_d cX11_at 44 (.invokevirtual 119) 3 47 := ⟨by decide +kernel, rfl⟩
theorem dX11_at_47 : ml_d cX11_at 47 (.iconst 1) 1 48 := ⟨by decide +kernel, rfl⟩
theorem dX11_at_48 : ml_d cX11_at 48 (.invokevirtual 123) 3 51 := ⟨by decide +kernel, rfl⟩
theorem dX11_at_51 : ml_j cX11_at 51 .goto 59 54 := ⟨8, by decide +kernel, by decide, rfl⟩
theorem dX11_at_54 : ml_d cX11_at 54 (.aload_n 0) 1 55 := ⟨by decide +kernel, rfl⟩
theorem dX11_at_55 : ml_d cX11_at 55 (.iconst 2) 1 56 := ⟨by decide +kernel, rfl⟩
theorem dX11_at_56 : ml_d cX11_at 56 (.invokevirtual 115) 3 59 := ⟨by decide +kernel, rfl⟩
theorem dX11_at_59 : ml_d cX11_at 59 (.ireturn) 1 60 := ⟨by decide +kernel, rfl⟩
def fX11_at (l0 : Nat) (l1 : Int32) (l2 : Int32) (m : ml_M) : Option (Int32 × ml_M) :=
    ml_b1 (fX11_isRow l1 m) fun r599 =>
    if r599 = 0 then
    some ((-1 : Int32), m)
    else
    if (ml_K m l0).1 = 11 then
    ml_let (ml_R m l0 4) fun a601 =>
    if ml_in m a601 20 l1 then
    if 0 ≤ (ml_I m a601 l1.toNatClampNeg) then
    ml_let (ml_R m l0 4) fun a603 =>
    if ml_in m a603 20 l1 then
    ml_b1 (fX11_in l2 (0 : Int32) ((ml_I m a603 l1.toNatClampNeg) - (1 : Int32)) m) fun r606 =>
    if r606 = 0 then
    ml_b2 (fX11_meets l0 (2 : Int32) m) fun r608 m609 =>
    some (r608, m609)
    else
    ml_b1 (fX11_rowAt l0 l1 l2 m) fun r611 =>
    ml_b2 (fX11_tells l0 r611 (1 : Int32) m) fun r613 m614 =>
    some (r613, m614)
    else none
    else
    ml_b2 (fX11_meets l0 (1 : Int32) m) fun r616 m617 =>
    some (r616, m617)
    else none
    else none
theorem wX11_at_0 {E : ml_E} (hL : ml_eL E = 3) {rv : Int32} {rm : ml_M} (hr : ∀ (pc pc' : Nat) (lv : List (Nat × ml_X)), ml_d cX11_at pc .ireturn 1 pc' → True → ml_V E "LostRoomModel" cX11_at 4 false rm pc lv [ml_i rv]) : ∀ (l0 : Nat) (l1 : Int32) (l2 : Int32) (m : ml_M), fX11_at l0 l1 l2 m = some (rv, rm) → ml_V E "LostRoomModel" cX11_at 4 false m 0 [(0, ml_r l0), (1, ml_i l1), (2, ml_i l2)] [] := by
  intro l0 l1 l2 m h
  unfold fX11_at at h
  exact ml_iload_n dX11_at_0 1 rfl <| ml_b1_of h fun r599 hv598 h => ml_callS dX11_at_1 wm_140 wb_104 (sX11_isRow hv598) rfl (Nat.le_of_ble_eq_true rfl) (Nat.le_of_ble_eq_true rfl) rfl <| ml_if_ne dX11_at_4 h (fun _ h => ml_aload_n dX11_at_9 0 rfl <| ml_ck_of h fun hc600 h => ml_getR dX11_at_10 wb_64 hc600 <| ml_lx (mk := ml_r) h fun a601 h => ml_iload_n dX11_at_13 1 rfl <| ml_ck_of h fun hi602 h => ml_iald dX11_at_14 hi602 <| ml_if_ge dX11_at_15 h (fun _ h => ml_iload_n dX11_at_24 2 rfl <| ml_iconst dX11_at_25 kc_i0 <| ml_aload_n dX11_at_26 0 rfl <| ml_getR dX11_at_27 wb_64 hc600 <| ml_lx (mk := ml_r) h fun a603 h => ml_iload_n dX11_at_30 1 rfl <| ml_ck_of h fun hi604 h => ml_iald dX11_at_31 hi604 <| ml_iconst dX11_at_32 kc_i1 <| ml_isub dX11_at_33 <| ml_b1_of h fun r606 hv605 h => ml_callS dX11_at_34 wm_136 wb_100 (sX11_in hv605) rfl (Nat.le_of_ble_eq_true rfl) (Nat.le_of_ble_eq_true rfl) rfl <| ml_if_eq dX11_at_37 h (fun _ h => ml_aload_n dX11_at_54 0 rfl <| ml_iconst dX11_at_55 kc_i2 <| ml_b2_of h fun r608 m609 hv607 h => ml_callV dX11_at_56 wm_144 wb_105 hc600 (sX11_meets hv607) rfl (Nat.le_of_ble_eq_true rfl) (Nat.le_of_ble_eq_true rfl) rfl <| ml_rI (mk := ml_i) hr dX11_at_59 (fun _ => trivial) h) (fun _ h => ml_aload_n dX11_at_40 0 rfl <| ml_aload_n dX11_at_41 0 rfl <| ml_iload_n dX11_at_42 1 rfl <| ml_iload_n dX11_at_43 2 rfl <| ml_b1_of h fun r611 hv610 h => ml_callV dX11_at_44 wm_154 wb_109 hc600 (sX11_rowAt hv610) rfl (Nat.le_of_ble_eq_true rfl) (Nat.le_of_ble_eq_true rfl) rfl <| ml_iconst dX11_at_47 kc_i1 <| ml_b2_of h fun r613 m614 hv612 h => ml_callV dX11_at_48 wm_158 wb_110 hc600 (sX11_tells hv612) rfl (Nat.le_of_ble_eq_true rfl) (Nat.le_of_ble_eq_true rfl) rfl <| ml_goto dX11_at_51 <| ml_rI (mk := ml_i) hr dX11_at_59 (fun _ => trivial) h)) (fun _ h => ml_aload_n dX11_at_18 0 rfl <| ml_iconst dX11_at_19 kc_i1 <| ml_b2_of h fun r616 m617 hv615 h => ml_callV dX11_at_20 wm_144 wb_105 hc600 (sX11_meets hv615) rfl (Nat.le_of_ble_eq_true rfl) (Nat.le_of_ble_eq_true rfl) rfl <| ml_rI (mk := ml_i) hr dX11_at_23 (fun _ => trivial) h)) (fun _ h => ml_iconst dX11_at_7 kc_im1 <| ml_rI (mk := ml_i) hr dX11_at_8 (fun _ => trivial) h)
theorem sX11_at {l0 : Nat} {l1 : Int32} {l2 : Int32} {m : ml_M} {rv : Int32} {rm : ml_M} (h : fX11_at l0 l1 l2 m = some (rv, rm)) : ml_Sn yX11_at cX11_at 3 (some .int) 4 [ml_r l0, ml_i l1, ml_i l2] m (some (ml_i rv)) rm :=
  ml_Sn_of (P := True) (ini := false) (by decide +kernel) (Nat.le_of_ble_eq_true rfl) (fun h => by cases h) (fun _ => ml_RkI rv) fun E hL hr => wX11_at_0 hL hr _ _ _ _ h
theorem dX10_tear_0 : ml_d cX10_tear 0 (.iload_n 1) 1 1 := ⟨by decide +kernel, rfl⟩
theorem dX10_tear_1 : ml_d cX10_tear 1 (.invokestatic 82) 3 4 := ⟨by decide +kernel, rfl⟩
theorem dX10_tear_4 : ml_j cX10_tear 4 (.ifCond .ne) 9 7 := ⟨5, by decide +kernel, by decide, rfl⟩
theorem dX10_tear_7 : ml_d cX10_tear 7 (.iconst (-1)) 1 8 := ⟨by decide +kernel, rfl⟩
theorem dX10_tear_8 : ml_d cX10_tear 8 (.ireturn) 1 9 := ⟨by decide +kernel, rfl⟩
theorem dX10_tear_9 : ml_d cX10_tear 9 (.aload_n 0) 1 10 := ⟨by decide +kernel, rfl⟩
theorem dX10_tear_10 : ml_d cX10_tear 10 (.getfield 11) 3 13 := ⟨by decide +kernel, rfl⟩
theorem dX10_tear_13 : ml_d cX10_tear 13 (.iload_n 1) 1 14 := ⟨by decide +kernel, rfl⟩
theorem dX10_tear_14 : ml_d cX10_tear 14 (.aaload) 1 15 := ⟨by decide +kernel, rfl⟩
theorem dX10_tear_15 : ml_j cX10_tear 15 .ifnonnull 24 18 := ⟨9, by decide +kernel, by decide, rfl⟩
theorem dX10_tear_18 : ml_d cX10_tear 18 (.aload_n 0) 1 19 := ⟨by decide +kernel, rfl⟩
theorem dX10_tear_19 : ml_d cX10_tear 19 (.iconst 1) 1 20 := ⟨by decide +kernel, rfl⟩
theorem dX10_tear_20 : ml_d cX10_tear 20 (.invokevirtual 86) 3 23 := ⟨by decide +kernel, rfl⟩
theorem dX10_tear_23 : ml_d cX10_tear 23 (.ireturn) 1 24 := ⟨by decide +kernel, rfl⟩
theorem dX10_tear_24 : ml_d cX10_tear 24 (.aload_n 0) 1 25 := ⟨by decide +kernel, rfl⟩
theorem dX10_tear_25 : ml_d cX10_tear 25 (.getfield 11) 3 28 := ⟨by decide +kernel, rfl⟩
theorem dX10_tear_28 : ml_d cX10_tear 28 (.iload_n 1) 1 29 := ⟨by decide +kernel, rfl⟩
theorem dX10_tear_29 : ml_d cX10_tear 29 (.aconst_null) 1 30 := ⟨by decide +kernel, rfl⟩
theorem dX10_tear_30 : ml_d cX10_tear 30 (.aastore) 1 31 := ⟨by decide +kernel, rfl⟩
theorem dX10_tear_31 : ml_d cX10_tear 31 (.iconst 1) 1 32 := ⟨by decide +kernel, rfl⟩
theorem dX10_tear_32 : ml_d cX10_tear 32 (.ireturn) 1 33 := ⟨by decide +kernel, rfl⟩
def fX10_tear (l0 : Nat) (l1 : Int32) (m : ml_M) : Option (Int32 × ml_M) :=
    ml_b1 (fX10_isRow l1 m) fun r619 =>
    if r619 = 0 then
    some ((-1 : Int32), m)
    else
    if (ml_K m l0).1 = 10 then
    ml_let (ml_R m l0 0) fun a621 =>
    if ml_in m a621 23 l1 then
    ml_let (ml_R m a621 l1.toNatClampNeg) fun a623 =>
    if a623 = 0 then
    ml_b2 (fX10_found l0 (1 : Int32) m) fun r629 m630 =>
    some (r629, m630)
    else
    ml_let (ml_R m l0 0) fun a624 =>
    if ml_in m a624 23 l1 then
    ml_let (ml_sR m a624 l1.toNatClampNeg 0) fun m626 =>
    some ((1 : Int32), m626)
    else none
    else none
    else none
theorem wX10_tear_0 {E : ml_E} (hL : ml_eL E = 2) {rv : Int32} {rm : ml_M} (hr : ∀ (pc pc' : Nat) (lv : List (Nat × ml_X)), ml_d cX10_tear pc .ireturn 1 pc' → True → ml_V E "LostRoom" cX10_tear 4 false rm pc lv [ml_i rv]) : ∀ (l0 : Nat) (l1 : Int32) (m : ml_M), fX10_tear l0 l1 m = some (rv, rm) → ml_V E "LostRoom" cX10_tear 4 false m 0 [(0, ml_r l0), (1, ml_i l1)] [] := by
  intro l0 l1 m h
  unfold fX10_tear at h
  exact ml_iload_n dX10_tear_0 1 rfl <| ml_b1_of h fun r619 hv618 h => ml_callS dX10_tear_1 wm_128 wb_97 (sX10_isRow hv618) rfl (Nat.le_of_ble_eq_true rfl) (Nat.le_of_ble_eq_true rfl) rfl <| ml_if_ne dX10_tear_4 h (fun _ h => ml_aload_n dX10_tear_9 0 rfl <| ml_ck_of h fun hc620 h => ml_getR dX10_tear_10 wb_98 hc620 <| ml_lx (mk := ml_r) h fun a621 h => ml_iload_n dX10_tear_13 1 rfl <| ml_ck_of h fun hi622 h => ml_aald (kd := 23) dX10_tear_14 (by decide) hi622 <| ml_lx (mk := ml_r) h fun a623 h => ml_ifnonnull dX10_tear_15 h (fun _ h => ml_aload_n dX10_tear_24 0 rfl <| ml_getR dX10_tear_25 wb_98 hc620 <| ml_lx (mk := ml_r) h fun a624 h => ml_iload_n dX10_tear_28 1 rfl <| ml_aconst_null dX10_tear_29 <| ml_ck_of h fun hi625 h => ml_aastN (kd := 23) dX10_tear_30 (by decide) hi625 <| ml_lt (m := m) rfl h fun m626 em627 h => ml_iconst dX10_tear_31 kc_i1 <| ml_rI (mk := ml_i) hr dX10_tear_32 (fun _ => trivial) h) (fun _ h => ml_aload_n dX10_tear_18 0 rfl <| ml_iconst dX10_tear_19 kc_i1 <| ml_b2_of h fun r629 m630 hv628 h => ml_callV dX10_tear_20 wm_132 wb_99 hc620 (sX10_found hv628) rfl (Nat.le_of_ble_eq_true rfl) (Nat.le_of_ble_eq_true rfl) rfl <| ml_rI (mk := ml_i) hr dX10_tear_23 (fun _ => trivial) h)) (fun _ h => ml_iconst dX10_tear_7 kc_im1 <| ml_rI (mk := ml_i) hr dX10_tear_8 (fun _ => trivial) h)
theorem sX10_tear {l0 : Nat} {l1 : Int32} {m : ml_M} {rv : Int32} {rm : ml_M} (h : fX10_tear l0 l1 m = some (rv, rm)) : ml_Sn yX10_tear cX10_tear 2 (some .int) 4 [ml_r l0, ml_i l1] m (some (ml_i rv)) rm :=
  ml_Sn_of (P := True) (ini := false) (by decide +kernel) (Nat.le_of_ble_eq_true rfl) (fun h => by cases h) (fun _ => ml_RkI rv) fun E hL hr => wX10_tear_0 hL hr _ _ _ h
theorem dX11_tear_0 : ml_d cX11_tear 0 (.iload_n 1) 1 1 := ⟨by decide +kernel, rfl⟩
theorem dX11_tear_1 : ml_d cX11_tear 1 (.invokestatic 111) 3 4 := ⟨by decide +kernel, rfl⟩
theorem dX11_tear_4 : ml_j cX11_tear 4 (.ifCond .ne) 9 7 := ⟨5, by decide +kernel, by decide, rfl⟩
theorem dX11_tear_7 : ml_d cX11_tear 7 (.iconst (-1)) 1 8 := ⟨by decide +kernel, rfl⟩
theorem dX11_tear_8 : ml_d cX11_tear 8 (.ireturn) 1 9 := ⟨by decide +kernel, rfl⟩
theorem dX11_tear_9 : ml_d cX11_tear 9 (.aload_n 0) 1 10 := ⟨by decide +kernel, rfl⟩
theorem dX11_tear_10 : ml_d cX11_tear 10 (.getfield 13) 3 13 := ⟨by decide +kernel, rfl⟩
theorem dX11_tear_13 : ml_d cX11_tear 13 (.iload_n 1) 1 14 := ⟨by decide +kernel, rfl⟩
theorem dX11_tear_14 : ml_d cX11_tear 14 (.iaload) 1 15 := ⟨by decide +kernel, rfl⟩
theorem dX11_tear_15 : ml_j cX11_tear 15 (.ifCond .ge) 24 18 := ⟨9, by decide +kernel, by decide, rfl⟩
theorem dX11_tear_18 : ml_d cX11_tear 18 (.aload_n 0) 1 19 := ⟨by decide +kernel, rfl⟩
theorem dX11_tear_19 : ml_d cX11_tear 19 (.iconst 1) 1 20 := ⟨by decide +kernel, rfl⟩
theorem dX11_tear_20 : ml_d cX11_tear 20 (.invokevirtual 115) 3 23 := ⟨by decide +kernel, rfl⟩
theorem dX11_tear_23 : ml_d cX11_tear 23 (.ireturn) 1 24 := ⟨by decide +kernel, rfl⟩
theorem dX11_tear_24 : ml_d cX11_tear 24 (.aload_n 0) 1 25 := ⟨by decide +kernel, rfl⟩
theorem dX11_tear_25 : ml_d cX11_tear 25 (.getfield 13) 3 28 := ⟨by decide +kernel, rfl⟩
theorem dX11_tear_28 : ml_d cX11_tear 28 (.iload_n 1) 1 29 := ⟨by decide +kernel, rfl⟩
theorem dX11_tear_29 : ml_d cX11_tear 29 (.iconst (-1)) 1 30 := ⟨by decide +kernel, rfl⟩
theorem dX11_tear_30 : ml_d cX11_tear 30 (.iastore) 1 31 := ⟨by decide +kernel, rfl⟩
theorem dX11_tear_31 : ml_d cX11_tear 31 (.iconst 1) 1 32 := ⟨by decide +kernel, rfl⟩
theorem dX11_tear_32 : ml_d cX11_tear 32 (.ireturn) 1 33 := ⟨by decide +kernel, rfl⟩
def fX11_tear (l0 : Nat) (l1 : Int32) (m : ml_M) : Option (Int32 × ml_M) :=
    ml_b1 (fX11_isRow l1 m) fun r632 =>
    if r632 = 0 then
    some ((-1 : Int32), m)
    else
    if (ml_K m l0).1 = 11 then
    ml_let (ml_R m l0 4) fun a634 =>
    if ml_in m a634 20 l1 then
    if 0 ≤ (ml_I m a634 l1.toNatClampNeg) then
    ml_let (ml_R m l0 4) fun a636 =>
    if ml_in m a636 20 l1 then
    ml_let (ml_sI m a636 l1.toNatClampNeg (-1 : Int32)) fun m638 =>
    some ((1 : Int32), m638)
    else none
    else
    ml_b2 (fX11_meets l0 (1 : Int32) m) fun r641 m642 =>
    some (r641, m642)
    else none
    else none
theorem wX11_tear_0 {E : ml_E} (hL : ml_eL E = 2) {rv : Int32} {rm : ml_M} (hr : ∀ (pc pc' : Nat) (lv : List (Nat × ml_X)), ml_d cX11_tear pc .ireturn 1 pc' → True → ml_V E "LostRoomModel" cX11_tear 4 false rm pc lv [ml_i rv]) : ∀ (l0 : Nat) (l1 : Int32) (m : ml_M), fX11_tear l0 l1 m = some (rv, rm) → ml_V E "LostRoomModel" cX11_tear 4 false m 0 [(0, ml_r l0), (1, ml_i l1)] [] := by
  intro l0 l1 m h
  unfold fX11_tear at h
  exact ml_iload_n dX11_tear_0 1 rfl <| ml_b1_of h fun r632 hv631 h => ml_callS dX11_tear_1 wm_140 wb_104 (sX11_isRow hv631) rfl (Nat.le_of_ble_eq_true rfl) (Nat.le_of_ble_eq_true rfl) rfl <| ml_if_ne dX11_tear_4 h (fun _ h => ml_aload_n dX11_tear_9 0 rfl <| ml_ck_of h fun hc633 h => ml_getR dX11_tear_10 wb_64 hc633 <| ml_lx (mk := ml_r) h fun a634 h => ml_iload_n dX11_tear_13 1 rfl <| ml_ck_of h fun hi635 h => ml_iald dX11_tear_14 hi635 <| ml_if_ge dX11_tear_15 h (fun _ h => ml_aload_n dX11_tear_24 0 rfl <| ml_getR dX11_tear_25 wb_64 hc633 <| ml_lx (mk := ml_r) h fun a636 h => ml_iload_n dX11_tear_28 1 rfl <| ml_iconst dX11_tear_29 kc_im1 <| ml_ck_of h fun hi637 h => ml_iast dX11_tear_30 hi637 <| ml_lt (m := m) rfl h fun m638 em639 h => ml_iconst dX11_tear_31 kc_i1 <| ml_rI (mk := ml_i) hr dX11_tear_32 (fun _ => trivial) h) (fun _ h => ml_aload_n dX11_tear_18 0 rfl <| ml_iconst dX11_tear_19 kc_i1 <| ml_b2_of h fun r641 m642 hv640 h => ml_callV dX11_tear_20 wm_144 wb_105 hc633 (sX11_meets hv640) rfl (Nat.le_of_ble_eq_true rfl) (Nat.le_of_ble_eq_true rfl) rfl <| ml_rI (mk := ml_i) hr dX11_tear_23 (fun _ => trivial) h)) (fun _ h => ml_iconst dX11_tear_7 kc_im1 <| ml_rI (mk := ml_i) hr dX11_tear_8 (fun _ => trivial) h)
theorem sX11_tear {l0 : Nat} {l1 : Int32} {m : ml_M} {rv : Int32} {rm : ml_M} (h : fX11_tear l0 l1 m = some (rv, rm)) : ml_Sn yX11_tear cX11_tear 2 (some .int) 4 [ml_r l0, ml_i l1] m (some (ml_i rv)) rm :=
  ml_Sn_of (P := True) (ini := false) (by decide +kernel) (Nat.le_of_ble_eq_true rfl) (fun h => by cases h) (fun _ => ml_RkI rv) fun E hL hr => wX11_tear_0 hL hr _ _ _ h

/-! printed by wip/whole/emit.py out of the claim's own listing -/
theorem dJ6_bitCount_0f7a4_0 : ml_d cJ6_bitCount_0f7a4 0 (.iload_n 0) 1 1 := ⟨by decide +kernel, rfl⟩
theorem dJ6_bitCount_0f7a4_1 : ml_d cJ6_bitCount_0f7a4 1 (.iload_n 0) 1 2 := ⟨by decide +kernel, rfl⟩
theorem dJ6_bitCount_0f7a4_2 : ml_d cJ6_bitCount_0f7a4 2 (.iconst 1) 1 3 := ⟨by decide +kernel, rfl⟩
theorem dJ6_bitCount_0f7a4_3 : ml_d cJ6_bitCount_0f7a4 3 (.iushr) 1 4 := ⟨by decide +kernel, rfl⟩
theorem dJ6_bitCount_0f7a4_4 : ml_d cJ6_bitCount_0f7a4 4 (.ldc_w 265) 3 7 := ⟨by decide +kernel, rfl⟩
theorem dJ6_bitCount_0f7a4_7 : ml_d cJ6_bitCount_0f7a4 7 (.iand) 1 8 := ⟨by decide +kernel, rfl⟩
theorem dJ6_bitCount_0f7a4_8 : ml_d cJ6_bitCount_0f7a4 8 (.isub) 1 9 := ⟨by decide +kernel, rfl⟩
theorem dJ6_bitCount_0f7a4_9 : ml_d cJ6_bitCount_0f7a4 9 (.istore_n 0) 1 10 := ⟨by decide +kernel, rfl⟩
theorem dJ6_bitCount_0f7a4_10 : ml_d cJ6_bitCount_0f7a4 10 (.iload_n 0) 1 11 := ⟨by decide +kernel, rfl⟩
theorem dJ6_bitCount_0f7a4_11 : ml_d cJ6_bitCount_0f7a4 11 (.ldc_w 266) 3 14 := ⟨by decide +kernel, rfl⟩
theorem dJ6_bitCount_0f7a4_14 : ml_d cJ6_bitCount_0f7a4 14 (.iand) 1 15 := ⟨by decide +kernel, rfl⟩
theorem dJ6_bitCount_0f7a4_15 : ml_d cJ6_bitCount_0f7a4 15 (.iload_n 0) 1 16 := ⟨by decide +kernel, rfl⟩
theorem dJ6_bitCount_0f7a4_16 : ml_d cJ6_bitCount_0f7a4 16 (.iconst 2) 1 17 := ⟨by decide +kernel, rfl⟩
theorem dJ6_bitCount_0f7a4_17 : ml_d cJ6_bitCount_0f7a4 17 (.iushr) 1 18 := ⟨by decide +kernel, rfl⟩
theorem dJ6_bitCount_0f7a4_18 : ml_d cJ6_bitCount_0f7a4 18 (.ldc_w 266) 3 21 := ⟨by decide +kernel, rfl⟩
theorem dJ6_bitCount_0f7a4_21 : ml_d cJ6_bitCount_0f7a4 21 (.iand) 1 22 := ⟨by decide +kernel, rfl⟩
theorem dJ6_bitCount_0f7a4_22 : ml_d cJ6_bitCount_0f7a4 22 (.iadd) 1 23 := ⟨by decide +kernel, rfl⟩
theorem dJ6_bitCount_0f7a4_23 : ml_d cJ6_bitCount_0f7a4 23 (.istore_n 0) 1 24 := ⟨by decide +kernel, rfl⟩
theorem dJ6_bitCount_0f7a4_24 : ml_d cJ6_bitCount_0f7a4 24 (.iload_n 0) 1 25 := ⟨by decide +kernel, rfl⟩
theorem dJ6_bitCount_0f7a4_25 : ml_d cJ6_bitCount_0f7a4 25 (.iload_n 0) 1 26 := ⟨by decide +kernel, rfl⟩
theorem dJ6_bitCount_0f7a4_26 : ml_d cJ6_bitCount_0f7a4 26 (.iconst 4) 1 27 := ⟨by decide +kernel, rfl⟩
theorem dJ6_bitCount_0f7a4_27 : ml_d cJ6_bitCount_0f7a4 27 (.iushr) 1 28 := ⟨by decide +kernel, rfl⟩
theorem dJ6_bitCount_0f7a4_28 : ml_d cJ6_bitCount_0f7a4 28 (.iadd) 1 29 := ⟨by decide +kernel, rfl⟩
theorem dJ6_bitCount_0f7a4_29 : ml_d cJ6_bitCount_0f7a4 29 (.ldc_w 267) 3 32 := ⟨by decide +kernel, rfl⟩
theorem dJ6_bitCount_0f7a4_32 : ml_d cJ6_bitCount_0f7a4 32 (.iand) 1 33 := ⟨by decide +kernel, rfl⟩
theorem dJ6_bitCount_0f7a4_33 : ml_d cJ6_bitCount_0f7a4 33 (.istore_n 0) 1 34 := ⟨by decide +kernel, rfl⟩
theorem dJ6_bitCount_0f7a4_34 : ml_d cJ6_bitCount_0f7a4 34 (.iload_n 0) 1 35 := ⟨by decide +kernel, rfl⟩
theorem dJ6_bitCount_0f7a4_35 : ml_d cJ6_bitCount_0f7a4 35 (.iload_n 0) 1 36 := ⟨by decide +kernel, rfl⟩
theorem dJ6_bitCount_0f7a4_36 : ml_d cJ6_bitCount_0f7a4 36 (.bipush 8) 2 38 := ⟨by decide +kernel, rfl⟩
theorem dJ6_bitCount_0f7a4_38 : ml_d cJ6_bitCount_0f7a4 38 (.iushr) 1 39 := ⟨by decide +kernel, rfl⟩
theorem dJ6_bitCount_0f7a4_39 : ml_d cJ6_bitCount_0f7a4 39 (.iadd) 1 40 := ⟨by decide +kernel, rfl⟩
theorem dJ6_bitCount_0f7a4_40 : ml_d cJ6_bitCount_0f7a4 40 (.istore_n 0) 1 41 := ⟨by decide +kernel, rfl⟩
theorem dJ6_bitCount_0f7a4_41 : ml_d cJ6_bitCount_0f7a4 41 (.iload_n 0) 1 42 := ⟨by decide +kernel, rfl⟩
theorem dJ6_bitCount_0f7a4_42 : ml_d cJ6_bitCount_0f7a4 42 (.iload_n 0) 1 43 := ⟨by decide +kernel, rfl⟩
theorem dJ6_bitCount_0f7a4_43 : ml_d cJ6_bitCount_0f7a4 43 (.bipush 16) 2 45 := ⟨by decide +kernel, rfl⟩
theorem dJ6_bitCount_0f7a4_45 : ml_d cJ6_bitCount_0f7a4 45 (.iushr) 1 46 := ⟨by decide +kernel, rfl⟩
theorem dJ6_bitCount_0f7a4_46 : ml_d cJ6_bitCount_0f7a4 46 (.iadd) 1 47 := ⟨by decide +kernel, rfl⟩
theorem dJ6_bitCount_0f7a4_47 : ml_d cJ6_bitCount_0f7a4 47 (.istore_n 0) 1 48 := ⟨by decide +kernel, rfl⟩
theorem dJ6_bitCount_0f7a4_48 : ml_d cJ6_bitCount_0f7a4 48 (.iload_n 0) 1 49 := ⟨by decide +kernel, rfl⟩
theorem dJ6_bitCount_0f7a4_49 : ml_d cJ6_bitCount_0f7a4 49 (.bipush 63) 2 51 := ⟨by decide +kernel, rfl⟩
theorem dJ6_bitCount_0f7a4_51 : ml_d cJ6_bitCount_0f7a4 51 (.iand) 1 52 := ⟨by decide +kernel, rfl⟩
theorem dJ6_bitCount_0f7a4_52 : ml_d cJ6_bitCount_0f7a4 52 (.ireturn) 1 53 := ⟨by decide +kernel, rfl⟩
def fJ6_bitCount_0f7a4 (l0 : Int32) (m : ml_M) : Option Int32 :=
ml_let (l0 - ((l0.toUInt32 >>> ((1 : Int32).toUInt32 &&& Int32.toUInt32 31)).toInt32 &&& (1431655765 : Int32))) fun x1 =>
ml_let ((x1 &&& (858993459 : Int32)) + ((x1.toUInt32 >>> ((2 : Int32).toUInt32 &&& Int32.toUInt32 31)).toInt32 &&& (858993459 : Int32))) fun x2 =>
ml_let ((x2 + (x2.toUInt32 >>> ((4 : Int32).toUInt32 &&& Int32.toUInt32 31)).toInt32) &&& (252645135 : Int32)) fun x3 =>
ml_let (x3 + (x3.toUInt32 >>> ((8 : Int32).toUInt32 &&& Int32.toUInt32 31)).toInt32) fun x4 =>
ml_let (x4 + (x4.toUInt32 >>> ((16 : Int32).toUInt32 &&& Int32.toUInt32 31)).toInt32) fun x5 =>
some (x5 &&& (63 : Int32))
theorem wJ6_bitCount_0f7a4_0 {E : ml_E} (hL : ml_eL E = 1) {rv : Int32} {m : ml_M} (hr : ∀ (pc pc' : Nat) (lv : List (Nat × ml_X)), ml_d cJ6_bitCount_0f7a4 pc .ireturn 1 pc' → True → ml_V E "java/lang/Integer" cJ6_bitCount_0f7a4 2 false m pc lv [ml_i rv]) : ∀ (l0 : Int32), fJ6_bitCount_0f7a4 l0 m = some rv → ml_V E "java/lang/Integer" cJ6_bitCount_0f7a4 2 false m 0 [(0, ml_i l0)] [] := by
  intro l0 h
  exact ml_iload_n dJ6_bitCount_0f7a4_0 0 rfl <| ml_iload_n dJ6_bitCount_0f7a4_1 0 rfl <| ml_iconst dJ6_bitCount_0f7a4_2 kc_i1 <| ml_iushr dJ6_bitCount_0f7a4_3 <| ml_ldcw dJ6_bitCount_0f7a4_4 wm_0 <| ml_iand dJ6_bitCount_0f7a4_7 <| ml_isub dJ6_bitCount_0f7a4_8 <| ml_lx (mk := ml_i) h fun x1 h => ml_istore_n (lv' := [(0, ml_i x1)]) dJ6_bitCount_0f7a4_9 (hL ▸ (Nat.le_of_ble_eq_true rfl)) rfl <| ml_iload_n dJ6_bitCount_0f7a4_10 0 rfl <| ml_ldcw dJ6_bitCount_0f7a4_11 wm_1 <| ml_iand dJ6_bitCount_0f7a4_14 <| ml_iload_n dJ6_bitCount_0f7a4_15 0 rfl <| ml_iconst dJ6_bitCount_0f7a4_16 kc_i2 <| ml_iushr dJ6_bitCount_0f7a4_17 <| ml_ldcw dJ6_bitCount_0f7a4_18 wm_1 <| ml_iand dJ6_bitCount_0f7a4_21 <| ml_iadd dJ6_bitCount_0f7a4_22 <| ml_lx (mk := ml_i) h fun x2 h => ml_istore_n (lv' := [(0, ml_i x2)]) dJ6_bitCount_0f7a4_23 (hL ▸ (Nat.le_of_ble_eq_true rfl)) rfl <| ml_iload_n dJ6_bitCount_0f7a4_24 0 rfl <| ml_iload_n dJ6_bitCount_0f7a4_25 0 rfl <| ml_iconst dJ6_bitCount_0f7a4_26 kc_i4 <| ml_iushr dJ6_bitCount_0f7a4_27 <| ml_iadd dJ6_bitCount_0f7a4_28 <| ml_ldcw dJ6_bitCount_0f7a4_29 wm_2 <| ml_iand dJ6_bitCount_0f7a4_32 <| ml_lx (mk := ml_i) h fun x3 h => ml_istore_n (lv' := [(0, ml_i x3)]) dJ6_bitCount_0f7a4_33 (hL ▸ (Nat.le_of_ble_eq_true rfl)) rfl <| ml_iload_n dJ6_bitCount_0f7a4_34 0 rfl <| ml_iload_n dJ6_bitCount_0f7a4_35 0 rfl <| ml_bipush dJ6_bitCount_0f7a4_36 kc_b8 <| ml_iushr dJ6_bitCount_0f7a4_38 <| ml_iadd dJ6_bitCount_0f7a4_39 <| ml_lx (mk := ml_i) h fun x4 h => ml_istore_n (lv' := [(0, ml_i x4)]) dJ6_bitCount_0f7a4_40 (hL ▸ (Nat.le_of_ble_eq_true rfl)) rfl <| ml_iload_n dJ6_bitCount_0f7a4_41 0 rfl <| ml_iload_n dJ6_bitCount_0f7a4_42 0 rfl <| ml_bipush dJ6_bitCount_0f7a4_43 kc_b16 <| ml_iushr dJ6_bitCount_0f7a4_45 <| ml_iadd dJ6_bitCount_0f7a4_46 <| ml_lx (mk := ml_i) h fun x5 h => ml_istore_n (lv' := [(0, ml_i x5)]) dJ6_bitCount_0f7a4_47 (hL ▸ (Nat.le_of_ble_eq_true rfl)) rfl <| ml_iload_n dJ6_bitCount_0f7a4_48 0 rfl <| ml_bipush dJ6_bitCount_0f7a4_49 kc_b63 <| ml_iand dJ6_bitCount_0f7a4_51 <| ml_rp (mk := ml_i) hr dJ6_bitCount_0f7a4_52 (fun _ => trivial) h
theorem sJ6_bitCount_0f7a4 {l0 : Int32} {m : ml_M} {rv : Int32} (h : fJ6_bitCount_0f7a4 l0 m = some rv) : ml_Sn yJ6_bitCount_0f7a4 cJ6_bitCount_0f7a4 1 (some .int) 2 [ml_i l0] m (some (ml_i rv)) m :=
  ml_Sn_of (P := True) (ini := false) (by decide +kernel) (Nat.le_of_ble_eq_true rfl) (fun h => by cases h) (fun _ => ml_RkI rv) fun E hL hr => wJ6_bitCount_0f7a4_0 hL hr _ h
theorem dJ9_min_7cf53_0 : ml_d cJ9_min_7cf53 0 (.iload_n 0) 1 1 := ⟨by decide +kernel, rfl⟩
theorem dJ9_min_7cf53_1 : ml_d cJ9_min_7cf53 1 (.iload_n 1) 1 2 := ⟨by decide +kernel, rfl⟩
theorem dJ9_min_7cf53_2 : ml_j cJ9_min_7cf53 2 (.if_icmp .gt) 9 5 := ⟨7, by decide +kernel, by decide, rfl⟩
theorem dJ9_min_7cf53_5 : ml_d cJ9_min_7cf53 5 (.iload_n 0) 1 6 := ⟨by decide +kernel, rfl⟩
theorem dJ9_min_7cf53_6 : ml_j cJ9_min_7cf53 6 .goto 10 9 := ⟨4, by decide +kernel, by decide, rfl⟩
theorem dJ9_min_7cf53_9 : ml_d cJ9_min_7cf53 9 (.iload_n 1) 1 10 := ⟨by decide +kernel, rfl⟩
theorem dJ9_min_7cf53_10 : ml_d cJ9_min_7cf53 10 (.ireturn) 1 11 := ⟨by decide +kernel, rfl⟩
def fJ9_min_7cf53 (l0 : Int32) (l1 : Int32) (m : ml_M) : Option Int32 :=
if l1 < l0 then
some l1
else
some l0
theorem wJ9_min_7cf53_0 {E : ml_E} (hL : ml_eL E = 2) {rv : Int32} {m : ml_M} (hr : ∀ (pc pc' : Nat) (lv : List (Nat × ml_X)), ml_d cJ9_min_7cf53 pc .ireturn 1 pc' → True → ml_V E "java/lang/Math" cJ9_min_7cf53 2 false m pc lv [ml_i rv]) : ∀ (l0 : Int32) (l1 : Int32), fJ9_min_7cf53 l0 l1 m = some rv → ml_V E "java/lang/Math" cJ9_min_7cf53 2 false m 0 [(0, ml_i l0), (1, ml_i l1)] [] := by
  intro l0 l1 h
  exact ml_iload_n dJ9_min_7cf53_0 0 rfl <| ml_iload_n dJ9_min_7cf53_1 1 rfl <| ml_icmp_gt dJ9_min_7cf53_2 h (fun _ h => ml_iload_n dJ9_min_7cf53_9 1 rfl <| ml_rp (mk := ml_i) hr dJ9_min_7cf53_10 (fun _ => trivial) h) (fun _ h => ml_iload_n dJ9_min_7cf53_5 0 rfl <| ml_goto dJ9_min_7cf53_6 <| ml_rp (mk := ml_i) hr dJ9_min_7cf53_10 (fun _ => trivial) h)
theorem sJ9_min_7cf53 {l0 : Int32} {l1 : Int32} {m : ml_M} {rv : Int32} (h : fJ9_min_7cf53 l0 l1 m = some rv) : ml_Sn yJ9_min_7cf53 cJ9_min_7cf53 2 (some .int) 2 [ml_i l0, ml_i l1] m (some (ml_i rv)) m :=
  ml_Sn_of (P := True) (ini := false) (by decide +kernel) (Nat.le_of_ble_eq_true rfl) (fun h => by cases h) (fun _ => ml_RkI rv) fun E hL hr => wJ9_min_7cf53_0 hL hr _ _ h
theorem dJ7_copyOf_59c91_0 : ml_d cJ7_copyOf_59c91 0 (.iload_n 1) 1 1 := ⟨by decide +kernel, rfl⟩
theorem dJ7_copyOf_59c91_1 : ml_d cJ7_copyOf_59c91 1 (.aload_n 0) 1 2 := ⟨by decide +kernel, rfl⟩
theorem dJ7_copyOf_59c91_2 : ml_d cJ7_copyOf_59c91 2 (.arraylength) 1 3 := ⟨by decide +kernel, rfl⟩
theorem dJ7_copyOf_59c91_3 : ml_j cJ7_copyOf_59c91 3 (.if_icmp .ne) 14 6 := ⟨11, by decide +kernel, by decide, rfl⟩
theorem dJ7_copyOf_59c91_6 : ml_d cJ7_copyOf_59c91 6 (.aload_n 0) 1 7 := ⟨by decide +kernel, rfl⟩
theorem dJ7_copyOf_59c91_7 : ml_d cJ7_copyOf_59c91 7 (.invokevirtual 316) 3 10 := ⟨by decide +kernel, rfl⟩
theorem dJ7_copyOf_59c91_10 : ml_d cJ7_copyOf_59c91 10 (.checkcast 317) 3 13 := ⟨by decide +kernel, rfl⟩
theorem dJ7_copyOf_59c91_13 : ml_d cJ7_copyOf_59c91 13 (.areturn) 1 14 := ⟨by decide +kernel, rfl⟩
theorem dJ7_copyOf_59c91_14 : ml_d cJ7_copyOf_59c91 14 (.iload_n 1) 1 15 := ⟨by decide +kernel, rfl⟩
theorem dJ7_copyOf_59c91_15 : ml_d cJ7_copyOf_59c91 15 (.newarray .int) 2 17 := ⟨by decide +kernel, rfl⟩
theorem dJ7_copyOf_59c91_17 : ml_d cJ7_copyOf_59c91 17 (.astore_n 2) 1 18 := ⟨by decide +kernel, rfl⟩
theorem dJ7_copyOf_59c91_18 : ml_d cJ7_copyOf_59c91 18 (.aload_n 0) 1 19 := ⟨by decide +kernel, rfl⟩
theorem dJ7_copyOf_59c91_19 : ml_d cJ7_copyOf_59c91 19 (.iconst 0) 1 20 := ⟨by decide +kernel, rfl⟩
theorem dJ7_copyOf_59c91_20 : ml_d cJ7_copyOf_59c91 20 (.aload_n 2) 1 21 := ⟨by decide +kernel, rfl⟩
theorem dJ7_copyOf_59c91_21 : ml_d cJ7_copyOf_59c91 21 (.iconst 0) 1 22 := ⟨by decide +kernel, rfl⟩
theorem dJ7_copyOf_59c91_22 : ml_d cJ7_copyOf_59c91 22 (.aload_n 0) 1 23 := ⟨by decide +kernel, rfl⟩
theorem dJ7_copyOf_59c91_23 : ml_d cJ7_copyOf_59c91 23 (.arraylength) 1 24 := ⟨by decide +kernel, rfl⟩
theorem dJ7_copyOf_59c91_24 : ml_d cJ7_copyOf_59c91 24 (.iload_n 1) 1 25 := ⟨by decide +kernel, rfl⟩
theorem dJ7_copyOf_59c91_25 : ml_d cJ7_copyOf_59c91 25 (.invokestatic 304) 3 28 := ⟨by decide +kernel, rfl⟩
theorem dJ7_copyOf_59c91_28 : ml_d cJ7_copyOf_59c91 28 (.invokestatic 150) 3 31 := ⟨by decide +kernel, rfl⟩
theorem dJ7_copyOf_59c91_31 : ml_d cJ7_copyOf_59c91 31 (.aload_n 2) 1 32 := ⟨by decide +kernel, rfl⟩
theorem dJ7_copyOf_59c91_32 : ml_d cJ7_copyOf_59c91 32 (.areturn) 1 33 := ⟨by decide +kernel, rfl⟩
def fJ7_copyOf_59c91 (l0 : Nat) (l1 : Int32) (m : ml_M) : Option (Nat × ml_M) :=
if (ml_K m16 l0).1 = 20 then
if l1 = (Int32.ofNat (ml_K m l0).2) then
ml_let (ml_n m + 1) fun a18 =>
ml_let (ml_cl2 m l0) fun m19 =>
some (a18, m19)
else
if ml_len l1 then
ml_let (ml_n m + 1) fun a8 =>
ml_let (ml_al m 20 l1.toNatClampNeg l1.toNatClampNeg) fun m9 =>
if (ml_K m16 l0).1 = 20 then
ml_b1 (fJ9_min_7cf53 (Int32.ofNat (ml_K m9 l0).2) l1 m9) fun r14 =>
if ml_cpo m9 l0 a8 (0 : Int32) (0 : Int32) r14 then
ml_let (ml_cp m9 l0 (0 : Int32).toNatClampNeg a8 (0 : Int32).toNatClampNeg r14.toNatClampNeg) fun m16 =>
some (a8, m16)
else none
else none
else none
else none
theorem wJ7_copyOf_59c91_0 {E : ml_E} (hL : ml_eL E = 3) {rv : Nat} {rm : ml_M} (hr : ∀ (pc pc' : Nat) (lv : List (Nat × ml_X)), ml_d cJ7_copyOf_59c91 pc .areturn 1 pc' → True → ml_V E "java/util/Arrays" cJ7_copyOf_59c91 3 false rm pc lv [ml_r rv]) : ∀ (l0 : Nat) (l1 : Int32) (m : ml_M), fJ7_copyOf_59c91 l0 l1 m = some (rv, rm) → ml_V E "java/util/Arrays" cJ7_copyOf_59c91 3 false m 0 [(0, ml_r l0), (1, ml_i l1)] [] := by
  intro l0 l1 m h
  exact ml_iload_n dJ7_copyOf_59c91_0 1 rfl <| ml_aload_n dJ7_copyOf_59c91_1 0 rfl <| ml_ck_of h fun hc6 h => ml_alen dJ7_copyOf_59c91_2 (by decide) hc6 <| ml_icmp_ne dJ7_copyOf_59c91_3 h (fun _ h => ml_iload_n dJ7_copyOf_59c91_14 1 rfl <| ml_ck_of h fun hl7 h => ml_newAs (kd := 20) dJ7_copyOf_59c91_15 wb_0 hl7 h fun a8 m9 hn10 hc11 h => ml_astore_n (lv' := [(2, ml_r a8), (0, ml_r l0), (1, ml_i l1)]) dJ7_copyOf_59c91_17 (hL ▸ (Nat.le_of_ble_eq_true rfl)) rfl <| ml_aload_n dJ7_copyOf_59c91_18 1 rfl <| ml_iconst dJ7_copyOf_59c91_19 kc_i0 <| ml_aload_n dJ7_copyOf_59c91_20 0 rfl <| ml_iconst dJ7_copyOf_59c91_21 kc_i0 <| ml_aload_n dJ7_copyOf_59c91_22 1 rfl <| ml_ck_of h fun hc12 h => ml_alen dJ7_copyOf_59c91_23 (by decide) hc12 <| ml_iload_n dJ7_copyOf_59c91_24 2 rfl <| ml_b1_of h fun r14 hv13 h => ml_callS dJ7_copyOf_59c91_25 wm_7 wb_1 (sJ9_min_7cf53 hv13) rfl (Nat.le_of_ble_eq_true rfl) (Nat.le_of_ble_eq_true rfl) rfl <| ml_ck_of h fun ho15 h => ml_copys dJ7_copyOf_59c91_28 wb_2 (Nat.le_of_ble_eq_true rfl) (Nat.le_of_ble_eq_true rfl) ho15 h fun m16 em17 h => ml_aload_n dJ7_copyOf_59c91_31 0 rfl <| ml_rI (mk := ml_r) hr dJ7_copyOf_59c91_32 (fun _ => trivial) h) (fun _ h => ml_aload_n dJ7_copyOf_59c91_6 0 rfl <| ml_clones dJ7_copyOf_59c91_7 wb_3 (Nat.le_of_ble_eq_true rfl) (Nat.le_of_ble_eq_true rfl) hc6 h fun a18 m19 hn20 hc21 h => ml_cast dJ7_copyOf_59c91_10 wm_17 hc21 <| ml_rI (mk := ml_r) hr dJ7_copyOf_59c91_13 (fun _ => trivial) h)
theorem sJ7_copyOf_59c91 {l0 : Nat} {l1 : Int32} {m : ml_M} {rv : Nat} {rm : ml_M} (h : fJ7_copyOf_59c91 l0 l1 m = some (rv, rm)) : ml_Sn yJ7_copyOf_59c91 cJ7_copyOf_59c91 3 (some (.array .int)) 3 [ml_r l0, ml_i l1] m (some (ml_r rv)) rm :=
  ml_Sn_of (P := True) (ini := false) (by decide +kernel) (Nat.le_of_ble_eq_true rfl) (fun h => by cases h) (fun _ => ml_RkA (Or.inr ⟨_, rfl⟩) rv) fun E hL hr => wJ7_copyOf_59c91_0 hL hr _ _ _ h
theorem dJ7_fill_031fb_0 : ml_d cJ7_fill_031fb 0 (.iconst 0) 1 1 := ⟨by decide +kernel, rfl⟩
theorem dJ7_fill_031fb_1 : ml_d cJ7_fill_031fb 1 (.istore_n 2) 1 2 := ⟨by decide +kernel, rfl⟩
theorem dJ7_fill_031fb_2 : ml_d cJ7_fill_031fb 2 (.aload_n 0) 1 3 := ⟨by decide +kernel, rfl⟩
theorem dJ7_fill_031fb_3 : ml_d cJ7_fill_031fb 3 (.arraylength) 1 4 := ⟨by decide +kernel, rfl⟩
theorem dJ7_fill_031fb_4 : ml_d cJ7_fill_031fb 4 (.istore_n 3) 1 5 := ⟨by decide +kernel, rfl⟩
theorem dJ7_fill_031fb_5 : ml_d cJ7_fill_031fb 5 (.iload_n 2) 1 6 := ⟨by decide +kernel, rfl⟩
theorem dJ7_fill_031fb_6 : ml_d cJ7_fill_031fb 6 (.iload_n 3) 1 7 := ⟨by decide +kernel, rfl⟩
theorem dJ7_fill_031fb_7 : ml_j cJ7_fill_031fb 7 (.if_icmp .ge) 20 10 := ⟨13, by decide +kernel, by decide, rfl⟩
theorem dJ7_fill_031fb_10 : ml_d cJ7_fill_031fb 10 (.aload_n 0) 1 11 := ⟨by decide +kernel, rfl⟩
theorem dJ7_fill_031fb_11 : ml_d cJ7_fill_031fb 11 (.iload_n 2) 1 12 := ⟨by decide +kernel, rfl⟩
theorem dJ7_fill_031fb_12 : ml_d cJ7_fill_031fb 12 (.iload_n 1) 1 13 := ⟨by decide +kernel, rfl⟩
theorem dJ7_fill_031fb_13 : ml_d cJ7_fill_031fb 13 (.bastore) 1 14 := ⟨by decide +kernel, rfl⟩
theorem dJ7_fill_031fb_14 : ml_d cJ7_fill_031fb 14 (.iinc 2 1) 3 17 := ⟨by decide +kernel, rfl⟩
theorem dJ7_fill_031fb_17 : ml_j cJ7_fill_031fb 17 .goto 5 20 := ⟨(-12), by decide +kernel, by decide, rfl⟩
theorem dJ7_fill_031fb_20 : ml_d cJ7_fill_031fb 20 (.return_) 1 21 := ⟨by decide +kernel, rfl⟩
def fJ7_fill_031fb_5 : Nat → Nat → Int32 → Int32 → Int32 → ml_M → Option ml_M
  | 0, _, _, _, _, _ => none
  | fu + 1, l0, l1, l2, l3, m =>
if l3 ≤ l2 then
some m
else
if ml_in m l0 21 l2 then
ml_let (ml_sI m l0 l2.toNatClampNeg l1.toInt8.toInt32) fun m23 =>
(fJ7_fill_031fb_5 fu) l0 l1 (l2 + (1 : Int32)) l3 m23
else none
theorem vJ7_fill_031fb_5 {E : ml_E} (hL : ml_eL E = 4) {rm : ml_M} (hr : ∀ (pc pc' : Nat) (lv : List (Nat × ml_X)), ml_d cJ7_fill_031fb pc .return_ 1 pc' → True → ml_V E "java/util/Arrays" cJ7_fill_031fb 2 false rm pc lv []) : ∀ (fu : Nat) (l0 : Nat) (l1 : Int32) (l2 : Int32) (l3 : Int32) (m : ml_M), fJ7_fill_031fb_5 fu l0 l1 l2 l3 m = some rm → ml_V E "java/util/Arrays" cJ7_fill_031fb 2 false m 5 [(0, ml_r l0), (1, ml_i l1), (2, ml_i l2), (3, ml_i l3)] [] := by
  intro fu
  induction fu with
  | zero => intro l0 l1 l2 l3 m h; exact ml_none h
  | succ fu ih =>
    intro l0 l1 l2 l3 m h
    have hk5 := ih
    exact ml_iload_n dJ7_fill_031fb_5 2 rfl <| ml_iload_n dJ7_fill_031fb_6 3 rfl <| ml_icmp_ge dJ7_fill_031fb_7 h (fun _ h => ml_rv hr dJ7_fill_031fb_20 trivial h) (fun _ h => ml_aload_n dJ7_fill_031fb_10 0 rfl <| ml_iload_n dJ7_fill_031fb_11 2 rfl <| ml_iload_n dJ7_fill_031fb_12 1 rfl <| ml_ck_of h fun hi22 h => ml_bast dJ7_fill_031fb_13 hi22 <| ml_lt (m := m) rfl h fun m23 em24 h => ml_iinc (lv' := [(2, ml_i (l2 + (1 : Int32))), (0, ml_r l0), (1, ml_i l1), (3, ml_i l3)]) dJ7_fill_031fb_14 2 rfl (congrArg (l2 + ·) kc_i1) (hL ▸ (Nat.le_of_ble_eq_true rfl)) rfl <| ml_goto dJ7_fill_031fb_17 <| ml_V.sub [1, 2, 0, 3] rfl (hk5 _ _ _ _ _ h))
def fJ7_fill_031fb (l0 : Nat) (l1 : Int32) (m : ml_M) : Option ml_M :=
if (ml_K m l0).1 = 21 then
ml_let (Int32.ofNat (ml_K m l0).2) fun x26 =>
fJ7_fill_031fb_5 ml_fu l0 l1 (0 : Int32) x26 m
else none
theorem wJ7_fill_031fb_0 {E : ml_E} (hL : ml_eL E = 4) {rm : ml_M} (hr : ∀ (pc pc' : Nat) (lv : List (Nat × ml_X)), ml_d cJ7_fill_031fb pc .return_ 1 pc' → True → ml_V E "java/util/Arrays" cJ7_fill_031fb 2 false rm pc lv []) : ∀ (l0 : Nat) (l1 : Int32) (m : ml_M), fJ7_fill_031fb l0 l1 m = some rm → ml_V E "java/util/Arrays" cJ7_fill_031fb 2 false m 0 [(0, ml_r l0), (1, ml_i l1)] [] := by
  intro l0 l1 m h
  exact ml_iconst dJ7_fill_031fb_0 kc_i0 <| ml_istore_n (lv' := [(2, ml_i (0 : Int32)), (0, ml_r l0), (1, ml_i l1)]) dJ7_fill_031fb_1 (hL ▸ (Nat.le_of_ble_eq_true rfl)) rfl <| ml_aload_n dJ7_fill_031fb_2 1 rfl <| ml_ck_of h fun hc25 h => ml_alen dJ7_fill_031fb_3 (by decide) hc25 <| ml_lx (mk := ml_i) h fun x26 h => ml_istore_n (lv' := [(3, ml_i x26), (2, ml_i (0 : Int32)), (0, ml_r l0), (1, ml_i l1)]) dJ7_fill_031fb_4 (hL ▸ (Nat.le_of_ble_eq_true rfl)) rfl <| ml_V.sub [2, 3, 1, 0] rfl (vJ7_fill_031fb_5 hL hr  ml_fu _ _ _ _ _ h)
theorem sJ7_fill_031fb {l0 : Nat} {l1 : Int32} {m : ml_M} {rm : ml_M} (h : fJ7_fill_031fb l0 l1 m = some rm) : ml_Sn yJ7_fill_031fb cJ7_fill_031fb 4 none 2 [ml_r l0, ml_i l1] m none rm :=
  ml_Sn_of (P := True) (ini := false) (by decide +kernel) (Nat.le_of_ble_eq_true rfl) (fun h => by cases h) (fun _ => ml_RkV) fun E hL hr => wJ7_fill_031fb_0 hL hr _ _ _ h
theorem dJ7_fill_53178_0 : ml_d cJ7_fill_53178 0 (.iconst 0) 1 1 := ⟨by decide +kernel, rfl⟩
theorem dJ7_fill_53178_1 : ml_d cJ7_fill_53178 1 (.istore_n 2) 1 2 := ⟨by decide +kernel, rfl⟩
theorem dJ7_fill_53178_2 : ml_d cJ7_fill_53178 2 (.aload_n 0) 1 3 := ⟨by decide +kernel, rfl⟩
theorem dJ7_fill_53178_3 : ml_d cJ7_fill_53178 3 (.arraylength) 1 4 := ⟨by decide +kernel, rfl⟩
theorem dJ7_fill_53178_4 : ml_d cJ7_fill_53178 4 (.istore_n 3) 1 5 := ⟨by decide +kernel, rfl⟩
theorem dJ7_fill_53178_5 : ml_d cJ7_fill_53178 5 (.iload_n 2) 1 6 := ⟨by decide +kernel, rfl⟩
theorem dJ7_fill_53178_6 : ml_d cJ7_fill_53178 6 (.iload_n 3) 1 7 := ⟨by decide +kernel, rfl⟩
theorem dJ7_fill_53178_7 : ml_j cJ7_fill_53178 7 (.if_icmp .ge) 20 10 := ⟨13, by decide +kernel, by decide, rfl⟩
theorem dJ7_fill_53178_10 : ml_d cJ7_fill_53178 10 (.aload_n 0) 1 11 := ⟨by decide +kernel, rfl⟩
theorem dJ7_fill_53178_11 : ml_d cJ7_fill_53178 11 (.iload_n 2) 1 12 := ⟨by decide +kernel, rfl⟩
theorem dJ7_fill_53178_12 : ml_d cJ7_fill_53178 12 (.iload_n 1) 1 13 := ⟨by decide +kernel, rfl⟩
theorem dJ7_fill_53178_13 : ml_d cJ7_fill_53178 13 (.iastore) 1 14 := ⟨by decide +kernel, rfl⟩
theorem dJ7_fill_53178_14 : ml_d cJ7_fill_53178 14 (.iinc 2 1) 3 17 := ⟨by decide +kernel, rfl⟩
theorem dJ7_fill_53178_17 : ml_j cJ7_fill_53178 17 .goto 5 20 := ⟨(-12), by decide +kernel, by decide, rfl⟩
theorem dJ7_fill_53178_20 : ml_d cJ7_fill_53178 20 (.return_) 1 21 := ⟨by decide +kernel, rfl⟩
def fJ7_fill_53178_5 : Nat → Nat → Int32 → Int32 → Int32 → ml_M → Option ml_M
  | 0, _, _, _, _, _ => none
  | fu + 1, l0, l1, l2, l3, m =>
if l3 ≤ l2 then
some m
else
if ml_in m l0 20 l2 then
ml_let (ml_sI m l0 l2.toNatClampNeg l1) fun m28 =>
(fJ7_fill_53178_5 fu) l0 l1 (l2 + (1 : Int32)) l3 m28
else none
theorem vJ7_fill_53178_5 {E : ml_E} (hL : ml_eL E = 4) {rm : ml_M} (hr : ∀ (pc pc' : Nat) (lv : List (Nat × ml_X)), ml_d cJ7_fill_53178 pc .return_ 1 pc' → True → ml_V E "java/util/Arrays" cJ7_fill_53178 2 false rm pc lv []) : ∀ (fu : Nat) (l0 : Nat) (l1 : Int32) (l2 : Int32) (l3 : Int32) (m : ml_M), fJ7_fill_53178_5 fu l0 l1 l2 l3 m = some rm → ml_V E "java/util/Arrays" cJ7_fill_53178 2 false m 5 [(0, ml_r l0), (1, ml_i l1), (2, ml_i l2), (3, ml_i l3)] [] := by
  intro fu
  induction fu with
  | zero => intro l0 l1 l2 l3 m h; exact ml_none h
  | succ fu ih =>
    intro l0 l1 l2 l3 m h
    have hk5 := ih
    exact ml_iload_n dJ7_fill_53178_5 2 rfl <| ml_iload_n dJ7_fill_53178_6 3 rfl <| ml_icmp_ge dJ7_fill_53178_7 h (fun _ h => ml_rv hr dJ7_fill_53178_20 trivial h) (fun _ h => ml_aload_n dJ7_fill_53178_10 0 rfl <| ml_iload_n dJ7_fill_53178_11 2 rfl <| ml_iload_n dJ7_fill_53178_12 1 rfl <| ml_ck_of h fun hi27 h => ml_iast dJ7_fill_53178_13 hi27 <| ml_lt (m := m) rfl h fun m28 em29 h => ml_iinc (lv' := [(2, ml_i (l2 + (1 : Int32))), (0, ml_r l0), (1, ml_i l1), (3, ml_i l3)]) dJ7_fill_53178_14 2 rfl (congrArg (l2 + ·) kc_i1) (hL ▸ (Nat.le_of_ble_eq_true rfl)) rfl <| ml_goto dJ7_fill_53178_17 <| ml_V.sub [1, 2, 0, 3] rfl (hk5 _ _ _ _ _ h))
def fJ7_fill_53178 (l0 : Nat) (l1 : Int32) (m : ml_M) : Option ml_M :=
if (ml_K m l0).1 = 20 then
ml_let (Int32.ofNat (ml_K m l0).2) fun x31 =>
fJ7_fill_53178_5 ml_fu l0 l1 (0 : Int32) x31 m
else none
theorem wJ7_fill_53178_0 {E : ml_E} (hL : ml_eL E = 4) {rm : ml_M} (hr : ∀ (pc pc' : Nat) (lv : List (Nat × ml_X)), ml_d cJ7_fill_53178 pc .return_ 1 pc' → True → ml_V E "java/util/Arrays" cJ7_fill_53178 2 false rm pc lv []) : ∀ (l0 : Nat) (l1 : Int32) (m : ml_M), fJ7_fill_53178 l0 l1 m = some rm → ml_V E "java/util/Arrays" cJ7_fill_53178 2 false m 0 [(0, ml_r l0), (1, ml_i l1)] [] := by
  intro l0 l1 m h
  exact ml_iconst dJ7_fill_53178_0 kc_i0 <| ml_istore_n (lv' := [(2, ml_i (0 : Int32)), (0, ml_r l0), (1, ml_i l1)]) dJ7_fill_53178_1 (hL ▸ (Nat.le_of_ble_eq_true rfl)) rfl <| ml_aload_n dJ7_fill_53178_2 1 rfl <| ml_ck_of h fun hc30 h => ml_alen dJ7_fill_53178_3 (by decide) hc30 <| ml_lx (mk := ml_i) h fun x31 h => ml_istore_n (lv' := [(3, ml_i x31), (2, ml_i (0 : Int32)), (0, ml_r l0), (1, ml_i l1)]) dJ7_fill_53178_4 (hL ▸ (Nat.le_of_ble_eq_true rfl)) rfl <| ml_V.sub [2, 3, 1, 0] rfl (vJ7_fill_53178_5 hL hr  ml_fu _ _ _ _ _ h)
theorem sJ7_fill_53178 {l0 : Nat} {l1 : Int32} {m : ml_M} {rm : ml_M} (h : fJ7_fill_53178 l0 l1 m = some rm) : ml_Sn yJ7_fill_53178 cJ7_fill_53178 4 none 2 [ml_r l0, ml_i l1] m none rm :=
  ml_Sn_of (P := True) (ini := false) (by decide +kernel) (Nat.le_of_ble_eq_true rfl) (fun h => by cases h) (fun _ => ml_RkV) fun E hL hr => wJ7_fill_53178_0 hL hr _ _ _ h
theorem dJ9_abs_0f7a4_0 : ml_d cJ9_abs_0f7a4 0 (.iload_n 0) 1 1 := ⟨by decide +kernel, rfl⟩
theorem dJ9_abs_0f7a4_1 : ml_j cJ9_abs_0f7a4 1 (.ifCond .ge) 9 4 := ⟨8, by decide +kernel, by decide, rfl⟩
theorem dJ9_abs_0f7a4_4 : ml_d cJ9_abs_0f7a4 4 (.iload_n 0) 1 5 := ⟨by decide +kernel, rfl⟩
theorem dJ9_abs_0f7a4_5 : ml_d cJ9_abs_0f7a4 5 (.ineg) 1 6 := ⟨by decide +kernel, rfl⟩
theorem dJ9_abs_0f7a4_6 : ml_j cJ9_abs_0f7a4 6 .goto 10 9 := ⟨4, by decide +kernel, by decide, rfl⟩
theorem dJ9_abs_0f7a4_9 : ml_d cJ9_abs_0f7a4 9 (.iload_n 0) 1 10 := ⟨by decide +kernel, rfl⟩
theorem dJ9_abs_0f7a4_10 : ml_d cJ9_abs_0f7a4 10 (.ireturn) 1 11 := ⟨by decide +kernel, rfl⟩
def fJ9_abs_0f7a4 (l0 : Int32) (m : ml_M) : Option Int32 :=
if 0 ≤ l0 then
some l0
else
some (-l0)
theorem wJ9_abs_0f7a4_0 {E : ml_E} (hL : ml_eL E = 1) {rv : Int32} {m : ml_M} (hr : ∀ (pc pc' : Nat) (lv : List (Nat × ml_X)), ml_d cJ9_abs_0f7a4 pc .ireturn 1 pc' → True → ml_V E "java/lang/Math" cJ9_abs_0f7a4 2 false m pc lv [ml_i rv]) : ∀ (l0 : Int32), fJ9_abs_0f7a4 l0 m = some rv → ml_V E "java/lang/Math" cJ9_abs_0f7a4 2 false m 0 [(0, ml_i l0)] [] := by
  intro l0 h
  exact ml_iload_n dJ9_abs_0f7a4_0 0 rfl <| ml_if_ge dJ9_abs_0f7a4_1 h (fun _ h => ml_iload_n dJ9_abs_0f7a4_9 0 rfl <| ml_rp (mk := ml_i) hr dJ9_abs_0f7a4_10 (fun _ => trivial) h) (fun _ h => ml_iload_n dJ9_abs_0f7a4_4 0 rfl <| ml_ineg dJ9_abs_0f7a4_5 <| ml_goto dJ9_abs_0f7a4_6 <| ml_rp (mk := ml_i) hr dJ9_abs_0f7a4_10 (fun _ => trivial) h)
theorem sJ9_abs_0f7a4 {l0 : Int32} {m : ml_M} {rv : Int32} (h : fJ9_abs_0f7a4 l0 m = some rv) : ml_Sn yJ9_abs_0f7a4 cJ9_abs_0f7a4 1 (some .int) 2 [ml_i l0] m (some (ml_i rv)) m :=
  ml_Sn_of (P := True) (ini := false) (by decide +kernel) (Nat.le_of_ble_eq_true rfl) (fun h => by cases h) (fun _ => ml_RkI rv) fun E hL hr => wJ9_abs_0f7a4_0 hL hr _ h
theorem dJ9_max_7cf53_0 : ml_d cJ9_max_7cf53 0 (.iload_n 0) 1 1 := ⟨by decide +kernel, rfl⟩
theorem dJ9_max_7cf53_1 : ml_d cJ9_max_7cf53 1 (.iload_n 1) 1 2 := ⟨by decide +kernel, rfl⟩
theorem dJ9_max_7cf53_2 : ml_j cJ9_max_7cf53 2 (.if_icmp .lt) 9 5 := ⟨7, by decide +kernel, by decide, rfl⟩
theorem dJ9_max_7cf53_5 : ml_d cJ9_max_7cf53 5 (.iload_n 0) 1 6 := ⟨by decide +kernel, rfl⟩
theorem dJ9_max_7cf53_6 : ml_j cJ9_max_7cf53 6 .goto 10 9 := ⟨4, by decide +kernel, by decide, rfl⟩
theorem dJ9_max_7cf53_9 : ml_d cJ9_max_7cf53 9 (.iload_n 1) 1 10 := ⟨by decide +kernel, rfl⟩
theorem dJ9_max_7cf53_10 : ml_d cJ9_max_7cf53 10 (.ireturn) 1 11 := ⟨by decide +kernel, rfl⟩
def fJ9_max_7cf53 (l0 : Int32) (l1 : Int32) (m : ml_M) : Option Int32 :=
if l0 < l1 then
some l1
else
some l0
theorem wJ9_max_7cf53_0 {E : ml_E} (hL : ml_eL E = 2) {rv : Int32} {m : ml_M} (hr : ∀ (pc pc' : Nat) (lv : List (Nat × ml_X)), ml_d cJ9_max_7cf53 pc .ireturn 1 pc' → True → ml_V E "java/lang/Math" cJ9_max_7cf53 2 false m pc lv [ml_i rv]) : ∀ (l0 : Int32) (l1 : Int32), fJ9_max_7cf53 l0 l1 m = some rv → ml_V E "java/lang/Math" cJ9_max_7cf53 2 false m 0 [(0, ml_i l0), (1, ml_i l1)] [] := by
  intro l0 l1 h
  exact ml_iload_n dJ9_max_7cf53_0 0 rfl <| ml_iload_n dJ9_max_7cf53_1 1 rfl <| ml_icmp_lt dJ9_max_7cf53_2 h (fun _ h => ml_iload_n dJ9_max_7cf53_9 1 rfl <| ml_rp (mk := ml_i) hr dJ9_max_7cf53_10 (fun _ => trivial) h) (fun _ h => ml_iload_n dJ9_max_7cf53_5 0 rfl <| ml_goto dJ9_max_7cf53_6 <| ml_rp (mk := ml_i) hr dJ9_max_7cf53_10 (fun _ => trivial) h)
theorem sJ9_max_7cf53 {l0 : Int32} {l1 : Int32} {m : ml_M} {rv : Int32} (h : fJ9_max_7cf53 l0 l1 m = some rv) : ml_Sn yJ9_max_7cf53 cJ9_max_7cf53 2 (some .int) 2 [ml_i l0, ml_i l1] m (some (ml_i rv)) m :=
  ml_Sn_of (P := True) (ini := false) (by decide +kernel) (Nat.le_of_ble_eq_true rfl) (fun h => by cases h) (fun _ => ml_RkI rv) fun E hL hr => wJ9_max_7cf53_0 hL hr _ _ h
theorem dX1_init_0 : ml_d cX1_init 0 (.aload_n 0) 1 1 := ⟨by decide +kernel, rfl⟩
theorem dX1_init_1 : ml_d cX1_init 1 (.invokespecial 3) 3 4 := ⟨by decide +kernel, rfl⟩
theorem dX1_init_4 : ml_d cX1_init 4 (.aload_n 0) 1 5 := ⟨by decide +kernel, rfl⟩
theorem dX1_init_5 : ml_d cX1_init 5 (.bipush 8) 2 7 := ⟨by decide +kernel, rfl⟩
theorem dX1_init_7 : ml_d cX1_init 7 (.anewarray 9) 3 10 := ⟨by decide +kernel, rfl⟩
theorem dX1_init_10 : ml_d cX1_init 10 (.putfield 11) 3 13 := ⟨by decide +kernel, rfl⟩
theorem dX1_init_13 : ml_d cX1_init 13 (.aload_n 0) 1 14 := ⟨by decide +kernel, rfl⟩
theorem dX1_init_14 : ml_d cX1_init 14 (.bipush 8) 2 16 := ⟨by decide +kernel, rfl⟩
theorem dX1_init_16 : ml_d cX1_init 16 (.anewarray 17) 3 19 := ⟨by decide +kernel, rfl⟩
theorem dX1_init_19 : ml_d cX1_init 19 (.putfield 19) 3 22 := ⟨by decide +kernel, rfl⟩
theorem dX1_init_22 : ml_d cX1_init 22 (.aload_n 0) 1 23 := ⟨by decide +kernel, rfl⟩
theorem dX1_init_23 : ml_d cX1_init 23 (.bipush (-9)) 2 25 := ⟨by decide +kernel, rfl⟩
theorem dX1_init_25 : ml_d cX1_init 25 (.putfield 23) 3 28 := ⟨by decide +kernel, rfl⟩
theorem dX1_init_28 : ml_d cX1_init 28 (.aload_n 0) 1 29 := ⟨by decide +kernel, rfl⟩
theorem dX1_init_29 : ml_d cX1_init 29 (.aload_n 1) 1 30 := ⟨by decide +kernel, rfl⟩
theorem dX1_init_30 : ml_d cX1_init 30 (.putfield 27) 3 33 := ⟨by decide +kernel, rfl⟩
theorem dX1_init_33 : ml_d cX1_init 33 (.return_) 1 34 := ⟨by decide +kernel, rfl⟩
def fX1_init (l0 : Nat) (l1 : Nat) (m : ml_M) : Option ml_M :=
if l0 ≠ 0 then
ml_let (ml_n m + 1) fun a33 =>
ml_let (ml_al m 28 (8 : Int32).toNatClampNeg (8 : Int32).toNatClampNeg) fun m34 =>
if (ml_K m49 l0).1 = 1 then
ml_let (ml_sR m34 l0 0 a33) fun m38 =>
ml_let (ml_n m38 + 1) fun a40 =>
ml_let (ml_al m38 30 (8 : Int32).toNatClampNeg (8 : Int32).toNatClampNeg) fun m41 =>
if (ml_K m49 l0).1 = 1 then
ml_let (ml_sR m41 l0 1 a40) fun m45 =>
ml_let (ml_sI m45 l0 4 (-9 : Int32)) fun m47 =>
ml_let (ml_sR m47 l0 6 l1) fun m49 =>
some m49
else none
else none
else none
theorem wX1_init_0 {E : ml_E} (hL : ml_eL E = 2) {rm : ml_M} (hr : ∀ (pc pc' : Nat) (lv : List (Nat × ml_X)), ml_d cX1_init pc .return_ 1 pc' → True → ml_V E "LostRoom$Book" cX1_init 2 true rm pc lv []) : ∀ (l0 : Nat) (l1 : Nat) (m : ml_M), fX1_init l0 l1 m = some rm → ml_V E "LostRoom$Book" cX1_init 2 true m 0 [(0, ml_r l0), (1, ml_r l1)] [] := by
  intro l0 l1 m h
  exact ml_aload_n dX1_init_0 0 rfl <| ml_ck_of h fun hz32 h => ml_objInit dX1_init_1 wb_4 (Nat.le_of_ble_eq_true rfl) (Nat.le_of_ble_eq_true rfl) hz32 <| ml_aload_n dX1_init_4 0 rfl <| ml_bipush dX1_init_5 kc_b8 <| ml_newQs (c9 := "LostRoom$Lodger") (kd := 28) dX1_init_7 wb_5 (by decide) h fun a33 m34 hn35 hc36 h => ml_ck_of h fun hc37 h => ml_putR dX1_init_10 wb_6 hc37 <| ml_lt (m := m34) rfl h fun m38 em39 h => ml_aload_n dX1_init_13 0 rfl <| ml_bipush dX1_init_14 kc_b8 <| ml_newQs (c9 := "LostRoom$Trunk") (kd := 30) dX1_init_16 wb_7 (by decide) h fun a40 m41 hn42 hc43 h => ml_ck_of h fun hc44 h => ml_putR dX1_init_19 wb_8 hc44 <| ml_lt (m := m41) rfl h fun m45 em46 h => ml_aload_n dX1_init_22 0 rfl <| ml_bipush dX1_init_23 kc_bm9 <| ml_putI dX1_init_25 wb_9 (ml_kk em46 hc44) <| ml_lt (m := m45) rfl h fun m47 em48 h => ml_aload_n dX1_init_28 0 rfl <| ml_aload_n dX1_init_29 1 rfl <| ml_putR dX1_init_30 wb_10 (ml_kk em48 (ml_kk em46 hc44)) <| ml_lt (m := m47) rfl h fun m49 em50 h => ml_rv hr dX1_init_33 trivial h
theorem sX1_init {l0 : Nat} {l1 : Nat} {m : ml_M} {rm : ml_M} (h : fX1_init l0 l1 m = some rm) : ml_Sn yX1_init cX1_init 2 none 2 [ml_r l0, ml_r l1] m none rm :=
  ml_Sn_of (P := True) (ini := true) (by decide +kernel) (Nat.le_of_ble_eq_true rfl) (fun _ => rfl) (fun _ => ml_RkV) fun E hL hr => wX1_init_0 hL hr _ _ _ h
theorem dX7_init_0 : ml_d cX7_init 0 (.aload_n 0) 1 1 := ⟨by decide +kernel, rfl⟩
theorem dX7_init_1 : ml_d cX7_init 1 (.invokespecial 3) 3 4 := ⟨by decide +kernel, rfl⟩
theorem dX7_init_4 : ml_d cX7_init 4 (.aload_n 0) 1 5 := ⟨by decide +kernel, rfl⟩
theorem dX7_init_5 : ml_d cX7_init 5 (.iconst 1) 1 6 := ⟨by decide +kernel, rfl⟩
theorem dX7_init_6 : ml_d cX7_init 6 (.putfield 9) 3 9 := ⟨by decide +kernel, rfl⟩
theorem dX7_init_9 : ml_d cX7_init 9 (.aload_n 0) 1 10 := ⟨by decide +kernel, rfl⟩
theorem dX7_init_10 : ml_d cX7_init 10 (.bipush 8) 2 12 := ⟨by decide +kernel, rfl⟩
theorem dX7_init_12 : ml_d cX7_init 12 (.newarray .int) 2 14 := ⟨by decide +kernel, rfl⟩
theorem dX7_init_14 : ml_d cX7_init 14 (.putfield 15) 3 17 := ⟨by decide +kernel, rfl⟩
theorem dX7_init_17 : ml_d cX7_init 17 (.aload_n 0) 1 18 := ⟨by decide +kernel, rfl⟩
theorem dX7_init_18 : ml_d cX7_init 18 (.bipush 21) 2 20 := ⟨by decide +kernel, rfl⟩
theorem dX7_init_20 : ml_d cX7_init 20 (.newarray .int) 2 22 := ⟨by decide +kernel, rfl⟩
theorem dX7_init_22 : ml_d cX7_init 22 (.putfield 19) 3 25 := ⟨by decide +kernel, rfl⟩
theorem dX7_init_25 : ml_d cX7_init 25 (.aload_n 0) 1 26 := ⟨by decide +kernel, rfl⟩
theorem dX7_init_26 : ml_d cX7_init 26 (.sipush 1344) 3 29 := ⟨by decide +kernel, rfl⟩
theorem dX7_init_29 : ml_d cX7_init 29 (.newarray .int) 2 31 := ⟨by decide +kernel, rfl⟩
theorem dX7_init_31 : ml_d cX7_init 31 (.putfield 22) 3 34 := ⟨by decide +kernel, rfl⟩
theorem dX7_init_34 : ml_d cX7_init 34 (.aload_n 0) 1 35 := ⟨by decide +kernel, rfl⟩
theorem dX7_init_35 : ml_d cX7_init 35 (.bipush 64) 2 37 := ⟨by decide +kernel, rfl⟩
theorem dX7_init_37 : ml_d cX7_init 37 (.newarray .int) 2 39 := ⟨by decide +kernel, rfl⟩
theorem dX7_init_39 : ml_d cX7_init 39 (.putfield 25) 3 42 := ⟨by decide +kernel, rfl⟩
theorem dX7_init_42 : ml_d cX7_init 42 (.aload_n 0) 1 43 := ⟨by decide +kernel, rfl⟩
theorem dX7_init_43 : ml_d cX7_init 43 (.sipush 256) 3 46 := ⟨by decide +kernel, rfl⟩
theorem dX7_init_46 : ml_d cX7_init 46 (.newarray .boolean) 2 48 := ⟨by decide +kernel, rfl⟩
theorem dX7_init_48 : ml_d cX7_init 48 (.putfield 28) 3 51 := ⟨by decide +kernel, rfl⟩
theorem dX7_init_51 : ml_d cX7_init 51 (.aload_n 0) 1 52 := ⟨by decide +kernel, rfl⟩
theorem dX7_init_52 : ml_d cX7_init 52 (.bipush 8) 2 54 := ⟨by decide +kernel, rfl⟩
theorem dX7_init_54 : ml_d cX7_init 54 (.newarray .int) 2 56 := ⟨by decide +kernel, rfl⟩
theorem dX7_init_56 : ml_d cX7_init 56 (.putfield 32) 3 59 := ⟨by decide +kernel, rfl⟩
theorem dX7_init_59 : ml_d cX7_init 59 (.aload_n 0) 1 60 := ⟨by decide +kernel, rfl⟩
theorem dX7_init_60 : ml_d cX7_init 60 (.bipush 8) 2 62 := ⟨by decide +kernel, rfl⟩
theorem dX7_init_62 : ml_d cX7_init 62 (.newarray .int) 2 64 := ⟨by decide +kernel, rfl⟩
theorem dX7_init_64 : ml_d cX7_init 64 (.putfield 35) 3 67 := ⟨by decide +kernel, rfl⟩
theorem dX7_init_67 : ml_d cX7_init 67 (.aload_n 0) 1 68 := ⟨by decide +kernel, rfl⟩
theorem dX7_init_68 : ml_d cX7_init 68 (.bipush 8) 2 70 := ⟨by decide +kernel, rfl⟩
theorem dX7_init_70 : ml_d cX7_init 70 (.newarray .int) 2 72 := ⟨by decide +kernel, rfl⟩
theorem dX7_init_72 : ml_d cX7_init 72 (.putfield 38) 3 75 := ⟨by decide +kernel, rfl⟩
theorem dX7_init_75 : ml_d cX7_init 75 (.return_) 1 76 := ⟨by decide +kernel, rfl⟩
def fX7_init (l0 : Nat) (m : ml_M) : Option ml_M :=
if l0 ≠ 0 then
if (ml_K m109 l0).1 = 7 then
ml_let (ml_sI m l0 0 (1 : Int32)) fun m53 =>
ml_let (ml_n m53 + 1) fun a55 =>
ml_let (ml_al m53 20 (8 : Int32).toNatClampNeg (8 : Int32).toNatClampNeg) fun m56 =>
if (ml_K m109 l0).1 = 7 then
ml_let (ml_sR m56 l0 2 a55) fun m60 =>
ml_let (ml_n m60 + 1) fun a62 =>
ml_let (ml_al m60 20 (21 : Int32).toNatClampNeg (21 : Int32).toNatClampNeg) fun m63 =>
if (ml_K m109 l0).1 = 7 then
ml_let (ml_sR m63 l0 3 a62) fun m67 =>
ml_let (ml_n m67 + 1) fun a69 =>
ml_let (ml_al m67 20 (1344 : Int32).toNatClampNeg (1344 : Int32).toNatClampNeg) fun m70 =>
if (ml_K m109 l0).1 = 7 then
ml_let (ml_sR m70 l0 4 a69) fun m74 =>
ml_let (ml_n m74 + 1) fun a76 =>
ml_let (ml_al m74 20 (64 : Int32).toNatClampNeg (64 : Int32).toNatClampNeg) fun m77 =>
if (ml_K m109 l0).1 = 7 then
ml_let (ml_sR m77 l0 8 a76) fun m81 =>
ml_let (ml_n m81 + 1) fun a83 =>
ml_let (ml_al m81 22 (256 : Int32).toNatClampNeg (256 : Int32).toNatClampNeg) fun m84 =>
if (ml_K m109 l0).1 = 7 then
ml_let (ml_sR m84 l0 9 a83) fun m88 =>
ml_let (ml_n m88 + 1) fun a90 =>
ml_let (ml_al m88 20 (8 : Int32).toNatClampNeg (8 : Int32).toNatClampNeg) fun m91 =>
if (ml_K m109 l0).1 = 7 then
ml_let (ml_sR m91 l0 10 a90) fun m95 =>
ml_let (ml_n m95 + 1) fun a97 =>
ml_let (ml_al m95 20 (8 : Int32).toNatClampNeg (8 : Int32).toNatClampNeg) fun m98 =>
if (ml_K m109 l0).1 = 7 then
ml_let (ml_sR m98 l0 11 a97) fun m102 =>
ml_let (ml_n m102 + 1) fun a104 =>
ml_let (ml_al m102 20 (8 : Int32).toNatClampNeg (8 : Int32).toNatClampNeg) fun m105 =>
if (ml_K m109 l0).1 = 7 then
ml_let (ml_sR m105 l0 12 a104) fun m109 =>
some m109
else none
else none
else none
else none
else none
else none
else none
else none
else none
else none
theorem wX7_init_0 {E : ml_E} (hL : ml_eL E = 1) {rm : ml_M} (hr : ∀ (pc pc' : Nat) (lv : List (Nat × ml_X)), ml_d cX7_init pc .return_ 1 pc' → True → ml_V E "LostRoom$Sharings" cX7_init 2 true rm pc lv []) : ∀ (l0 : Nat) (m : ml_M), fX7_init l0 m = some rm → ml_V E "LostRoom$Sharings" cX7_init 2 true m 0 [(0, ml_r l0)] [] := by
  intro l0 m h
  exact ml_aload_n dX7_init_0 0 rfl <| ml_ck_of h fun hz51 h => ml_objInit dX7_init_1 wb_11 (Nat.le_of_ble_eq_true rfl) (Nat.le_of_ble_eq_true rfl) hz51 <| ml_aload_n dX7_init_4 0 rfl <| ml_iconst dX7_init_5 kc_i1 <| ml_ck_of h fun hc52 h => ml_putZ dX7_init_6 wb_12 hc52 (Or.inr rfl) <| ml_lt (m := m) rfl h fun m53 em54 h => ml_aload_n dX7_init_9 0 rfl <| ml_bipush dX7_init_10 kc_b8 <| ml_newAs (kd := 20) dX7_init_12 wb_0 (by decide) h fun a55 m56 hn57 hc58 h => ml_ck_of h fun hc59 h => ml_putR dX7_init_14 wb_13 hc59 <| ml_lt (m := m56) rfl h fun m60 em61 h => ml_aload_n dX7_init_17 0 rfl <| ml_bipush dX7_init_18 kc_b21 <| ml_newAs (kd := 20) dX7_init_20 wb_0 (by decide) h fun a62 m63 hn64 hc65 h => ml_ck_of h fun hc66 h => ml_putR dX7_init_22 wb_14 hc66 <| ml_lt (m := m63) rfl h fun m67 em68 h => ml_aload_n dX7_init_25 0 rfl <| ml_sipush dX7_init_26 kc_s1344 <| ml_newAs (kd := 20) dX7_init_29 wb_0 (by decide) h fun a69 m70 hn71 hc72 h => ml_ck_of h fun hc73 h => ml_putR dX7_init_31 wb_15 hc73 <| ml_lt (m := m70) rfl h fun m74 em75 h => ml_aload_n dX7_init_34 0 rfl <| ml_bipush dX7_init_35 kc_b64 <| ml_newAs (kd := 20) dX7_init_37 wb_0 (by decide) h fun a76 m77 hn78 hc79 h => ml_ck_of h fun hc80 h => ml_putR dX7_init_39 wb_16 hc80 <| ml_lt (m := m77) rfl h fun m81 em82 h => ml_aload_n dX7_init_42 0 rfl <| ml_sipush dX7_init_43 kc_s256 <| ml_newAs (kd := 22) dX7_init_46 wb_17 (by decide) h fun a83 m84 hn85 hc86 h => ml_ck_of h fun hc87 h => ml_putR dX7_init_48 wb_18 hc87 <| ml_lt (m := m84) rfl h fun m88 em89 h => ml_aload_n dX7_init_51 0 rfl <| ml_bipush dX7_init_52 kc_b8 <| ml_newAs (kd := 20) dX7_init_54 wb_0 (by decide) h fun a90 m91 hn92 hc93 h => ml_ck_of h fun hc94 h => ml_putR dX7_init_56 wb_19 hc94 <| ml_lt (m := m91) rfl h fun m95 em96 h => ml_aload_n dX7_init_59 0 rfl <| ml_bipush dX7_init_60 kc_b8 <| ml_newAs (kd := 20) dX7_init_62 wb_0 (by decide) h fun a97 m98 hn99 hc100 h => ml_ck_of h fun hc101 h => ml_putR dX7_init_64 wb_20 hc101 <| ml_lt (m := m98) rfl h fun m102 em103 h => ml_aload_n dX7_init_67 0 rfl <| ml_bipush dX7_init_68 kc_b8 <| ml_newAs (kd := 20) dX7_init_70 wb_0 (by decide) h fun a104 m105 hn106 hc107 h => ml_ck_of h fun hc108 h => ml_putR dX7_init_72 wb_21 hc108 <| ml_lt (m := m105) rfl h fun m109 em110 h => ml_rv hr dX7_init_75 trivial h
theorem sX7_init {l0 : Nat} {m : ml_M} {rm : ml_M} (h : fX7_init l0 m = some rm) : ml_Sn yX7_init cX7_init 1 none 2 [ml_r l0] m none rm :=
  ml_Sn_of (P := True) (ini := true) (by decide +kernel) (Nat.le_of_ble_eq_true rfl) (fun _ => rfl) (fun _ => ml_RkV) fun E hL hr => wX7_init_0 hL hr _ _ h
theorem dX4_init_0 : ml_d cX4_init 0 (.aload_n 0) 1 1 := ⟨by decide +kernel, rfl⟩
theorem dX4_init_1 : ml_d cX4_init 1 (.invokespecial 3) 3 4 := ⟨by decide +kernel, rfl⟩
theorem dX4_init_4 : ml_d cX4_init 4 (.aload_n 0) 1 5 := ⟨by decide +kernel, rfl⟩
theorem dX4_init_5 : ml_d cX4_init 5 (.iconst 1) 1 6 := ⟨by decide +kernel, rfl⟩
theorem dX4_init_6 : ml_d cX4_init 6 (.putfield 9) 3 9 := ⟨by decide +kernel, rfl⟩
theorem dX4_init_9 : ml_d cX4_init 9 (.aload_n 0) 1 10 := ⟨by decide +kernel, rfl⟩
theorem dX4_init_10 : ml_d cX4_init 10 (.bipush 10) 2 12 := ⟨by decide +kernel, rfl⟩
theorem dX4_init_12 : ml_d cX4_init 12 (.newarray .int) 2 14 := ⟨by decide +kernel, rfl⟩
theorem dX4_init_14 : ml_d cX4_init 14 (.putfield 15) 3 17 := ⟨by decide +kernel, rfl⟩
theorem dX4_init_17 : ml_d cX4_init 17 (.aload_n 0) 1 18 := ⟨by decide +kernel, rfl⟩
theorem dX4_init_18 : ml_d cX4_init 18 (.bipush 10) 2 20 := ⟨by decide +kernel, rfl⟩
theorem dX4_init_20 : ml_d cX4_init 20 (.newarray .int) 2 22 := ⟨by decide +kernel, rfl⟩
theorem dX4_init_22 : ml_d cX4_init 22 (.putfield 19) 3 25 := ⟨by decide +kernel, rfl⟩
theorem dX4_init_25 : ml_d cX4_init 25 (.aload_n 0) 1 26 := ⟨by decide +kernel, rfl⟩
theorem dX4_init_26 : ml_d cX4_init 26 (.sipush 10240) 3 29 := ⟨by decide +kernel, rfl⟩
theorem dX4_init_29 : ml_d cX4_init 29 (.newarray .int) 2 31 := ⟨by decide +kernel, rfl⟩
theorem dX4_init_31 : ml_d cX4_init 31 (.putfield 22) 3 34 := ⟨by decide +kernel, rfl⟩
theorem dX4_init_34 : ml_d cX4_init 34 (.aload_n 0) 1 35 := ⟨by decide +kernel, rfl⟩
theorem dX4_init_35 : ml_d cX4_init 35 (.sipush 10240) 3 38 := ⟨by decide +kernel, rfl⟩
theorem dX4_init_38 : ml_d cX4_init 38 (.newarray .int) 2 40 := ⟨by decide +kernel, rfl⟩
theorem dX4_init_40 : ml_d cX4_init 40 (.putfield 25) 3 43 := ⟨by decide +kernel, rfl⟩
theorem dX4_init_43 : ml_d cX4_init 43 (.return_) 1 44 := ⟨by decide +kernel, rfl⟩
def fX4_init (l0 : Nat) (m : ml_M) : Option ml_M :=
if l0 ≠ 0 then
if (ml_K m141 l0).1 = 4 then
ml_let (ml_sI m l0 0 (1 : Int32)) fun m113 =>
ml_let (ml_n m113 + 1) fun a115 =>
ml_let (ml_al m113 20 (10 : Int32).toNatClampNeg (10 : Int32).toNatClampNeg) fun m116 =>
if (ml_K m141 l0).1 = 4 then
ml_let (ml_sR m116 l0 3 a115) fun m120 =>
ml_let (ml_n m120 + 1) fun a122 =>
ml_let (ml_al m120 20 (10 : Int32).toNatClampNeg (10 : Int32).toNatClampNeg) fun m123 =>
if (ml_K m141 l0).1 = 4 then
ml_let (ml_sR m123 l0 5 a122) fun m127 =>
ml_let (ml_n m127 + 1) fun a129 =>
ml_let (ml_al m127 20 (10240 : Int32).toNatClampNeg (10240 : Int32).toNatClampNeg) fun m130 =>
if (ml_K m141 l0).1 = 4 then
ml_let (ml_sR m130 l0 6 a129) fun m134 =>
ml_let (ml_n m134 + 1) fun a136 =>
ml_let (ml_al m134 20 (10240 : Int32).toNatClampNeg (10240 : Int32).toNatClampNeg) fun m137 =>
if (ml_K m141 l0).1 = 4 then
ml_let (ml_sR m137 l0 7 a136) fun m141 =>
some m141
else none
else none
else none
else none
else none
else none
theorem wX4_init_0 {E : ml_E} (hL : ml_eL E = 1) {rm : ml_M} (hr : ∀ (pc pc' : Nat) (lv : List (Nat × ml_X)), ml_d cX4_init pc .return_ 1 pc' → True → ml_V E "LostRoom$Lays" cX4_init 2 true rm pc lv []) : ∀ (l0 : Nat) (m : ml_M), fX4_init l0 m = some rm → ml_V E "LostRoom$Lays" cX4_init 2 true m 0 [(0, ml_r l0)] [] := by
  intro l0 m h
  exact ml_aload_n dX4_init_0 0 rfl <| ml_ck_of h fun hz111 h => ml_objInit dX4_init_1 wb_22 (Nat.le_of_ble_eq_true rfl) (Nat.le_of_ble_eq_true rfl) hz111 <| ml_aload_n dX4_init_4 0 rfl <| ml_iconst dX4_init_5 kc_i1 <| ml_ck_of h fun hc112 h => ml_putZ dX4_init_6 wb_23 hc112 (Or.inr rfl) <| ml_lt (m := m) rfl h fun m113 em114 h => ml_aload_n dX4_init_9 0 rfl <| ml_bipush dX4_init_10 kc_b10 <| ml_newAs (kd := 20) dX4_init_12 wb_0 (by decide) h fun a115 m116 hn117 hc118 h => ml_ck_of h fun hc119 h => ml_putR dX4_init_14 wb_24 hc119 <| ml_lt (m := m116) rfl h fun m120 em121 h => ml_aload_n dX4_init_17 0 rfl <| ml_bipush dX4_init_18 kc_b10 <| ml_newAs (kd := 20) dX4_init_20 wb_0 (by decide) h fun a122 m123 hn124 hc125 h => ml_ck_of h fun hc126 h => ml_putR dX4_init_22 wb_25 hc126 <| ml_lt (m := m123) rfl h fun m127 em128 h => ml_aload_n dX4_init_25 0 rfl <| ml_sipush dX4_init_26 kc_s10240 <| ml_newAs (kd := 20) dX4_init_29 wb_0 (by decide) h fun a129 m130 hn131 hc132 h => ml_ck_of h fun hc133 h => ml_putR dX4_init_31 wb_26 hc133 <| ml_lt (m := m130) rfl h fun m134 em135 h => ml_aload_n dX4_init_34 0 rfl <| ml_sipush dX4_init_35 kc_s10240 <| ml_newAs (kd := 20) dX4_init_38 wb_0 (by decide) h fun a136 m137 hn138 hc139 h => ml_ck_of h fun hc140 h => ml_putR dX4_init_40 wb_27 hc140 <| ml_lt (m := m137) rfl h fun m141 em142 h => ml_rv hr dX4_init_43 trivial h
theorem sX4_init {l0 : Nat} {m : ml_M} {rm : ml_M} (h : fX4_init l0 m = some rm) : ml_Sn yX4_init cX4_init 1 none 2 [ml_r l0] m none rm :=
  ml_Sn_of (P := True) (ini := true) (by decide +kernel) (Nat.le_of_ble_eq_true rfl) (fun _ => rfl) (fun _ => ml_RkV) fun E hL hr => wX4_init_0 hL hr _ _ h
theorem dX3_init_0 : ml_d cX3_init 0 (.aload_n 0) 1 1 := ⟨by decide +kernel, rfl⟩
theorem dX3_init_1 : ml_d cX3_init 1 (.invokespecial 3) 3 4 := ⟨by decide +kernel, rfl⟩
theorem dX3_init_4 : ml_d cX3_init 4 (.aload_n 0) 1 5 := ⟨by decide +kernel, rfl⟩
theorem dX3_init_5 : ml_d cX3_init 5 (.bipush 10) 2 7 := ⟨by decide +kernel, rfl⟩
theorem dX3_init_7 : ml_d cX3_init 7 (.anewarray 9) 3 10 := ⟨by decide +kernel, rfl⟩
theorem dX3_init_10 : ml_d cX3_init 10 (.putfield 11) 3 13 := ⟨by decide +kernel, rfl⟩
theorem dX3_init_13 : ml_d cX3_init 13 (.aload_n 0) 1 14 := ⟨by decide +kernel, rfl⟩
theorem dX3_init_14 : ml_d cX3_init 14 (.bipush 10) 2 16 := ⟨by decide +kernel, rfl⟩
theorem dX3_init_16 : ml_d cX3_init 16 (.newarray .int) 2 18 := ⟨by decide +kernel, rfl⟩
theorem dX3_init_18 : ml_d cX3_init 18 (.putfield 17) 3 21 := ⟨by decide +kernel, rfl⟩
theorem dX3_init_21 : ml_d cX3_init 21 (.aload_n 0) 1 22 := ⟨by decide +kernel, rfl⟩
theorem dX3_init_22 : ml_d cX3_init 22 (.sipush 1024) 3 25 := ⟨by decide +kernel, rfl⟩
theorem dX3_init_25 : ml_d cX3_init 25 (.newarray .int) 2 27 := ⟨by decide +kernel, rfl⟩
theorem dX3_init_27 : ml_d cX3_init 27 (.putfield 21) 3 30 := ⟨by decide +kernel, rfl⟩
theorem dX3_init_30 : ml_d cX3_init 30 (.aload_n 0) 1 31 := ⟨by decide +kernel, rfl⟩
theorem dX3_init_31 : ml_d cX3_init 31 (.sipush 1024) 3 34 := ⟨by decide +kernel, rfl⟩
theorem dX3_init_34 : ml_d cX3_init 34 (.newarray .int) 2 36 := ⟨by decide +kernel, rfl⟩
theorem dX3_init_36 : ml_d cX3_init 36 (.putfield 24) 3 39 := ⟨by decide +kernel, rfl⟩
theorem dX3_init_39 : ml_d cX3_init 39 (.aload_n 0) 1 40 := ⟨by decide +kernel, rfl⟩
theorem dX3_init_40 : ml_d cX3_init 40 (.sipush 1024) 3 43 := ⟨by decide +kernel, rfl⟩
theorem dX3_init_43 : ml_d cX3_init 43 (.newarray .int) 2 45 := ⟨by decide +kernel, rfl⟩
theorem dX3_init_45 : ml_d cX3_init 45 (.putfield 27) 3 48 := ⟨by decide +kernel, rfl⟩
theorem dX3_init_48 : ml_d cX3_init 48 (.return_) 1 49 := ⟨by decide +kernel, rfl⟩
def fX3_init (l0 : Nat) (m : ml_M) : Option ml_M :=
if l0 ≠ 0 then
ml_let (ml_n m + 1) fun a144 =>
ml_let (ml_al m 29 (10 : Int32).toNatClampNeg (10 : Int32).toNatClampNeg) fun m145 =>
if (ml_K m177 l0).1 = 3 then
ml_let (ml_sR m145 l0 0 a144) fun m149 =>
ml_let (ml_n m149 + 1) fun a151 =>
ml_let (ml_al m149 20 (10 : Int32).toNatClampNeg (10 : Int32).toNatClampNeg) fun m152 =>
if (ml_K m177 l0).1 = 3 then
ml_let (ml_sR m152 l0 2 a151) fun m156 =>
ml_let (ml_n m156 + 1) fun a158 =>
ml_let (ml_al m156 20 (1024 : Int32).toNatClampNeg (1024 : Int32).toNatClampNeg) fun m159 =>
if (ml_K m177 l0).1 = 3 then
ml_let (ml_sR m159 l0 3 a158) fun m163 =>
ml_let (ml_n m163 + 1) fun a165 =>
ml_let (ml_al m163 20 (1024 : Int32).toNatClampNeg (1024 : Int32).toNatClampNeg) fun m166 =>
if (ml_K m177 l0).1 = 3 then
ml_let (ml_sR m166 l0 4 a165) fun m170 =>
ml_let (ml_n m170 + 1) fun a172 =>
ml_let (ml_al m170 20 (1024 : Int32).toNatClampNeg (1024 : Int32).toNatClampNeg) fun m173 =>
if (ml_K m177 l0).1 = 3 then
ml_let (ml_sR m173 l0 5 a172) fun m177 =>
some m177
else none
else none
else none
else none
else none
else none
theorem wX3_init_0 {E : ml_E} (hL : ml_eL E = 1) {rm : ml_M} (hr : ∀ (pc pc' : Nat) (lv : List (Nat × ml_X)), ml_d cX3_init pc .return_ 1 pc' → True → ml_V E "LostRoom$Journeys" cX3_init 2 true rm pc lv []) : ∀ (l0 : Nat) (m : ml_M), fX3_init l0 m = some rm → ml_V E "LostRoom$Journeys" cX3_init 2 true m 0 [(0, ml_r l0)] [] := by
  intro l0 m h
  exact ml_aload_n dX3_init_0 0 rfl <| ml_ck_of h fun hz143 h => ml_objInit dX3_init_1 wb_28 (Nat.le_of_ble_eq_true rfl) (Nat.le_of_ble_eq_true rfl) hz143 <| ml_aload_n dX3_init_4 0 rfl <| ml_bipush dX3_init_5 kc_b10 <| ml_newQs (c9 := "LostRoom$Thing") (kd := 29) dX3_init_7 wb_29 (by decide) h fun a144 m145 hn146 hc147 h => ml_ck_of h fun hc148 h => ml_putR dX3_init_10 wb_30 hc148 <| ml_lt (m := m145) rfl h fun m149 em150 h => ml_aload_n dX3_init_13 0 rfl <| ml_bipush dX3_init_14 kc_b10 <| ml_newAs (kd := 20) dX3_init_16 wb_0 (by decide) h fun a151 m152 hn153 hc154 h => ml_ck_of h fun hc155 h => ml_putR dX3_init_18 wb_31 hc155 <| ml_lt (m := m152) rfl h fun m156 em157 h => ml_aload_n dX3_init_21 0 rfl <| ml_sipush dX3_init_22 kc_s1024 <| ml_newAs (kd := 20) dX3_init_25 wb_0 (by decide) h fun a158 m159 hn160 hc161 h => ml_ck_of h fun hc162 h => ml_putR dX3_init_27 wb_32 hc162 <| ml_lt (m := m159) rfl h fun m163 em164 h => ml_aload_n dX3_init_30 0 rfl <| ml_sipush dX3_init_31 kc_s1024 <| ml_newAs (kd := 20) dX3_init_34 wb_0 (by decide) h fun a165 m166 hn167 hc168 h => ml_ck_of h fun hc169 h => ml_putR dX3_init_36 wb_33 hc169 <| ml_lt (m := m166) rfl h fun m170 em171 h => ml_aload_n dX3_init_39 0 rfl <| ml_sipush dX3_init_40 kc_s1024 <| ml_newAs (kd := 20) dX3_init_43 wb_0 (by decide) h fun a172 m173 hn174 hc175 h => ml_ck_of h fun hc176 h => ml_putR dX3_init_45 wb_34 hc176 <| ml_lt (m := m173) rfl h fun m177 em178 h => ml_rv hr dX3_init_48 trivial h
theorem sX3_init {l0 : Nat} {m : ml_M} {rm : ml_M} (h : fX3_init l0 m = some rm) : ml_Sn yX3_init cX3_init 1 none 2 [ml_r l0] m none rm :=
  ml_Sn_of (P := True) (ini := true) (by decide +kernel) (Nat.le_of_ble_eq_true rfl) (fun _ => rfl) (fun _ => ml_RkV) fun E hL hr => wX3_init_0 hL hr _ _ h
theorem dX10_init_0 : ml_d cX10_init 0 (.aload_n 0) 1 1 := ⟨by decide +kernel, rfl⟩
theorem dX10_init_1 : ml_d cX10_init 1 (.invokespecial 1) 3 4 := ⟨by decide +kernel, rfl⟩
theorem dX10_init_4 : ml_d cX10_init 4 (.aload_n 0) 1 5 := ⟨by decide +kernel, rfl⟩
theorem dX10_init_5 : ml_d cX10_init 5 (.bipush 6) 2 7 := ⟨by decide +kernel, rfl⟩
theorem dX10_init_7 : ml_d cX10_init 7 (.anewarray 9) 3 10 := ⟨by decide +kernel, rfl⟩
theorem dX10_init_10 : ml_d cX10_init 10 (.putfield 11) 3 13 := ⟨by decide +kernel, rfl⟩
theorem dX10_init_13 : ml_d cX10_init 13 (.aload_n 0) 1 14 := ⟨by decide +kernel, rfl⟩
theorem dX10_init_14 : ml_d cX10_init 14 (.iconst 4) 1 15 := ⟨by decide +kernel, rfl⟩
theorem dX10_init_15 : ml_d cX10_init 15 (.anewarray 15) 3 18 := ⟨by decide +kernel, rfl⟩
theorem dX10_init_18 : ml_d cX10_init 18 (.putfield 17) 3 21 := ⟨by decide +kernel, rfl⟩
theorem dX10_init_21 : ml_d cX10_init 21 (.aload_n 0) 1 22 := ⟨by decide +kernel, rfl⟩
theorem dX10_init_22 : ml_d cX10_init 22 (.new 21) 3 25 := ⟨by decide +kernel, rfl⟩
theorem dX10_init_25 : ml_d cX10_init 25 (.dup) 1 26 := ⟨by decide +kernel, rfl⟩
theorem dX10_init_26 : ml_d cX10_init 26 (.iconst 0) 1 27 := ⟨by decide +kernel, rfl⟩
theorem dX10_init_27 : ml_d cX10_init 27 (.newarray .byte) 2 29 := ⟨by decide +kernel, rfl⟩
theorem dX10_init_29 : ml_d cX10_init 29 (.invokespecial 23) 3 32 := ⟨by decide +kernel, rfl⟩
theorem dX10_init_32 : ml_d cX10_init 32 (.putfield 26) 3 35 := ⟨by decide +kernel, rfl⟩
theorem dX10_init_35 : ml_d cX10_init 35 (.aload_n 0) 1 36 := ⟨by decide +kernel, rfl⟩
theorem dX10_init_36 : ml_d cX10_init 36 (.iconst 1) 1 37 := ⟨by decide +kernel, rfl⟩
theorem dX10_init_37 : ml_d cX10_init 37 (.putfield 30) 3 40 := ⟨by decide +kernel, rfl⟩
theorem dX10_init_40 : ml_d cX10_init 40 (.aload_n 0) 1 41 := ⟨by decide +kernel, rfl⟩
theorem dX10_init_41 : ml_d cX10_init 41 (.bipush 20) 2 43 := ⟨by decide +kernel, rfl⟩
theorem dX10_init_43 : ml_d cX10_init 43 (.anewarray 34) 3 46 := ⟨by decide +kernel, rfl⟩
theorem dX10_init_46 : ml_d cX10_init 46 (.putfield 36) 3 49 := ⟨by decide +kernel, rfl⟩
theorem dX10_init_49 : ml_d cX10_init 49 (.aload_n 0) 1 50 := ⟨by decide +kernel, rfl⟩
theorem dX10_init_50 : ml_d cX10_init 50 (.bipush 8) 2 52 := ⟨by decide +kernel, rfl⟩
theorem dX10_init_52 : ml_d cX10_init 52 (.anewarray 40) 3 55 := ⟨by decide +kernel, rfl⟩
theorem dX10_init_55 : ml_d cX10_init 55 (.putfield 42) 3 58 := ⟨by decide +kernel, rfl⟩
theorem dX10_init_58 : ml_d cX10_init 58 (.aload_n 0) 1 59 := ⟨by decide +kernel, rfl⟩
theorem dX10_init_59 : ml_d cX10_init 59 (.bipush 10) 2 61 := ⟨by decide +kernel, rfl⟩
theorem dX10_init_61 : ml_d cX10_init 61 (.anewarray 46) 3 64 := ⟨by decide +kernel, rfl⟩
theorem dX10_init_64 : ml_d cX10_init 64 (.putfield 48) 3 67 := ⟨by decide +kernel, rfl⟩
theorem dX10_init_67 : ml_d cX10_init 67 (.aload_n 0) 1 68 := ⟨by decide +kernel, rfl⟩
theorem dX10_init_68 : ml_d cX10_init 68 (.bipush 8) 2 70 := ⟨by decide +kernel, rfl⟩
theorem dX10_init_70 : ml_d cX10_init 70 (.anewarray 52) 3 73 := ⟨by decide +kernel, rfl⟩
theorem dX10_init_73 : ml_d cX10_init 73 (.putfield 54) 3 76 := ⟨by decide +kernel, rfl⟩
theorem dX10_init_76 : ml_d cX10_init 76 (.aload_n 0) 1 77 := ⟨by decide +kernel, rfl⟩
theorem dX10_init_77 : ml_d cX10_init 77 (.new 58) 3 80 := ⟨by decide +kernel, rfl⟩
theorem dX10_init_80 : ml_d cX10_init 80 (.dup) 1 81 := ⟨by decide +kernel, rfl⟩
theorem dX10_init_81 : ml_d cX10_init 81 (.invokespecial 60) 3 84 := ⟨by decide +kernel, rfl⟩
theorem dX10_init_84 : ml_d cX10_init 84 (.putfield 61) 3 87 := ⟨by decide +kernel, rfl⟩
theorem dX10_init_87 : ml_d cX10_init 87 (.aload_n 0) 1 88 := ⟨by decide +kernel, rfl⟩
theorem dX10_init_88 : ml_d cX10_init 88 (.new 65) 3 91 := ⟨by decide +kernel, rfl⟩
theorem dX10_init_91 : ml_d cX10_init 91 (.dup) 1 92 := ⟨by decide +kernel, rfl⟩
theorem dX10_init_92 : ml_d cX10_init 92 (.invokespecial 67) 3 95 := ⟨by decide +kernel, rfl⟩
theorem dX10_init_95 : ml_d cX10_init 95 (.putfield 68) 3 98 := ⟨by decide +kernel, rfl⟩
theorem dX10_init_98 : ml_d cX10_init 98 (.aload_n 0) 1 99 := ⟨by decide +kernel, rfl⟩
theorem dX10_init_99 : ml_d cX10_init 99 (.new 72) 3 102 := ⟨by decide +kernel, rfl⟩
theorem dX10_init_102 : ml_d cX10_init 102 (.dup) 1 103 := ⟨by decide +kernel, rfl⟩
theorem dX10_init_103 : ml_d cX10_init 103 (.invokespecial 74) 3 106 := ⟨by decide +kernel, rfl⟩
theorem dX10_init_106 : ml_d cX10_init 106 (.putfield 75) 3 109 := ⟨by decide +kernel, rfl⟩
theorem dX10_init_109 : ml_d cX10_init 109 (.aload_n 0) 1 110 := ⟨by decide +kernel, rfl⟩
theorem dX10_init_110 : ml_d cX10_init 110 (.bipush 6) 2 112 := ⟨by decide +kernel, rfl⟩
theorem dX10_init_112 : ml_d cX10_init 112 (.newarray .int) 2 114 := ⟨by decide +kernel, rfl⟩
theorem dX10_init_114 : ml_d cX10_init 114 (.putfield 79) 3 117 := ⟨by decide +kernel, rfl⟩
theorem dX10_init_117 : ml_d cX10_init 117 (.return_) 1 118 := ⟨by decide +kernel, rfl⟩
def fX10_init (l0 : Nat) (m : ml_M) : Option ml_M :=
if l0 ≠ 0 then
ml_let (ml_n m + 1) fun a180 =>
ml_let (ml_al m 23 (6 : Int32).toNatClampNeg (6 : Int32).toNatClampNeg) fun m181 =>
if (ml_K m269 l0).1 = 10 then
ml_let (ml_sR m181 l0 0 a180) fun m185 =>
ml_let (ml_n m185 + 1) fun a187 =>
ml_let (ml_al m185 24 (4 : Int32).toNatClampNeg (4 : Int32).toNatClampNeg) fun m188 =>
if (ml_K m269 l0).1 = 10 then
ml_let (ml_sR m188 l0 1 a187) fun m192 =>
ml_let (ml_n m192 + 1) fun a194 =>
ml_let (ml_al m192 1 0 8) fun m195 =>
ml_let (ml_n m195 + 1) fun a198 =>
ml_let (ml_al m195 21 (0 : Int32).toNatClampNeg (0 : Int32).toNatClampNeg) fun m199 =>
ml_b1 (fX1_init a194 a198 m199) fun m203 =>
if (ml_K m269 l0).1 = 10 then
ml_let (ml_sR m203 l0 2 a194) fun m205 =>
ml_let (ml_sI m205 l0 3 (1 : Int32)) fun m207 =>
ml_let (ml_n m207 + 1) fun a209 =>
ml_let (ml_al m207 29 (20 : Int32).toNatClampNeg (20 : Int32).toNatClampNeg) fun m210 =>
if (ml_K m269 l0).1 = 10 then
ml_let (ml_sR m210 l0 4 a209) fun m214 =>
ml_let (ml_n m214 + 1) fun a216 =>
ml_let (ml_al m214 27 (8 : Int32).toNatClampNeg (8 : Int32).toNatClampNeg) fun m217 =>
if (ml_K m269 l0).1 = 10 then
ml_let (ml_sR m217 l0 6 a216) fun m221 =>
ml_let (ml_n m221 + 1) fun a223 =>
ml_let (ml_al m221 25 (10 : Int32).toNatClampNeg (10 : Int32).toNatClampNeg) fun m224 =>
if (ml_K m269 l0).1 = 10 then
ml_let (ml_sR m224 l0 8 a223) fun m228 =>
ml_let (ml_n m228 + 1) fun a230 =>
ml_let (ml_al m228 26 (8 : Int32).toNatClampNeg (8 : Int32).toNatClampNeg) fun m231 =>
if (ml_K m269 l0).1 = 10 then
ml_let (ml_sR m231 l0 10 a230) fun m235 =>
ml_let (ml_n m235 + 1) fun a237 =>
ml_let (ml_al m235 7 0 13) fun m238 =>
ml_b1 (fX7_init a237 m238) fun m242 =>
if (ml_K m269 l0).1 = 10 then
ml_let (ml_sR m242 l0 12 a237) fun m244 =>
ml_let (ml_n m244 + 1) fun a246 =>
ml_let (ml_al m244 4 0 8) fun m247 =>
ml_b1 (fX4_init a246 m247) fun m251 =>
if (ml_K m269 l0).1 = 10 then
ml_let (ml_sR m251 l0 13 a246) fun m253 =>
ml_let (ml_n m253 + 1) fun a255 =>
ml_let (ml_al m253 3 0 6) fun m256 =>
ml_b1 (fX3_init a255 m256) fun m260 =>
if (ml_K m269 l0).1 = 10 then
ml_let (ml_sR m260 l0 14 a255) fun m262 =>
ml_let (ml_n m262 + 1) fun a264 =>
ml_let (ml_al m262 20 (6 : Int32).toNatClampNeg (6 : Int32).toNatClampNeg) fun m265 =>
if (ml_K m269 l0).1 = 10 then
ml_let (ml_sR m265 l0 18 a264) fun m269 =>
some m269
else none
else none
else none
else none
else none
else none
else none
else none
else none
else none
else none
else none
theorem wX10_init_0 {E : ml_E} (hL : ml_eL E = 1) {rm : ml_M} (hr : ∀ (pc pc' : Nat) (lv : List (Nat × ml_X)), ml_d cX10_init pc .return_ 1 pc' → True → ml_V E "LostRoom" cX10_init 3 true rm pc lv []) : ∀ (l0 : Nat) (m : ml_M), fX10_init l0 m = some rm → ml_V E "LostRoom" cX10_init 3 true m 0 [(0, ml_r l0)] [] := by
  intro l0 m h
  exact ml_aload_n dX10_init_0 0 rfl <| ml_ck_of h fun hz179 h => ml_objInit dX10_init_1 wb_35 (Nat.le_of_ble_eq_true rfl) (Nat.le_of_ble_eq_true rfl) hz179 <| ml_aload_n dX10_init_4 0 rfl <| ml_bipush dX10_init_5 kc_b6 <| ml_newQAs (t9 := .int) (kd := 23) dX10_init_7 wb_36 (by decide) h fun a180 m181 hn182 hc183 h => ml_ck_of h fun hc184 h => ml_putR dX10_init_10 wb_37 hc184 <| ml_lt (m := m181) rfl h fun m185 em186 h => ml_aload_n dX10_init_13 0 rfl <| ml_iconst dX10_init_14 kc_i4 <| ml_newQAs (t9 := .byte) (kd := 24) dX10_init_15 wb_38 (by decide) h fun a187 m188 hn189 hc190 h => ml_ck_of h fun hc191 h => ml_putR dX10_init_18 wb_39 hc191 <| ml_lt (m := m188) rfl h fun m192 em193 h => ml_aload_n dX10_init_21 0 rfl <| ml_newOs dX10_init_22 wb_40 h fun a194 m195 hn196 hc197 h => ml_dup dX10_init_25 rfl <| ml_iconst dX10_init_26 kc_i0 <| ml_newAs (kd := 21) dX10_init_27 wb_41 (by decide) h fun a198 m199 hn200 hc201 h => ml_b1_of h fun m203 hv202 h => ml_callI dX10_init_29 wm_62 wb_42 hn196 (sX1_init hv202) rfl (Nat.le_of_ble_eq_true rfl) (Nat.le_of_ble_eq_true rfl) rfl <| ml_ck_of h fun hc204 h => ml_putR dX10_init_32 wb_43 hc204 <| ml_lt (m := m203) rfl h fun m205 em206 h => ml_aload_n dX10_init_35 0 rfl <| ml_iconst dX10_init_36 kc_i1 <| ml_putI dX10_init_37 wb_44 (ml_kk em206 hc204) <| ml_lt (m := m205) rfl h fun m207 em208 h => ml_aload_n dX10_init_40 0 rfl <| ml_bipush dX10_init_41 kc_b20 <| ml_newQs (c9 := "LostRoom$Thing") (kd := 29) dX10_init_43 wb_45 (by decide) h fun a209 m210 hn211 hc212 h => ml_ck_of h fun hc213 h => ml_putR dX10_init_46 wb_46 hc213 <| ml_lt (m := m210) rfl h fun m214 em215 h => ml_aload_n dX10_init_49 0 rfl <| ml_bipush dX10_init_50 kc_b8 <| ml_newQs (c9 := "LostRoom$Line") (kd := 27) dX10_init_52 wb_47 (by decide) h fun a216 m217 hn218 hc219 h => ml_ck_of h fun hc220 h => ml_putR dX10_init_55 wb_48 hc220 <| ml_lt (m := m217) rfl h fun m221 em222 h => ml_aload_n dX10_init_58 0 rfl <| ml_bipush dX10_init_59 kc_b10 <| ml_newQs (c9 := "LostRoom$Bit") (kd := 25) dX10_init_61 wb_49 (by decide) h fun a223 m224 hn225 hc226 h => ml_ck_of h fun hc227 h => ml_putR dX10_init_64 wb_50 hc227 <| ml_lt (m := m224) rfl h fun m228 em229 h => ml_aload_n dX10_init_67 0 rfl <| ml_bipush dX10_init_68 kc_b8 <| ml_newQs (c9 := "LostRoom$Claim") (kd := 26) dX10_init_70 wb_51 (by decide) h fun a230 m231 hn232 hc233 h => ml_ck_of h fun hc234 h => ml_putR dX10_init_73 wb_52 hc234 <| ml_lt (m := m231) rfl h fun m235 em236 h => ml_aload_n dX10_init_76 0 rfl <| ml_newOs dX10_init_77 wb_53 h fun a237 m238 hn239 hc240 h => ml_dup dX10_init_80 rfl <| ml_b1_of h fun m242 hv241 h => ml_callIN (host := "LostRoom") dX10_init_81 (by decide) wb_54 hn239 (sX7_init hv241) rfl (Nat.le_of_ble_eq_true rfl) (Nat.le_of_ble_eq_true rfl) rfl <| ml_ck_of h fun hc243 h => ml_putR dX10_init_84 wb_55 hc243 <| ml_lt (m := m242) rfl h fun m244 em245 h => ml_aload_n dX10_init_87 0 rfl <| ml_newOs dX10_init_88 wb_56 h fun a246 m247 hn248 hc249 h => ml_dup dX10_init_91 rfl <| ml_b1_of h fun m251 hv250 h => ml_callIN (host := "LostRoom") dX10_init_92 (by decide) wb_57 hn248 (sX4_init hv250) rfl (Nat.le_of_ble_eq_true rfl) (Nat.le_of_ble_eq_true rfl) rfl <| ml_ck_of h fun hc252 h => ml_putR dX10_init_95 wb_58 hc252 <| ml_lt (m := m251) rfl h fun m253 em254 h => ml_aload_n dX10_init_98 0 rfl <| ml_newOs dX10_init_99 wb_59 h fun a255 m256 hn257 hc258 h => ml_dup dX10_init_102 rfl <| ml_b1_of h fun m260 hv259 h => ml_callIN (host := "LostRoom") dX10_init_103 (by decide) wb_60 hn257 (sX3_init hv259) rfl (Nat.le_of_ble_eq_true rfl) (Nat.le_of_ble_eq_true rfl) rfl <| ml_ck_of h fun hc261 h => ml_putR dX10_init_106 wb_61 hc261 <| ml_lt (m := m260) rfl h fun m262 em263 h => ml_aload_n dX10_init_109 0 rfl <| ml_bipush dX10_init_110 kc_b6 <| ml_newAs (kd := 20) dX10_init_112 wb_0 (by decide) h fun a264 m265 hn266 hc267 h => ml_ck_of h fun hc268 h => ml_putR dX10_init_114 wb_62 hc268 <| ml_lt (m := m265) rfl h fun m269 em270 h => ml_rv hr dX10_init_117 trivial h
theorem sX10_init {l0 : Nat} {m : ml_M} {rm : ml_M} (h : fX10_init l0 m = some rm) : ml_Sn yX10_init cX10_init 1 none 3 [ml_r l0] m none rm :=
  ml_Sn_of (P := True) (ini := true) (by decide +kernel) (Nat.le_of_ble_eq_true rfl) (fun _ => rfl) (fun _ => ml_RkV) fun E hL hr => wX10_init_0 hL hr _ _ h
theorem dX11_init_0 : ml_d cX11_init 0 (.aload_n 0) 1 1 := ⟨by decide +kernel, rfl⟩
theorem dX11_init_1 : ml_d cX11_init 1 (.invokespecial 1) 3 4 := ⟨by decide +kernel, rfl⟩
theorem dX11_init_4 : ml_d cX11_init 4 (.aload_n 0) 1 5 := ⟨by decide +kernel, rfl⟩
theorem dX11_init_5 : ml_d cX11_init 5 (.bipush 6) 2 7 := ⟨by decide +kernel, rfl⟩
theorem dX11_init_7 : ml_d cX11_init 7 (.newarray .int) 2 9 := ⟨by decide +kernel, rfl⟩
theorem dX11_init_9 : ml_d cX11_init 9 (.putfield 7) 3 12 := ⟨by decide +kernel, rfl⟩
theorem dX11_init_12 : ml_d cX11_init 12 (.aload_n 0) 1 13 := ⟨by decide +kernel, rfl⟩
theorem dX11_init_13 : ml_d cX11_init 13 (.bipush 6) 2 15 := ⟨by decide +kernel, rfl⟩
theorem dX11_init_15 : ml_d cX11_init 15 (.newarray .int) 2 17 := ⟨by decide +kernel, rfl⟩
theorem dX11_init_17 : ml_d cX11_init 17 (.putfield 13) 3 20 := ⟨by decide +kernel, rfl⟩
theorem dX11_init_20 : ml_d cX11_init 20 (.aload_n 0) 1 21 := ⟨by decide +kernel, rfl⟩
theorem dX11_init_21 : ml_d cX11_init 21 (.sipush 288) 3 24 := ⟨by decide +kernel, rfl⟩
theorem dX11_init_24 : ml_d cX11_init 24 (.newarray .int) 2 26 := ⟨by decide +kernel, rfl⟩
theorem dX11_init_26 : ml_d cX11_init 26 (.putfield 16) 3 29 := ⟨by decide +kernel, rfl⟩
theorem dX11_init_29 : ml_d cX11_init 29 (.aload_n 0) 1 30 := ⟨by decide +kernel, rfl⟩
theorem dX11_init_30 : ml_d cX11_init 30 (.bipush 48) 2 32 := ⟨by decide +kernel, rfl⟩
theorem dX11_init_32 : ml_d cX11_init 32 (.newarray .int) 2 34 := ⟨by decide +kernel, rfl⟩
theorem dX11_init_34 : ml_d cX11_init 34 (.putfield 19) 3 37 := ⟨by decide +kernel, rfl⟩
theorem dX11_init_37 : ml_d cX11_init 37 (.aload_n 0) 1 38 := ⟨by decide +kernel, rfl⟩
theorem dX11_init_38 : ml_d cX11_init 38 (.iconst 4) 1 39 := ⟨by decide +kernel, rfl⟩
theorem dX11_init_39 : ml_d cX11_init 39 (.newarray .int) 2 41 := ⟨by decide +kernel, rfl⟩
theorem dX11_init_41 : ml_d cX11_init 41 (.putfield 22) 3 44 := ⟨by decide +kernel, rfl⟩
theorem dX11_init_44 : ml_d cX11_init 44 (.aload_n 0) 1 45 := ⟨by decide +kernel, rfl⟩
theorem dX11_init_45 : ml_d cX11_init 45 (.sipush 480) 3 48 := ⟨by decide +kernel, rfl⟩
theorem dX11_init_48 : ml_d cX11_init 48 (.newarray .byte) 2 50 := ⟨by decide +kernel, rfl⟩
theorem dX11_init_50 : ml_d cX11_init 50 (.putfield 25) 3 53 := ⟨by decide +kernel, rfl⟩
theorem dX11_init_53 : ml_d cX11_init 53 (.aload_n 0) 1 54 := ⟨by decide +kernel, rfl⟩
theorem dX11_init_54 : ml_d cX11_init 54 (.bipush 40) 2 56 := ⟨by decide +kernel, rfl⟩
theorem dX11_init_56 : ml_d cX11_init 56 (.newarray .int) 2 58 := ⟨by decide +kernel, rfl⟩
theorem dX11_init_58 : ml_d cX11_init 58 (.putfield 29) 3 61 := ⟨by decide +kernel, rfl⟩
theorem dX11_init_61 : ml_d cX11_init 61 (.aload_n 0) 1 62 := ⟨by decide +kernel, rfl⟩
theorem dX11_init_62 : ml_d cX11_init 62 (.bipush 16) 2 64 := ⟨by decide +kernel, rfl⟩
theorem dX11_init_64 : ml_d cX11_init 64 (.newarray .int) 2 66 := ⟨by decide +kernel, rfl⟩
theorem dX11_init_66 : ml_d cX11_init 66 (.putfield 32) 3 69 := ⟨by decide +kernel, rfl⟩
theorem dX11_init_69 : ml_d cX11_init 69 (.aload_n 0) 1 70 := ⟨by decide +kernel, rfl⟩
theorem dX11_init_70 : ml_d cX11_init 70 (.bipush 24) 2 72 := ⟨by decide +kernel, rfl⟩
theorem dX11_init_72 : ml_d cX11_init 72 (.newarray .int) 2 74 := ⟨by decide +kernel, rfl⟩
theorem dX11_init_74 : ml_d cX11_init 74 (.putfield 35) 3 77 := ⟨by decide +kernel, rfl⟩
theorem dX11_init_77 : ml_d cX11_init 77 (.aload_n 0) 1 78 := ⟨by decide +kernel, rfl⟩
theorem dX11_init_78 : ml_d cX11_init 78 (.bipush 40) 2 80 := ⟨by decide +kernel, rfl⟩
theorem dX11_init_80 : ml_d cX11_init 80 (.newarray .int) 2 82 := ⟨by decide +kernel, rfl⟩
theorem dX11_init_82 : ml_d cX11_init 82 (.putfield 38) 3 85 := ⟨by decide +kernel, rfl⟩
theorem dX11_init_85 : ml_d cX11_init 85 (.aload_n 0) 1 86 := ⟨by decide +kernel, rfl⟩
theorem dX11_init_86 : ml_d cX11_init 86 (.bipush 16) 2 88 := ⟨by decide +kernel, rfl⟩
theorem dX11_init_88 : ml_d cX11_init 88 (.newarray .int) 2 90 := ⟨by decide +kernel, rfl⟩
theorem dX11_init_90 : ml_d cX11_init 90 (.putfield 41) 3 93 := ⟨by decide +kernel, rfl⟩
theorem dX11_init_93 : ml_d cX11_init 93 (.aload_n 0) 1 94 := ⟨by decide +kernel, rfl⟩
theorem dX11_init_94 : ml_d cX11_init 94 (.bipush 24) 2 96 := ⟨by decide +kernel, rfl⟩
theorem dX11_init_96 : ml_d cX11_init 96 (.newarray .int) 2 98 := ⟨by decide +kernel, rfl⟩
theorem dX11_init_98 : ml_d cX11_init 98 (.putfield 44) 3 101 := ⟨by decide +kernel, rfl⟩
theorem dX11_init_101 : ml_d cX11_init 101 (.aload_n 0) 1 102 := ⟨by decide +kernel, rfl⟩
theorem dX11_init_102 : ml_d cX11_init 102 (.sipush 140) 3 105 := ⟨by decide +kernel, rfl⟩
theorem dX11_init_105 : ml_d cX11_init 105 (.newarray .int) 2 107 := ⟨by decide +kernel, rfl⟩
theorem dX11_init_107 : ml_d cX11_init 107 (.putfield 47) 3 110 := ⟨by decide +kernel, rfl⟩
theorem dX11_init_110 : ml_d cX11_init 110 (.aload_n 0) 1 111 := ⟨by decide +kernel, rfl⟩
theorem dX11_init_111 : ml_d cX11_init 111 (.sipush 256) 3 114 := ⟨by decide +kernel, rfl⟩
theorem dX11_init_114 : ml_d cX11_init 114 (.newarray .int) 2 116 := ⟨by decide +kernel, rfl⟩
theorem dX11_init_116 : ml_d cX11_init 116 (.putfield 50) 3 119 := ⟨by decide +kernel, rfl⟩
theorem dX11_init_119 : ml_d cX11_init 119 (.aload_n 0) 1 120 := ⟨by decide +kernel, rfl⟩
theorem dX11_init_120 : ml_d cX11_init 120 (.bipush 8) 2 122 := ⟨by decide +kernel, rfl⟩
theorem dX11_init_122 : ml_d cX11_init 122 (.newarray .int) 2 124 := ⟨by decide +kernel, rfl⟩
theorem dX11_init_124 : ml_d cX11_init 124 (.putfield 53) 3 127 := ⟨by decide +kernel, rfl⟩
theorem dX11_init_127 : ml_d cX11_init 127 (.aload_n 0) 1 128 := ⟨by decide +kernel, rfl⟩
theorem dX11_init_128 : ml_d cX11_init 128 (.bipush 8) 2 130 := ⟨by decide +kernel, rfl⟩
theorem dX11_init_130 : ml_d cX11_init 130 (.newarray .int) 2 132 := ⟨by decide +kernel, rfl⟩
theorem dX11_init_132 : ml_d cX11_init 132 (.putfield 56) 3 135 := ⟨by decide +kernel, rfl⟩
theorem dX11_init_135 : ml_d cX11_init 135 (.aload_n 0) 1 136 := ⟨by decide +kernel, rfl⟩
theorem dX11_init_136 : ml_d cX11_init 136 (.bipush 64) 2 138 := ⟨by decide +kernel, rfl⟩
theorem dX11_init_138 : ml_d cX11_init 138 (.newarray .int) 2 140 := ⟨by decide +kernel, rfl⟩
theorem dX11_init_140 : ml_d cX11_init 140 (.putfield 59) 3 143 := ⟨by decide +kernel, rfl⟩
theorem dX11_init_143 : ml_d cX11_init 143 (.aload_n 0) 1 144 := ⟨by decide +kernel, rfl⟩
theorem dX11_init_144 : ml_d cX11_init 144 (.bipush 24) 2 146 := ⟨by decide +kernel, rfl⟩
theorem dX11_init_146 : ml_d cX11_init 146 (.newarray .int) 2 148 := ⟨by decide +kernel, rfl⟩
theorem dX11_init_148 : ml_d cX11_init 148 (.putfield 62) 3 151 := ⟨by decide +kernel, rfl⟩
theorem dX11_init_151 : ml_d cX11_init 151 (.aload_n 0) 1 152 := ⟨by decide +kernel, rfl⟩
theorem dX11_init_152 : ml_d cX11_init 152 (.sipush 2304) 3 155 := ⟨by decide +kernel, rfl⟩
theorem dX11_init_155 : ml_d cX11_init 155 (.newarray .int) 2 157 := ⟨by decide +kernel, rfl⟩
theorem dX11_init_157 : ml_d cX11_init 157 (.putfield 65) 3 160 := ⟨by decide +kernel, rfl⟩
theorem dX11_init_160 : ml_d cX11_init 160 (.aload_n 0) 1 161 := ⟨by decide +kernel, rfl⟩
theorem dX11_init_161 : ml_d cX11_init 161 (.bipush 40) 2 163 := ⟨by decide +kernel, rfl⟩
theorem dX11_init_163 : ml_d cX11_init 163 (.newarray .int) 2 165 := ⟨by decide +kernel, rfl⟩
theorem dX11_init_165 : ml_d cX11_init 165 (.putfield 68) 3 168 := ⟨by decide +kernel, rfl⟩
theorem dX11_init_168 : ml_d cX11_init 168 (.aload_n 0) 1 169 := ⟨by decide +kernel, rfl⟩
theorem dX11_init_169 : ml_d cX11_init 169 (.sipush 10240) 3 172 := ⟨by decide +kernel, rfl⟩
theorem dX11_init_172 : ml_d cX11_init 172 (.newarray .int) 2 174 := ⟨by decide +kernel, rfl⟩
theorem dX11_init_174 : ml_d cX11_init 174 (.putfield 71) 3 177 := ⟨by decide +kernel, rfl⟩
theorem dX11_init_177 : ml_d cX11_init 177 (.aload_n 0) 1 178 := ⟨by decide +kernel, rfl⟩
theorem dX11_init_178 : ml_d cX11_init 178 (.sipush 10240) 3 181 := ⟨by decide +kernel, rfl⟩
theorem dX11_init_181 : ml_d cX11_init 181 (.newarray .int) 2 183 := ⟨by decide +kernel, rfl⟩
theorem dX11_init_183 : ml_d cX11_init 183 (.putfield 74) 3 186 := ⟨by decide +kernel, rfl⟩
theorem dX11_init_186 : ml_d cX11_init 186 (.aload_n 0) 1 187 := ⟨by decide +kernel, rfl⟩
theorem dX11_init_187 : ml_d cX11_init 187 (.bipush 20) 2 189 := ⟨by decide +kernel, rfl⟩
theorem dX11_init_189 : ml_d cX11_init 189 (.newarray .int) 2 191 := ⟨by decide +kernel, rfl⟩
theorem dX11_init_191 : ml_d cX11_init 191 (.putfield 77) 3 194 := ⟨by decide +kernel, rfl⟩
theorem dX11_init_194 : ml_d cX11_init 194 (.aload_n 0) 1 195 := ⟨by decide +kernel, rfl⟩
theorem dX11_init_195 : ml_d cX11_init 195 (.sipush 10240) 3 198 := ⟨by decide +kernel, rfl⟩
theorem dX11_init_198 : ml_d cX11_init 198 (.newarray .int) 2 200 := ⟨by decide +kernel, rfl⟩
theorem dX11_init_200 : ml_d cX11_init 200 (.putfield 80) 3 203 := ⟨by decide +kernel, rfl⟩
theorem dX11_init_203 : ml_d cX11_init 203 (.aload_n 0) 1 204 := ⟨by decide +kernel, rfl⟩
theorem dX11_init_204 : ml_d cX11_init 204 (.sipush 1024) 3 207 := ⟨by decide +kernel, rfl⟩
theorem dX11_init_207 : ml_d cX11_init 207 (.newarray .boolean) 2 209 := ⟨by decide +kernel, rfl⟩
theorem dX11_init_209 : ml_d cX11_init 209 (.putfield 83) 3 212 := ⟨by decide +kernel, rfl⟩
theorem dX11_init_212 : ml_d cX11_init 212 (.aload_n 0) 1 213 := ⟨by decide +kernel, rfl⟩
theorem dX11_init_213 : ml_d cX11_init 213 (.sipush 1024) 3 216 := ⟨by decide +kernel, rfl⟩
theorem dX11_init_216 : ml_d cX11_init 216 (.newarray .int) 2 218 := ⟨by decide +kernel, rfl⟩
theorem dX11_init_218 : ml_d cX11_init 218 (.putfield 87) 3 221 := ⟨by decide +kernel, rfl⟩
theorem dX11_init_221 : ml_d cX11_init 221 (.aload_n 0) 1 222 := ⟨by decide +kernel, rfl⟩
theorem dX11_init_222 : ml_d cX11_init 222 (.sipush 408) 3 225 := ⟨by decide +kernel, rfl⟩
theorem dX11_init_225 : ml_d cX11_init 225 (.newarray .int) 2 227 := ⟨by decide +kernel, rfl⟩
theorem dX11_init_227 : ml_d cX11_init 227 (.putfield 90) 3 230 := ⟨by decide +kernel, rfl⟩
theorem dX11_init_230 : ml_d cX11_init 230 (.aload_n 0) 1 231 := ⟨by decide +kernel, rfl⟩
theorem dX11_init_231 : ml_d cX11_init 231 (.iconst 1) 1 232 := ⟨by decide +kernel, rfl⟩
theorem dX11_init_232 : ml_d cX11_init 232 (.putfield 93) 3 235 := ⟨by decide +kernel, rfl⟩
theorem dX11_init_235 : ml_d cX11_init 235 (.iconst 0) 1 236 := ⟨by decide +kernel, rfl⟩
theorem dX11_init_236 : ml_d cX11_init 236 (.istore_n 1) 1 237 := ⟨by decide +kernel, rfl⟩
theorem dX11_init_237 : ml_d cX11_init 237 (.iload_n 1) 1 238 := ⟨by decide +kernel, rfl⟩
theorem dX11_init_238 : ml_d cX11_init 238 (.bipush 6) 2 240 := ⟨by decide +kernel, rfl⟩
theorem dX11_init_240 : ml_j cX11_init 240 (.if_icmp .ge) 256 243 := ⟨16, by decide +kernel, by decide, rfl⟩
theorem dX11_init_243 : ml_d cX11_init 243 (.aload_n 0) 1 244 := ⟨by decide +kernel, rfl⟩
theorem dX11_init_244 : ml_d cX11_init 244 (.getfield 13) 3 247 := ⟨by decide +kernel, rfl⟩
theorem dX11_init_247 : ml_d cX11_init 247 (.iload_n 1) 1 248 := ⟨by decide +kernel, rfl⟩
theorem dX11_init_248 : ml_d cX11_init 248 (.iconst (-1)) 1 249 := ⟨by decide +kernel, rfl⟩
theorem dX11_init_249 : ml_d cX11_init 249 (.iastore) 1 250 := ⟨by decide +kernel, rfl⟩
theorem dX11_init_250 : ml_d cX11_init 250 (.iinc 1 1) 3 253 := ⟨by decide +kernel, rfl⟩
theorem dX11_init_253 : ml_j cX11_init 253 .goto 237 256 := ⟨(-16), by decide +kernel, by decide, rfl⟩
theorem dX11_init_256 : ml_d cX11_init 256 (.iconst 0) 1 257 := ⟨by decide +kernel, rfl⟩
theorem dX11_init_257 : ml_d cX11_init 257 (.istore_n 1) 1 258 := ⟨by decide +kernel, rfl⟩
theorem dX11_init_258 : ml_d cX11_init 258 (.iload_n 1) 1 259 := ⟨by decide +kernel, rfl⟩
theorem dX11_init_259 : ml_d cX11_init 259 (.iconst 4) 1 260 := ⟨by decide +kernel, rfl⟩
theorem dX11_init_260 : ml_j cX11_init 260 (.if_icmp .ge) 276 263 := ⟨16, by decide +kernel, by decide, rfl⟩
theorem dX11_init_263 : ml_d cX11_init 263 (.aload_n 0) 1 264 := ⟨by decide +kernel, rfl⟩
theorem dX11_init_264 : ml_d cX11_init 264 (.getfield 22) 3 267 := ⟨by decide +kernel, rfl⟩
theorem dX11_init_267 : ml_d cX11_init 267 (.iload_n 1) 1 268 := ⟨by decide +kernel, rfl⟩
theorem dX11_init_268 : ml_d cX11_init 268 (.iconst (-1)) 1 269 := ⟨by decide +kernel, rfl⟩
theorem dX11_init_269 : ml_d cX11_init 269 (.iastore) 1 270 := ⟨by decide +kernel, rfl⟩
theorem dX11_init_270 : ml_d cX11_init 270 (.iinc 1 1) 3 273 := ⟨by decide +kernel, rfl⟩
theorem dX11_init_273 : ml_j cX11_init 273 .goto 258 276 := ⟨(-15), by decide +kernel, by decide, rfl⟩
theorem dX11_init_276 : ml_d cX11_init 276 (.return_) 1 277 := ⟨by decide +kernel, rfl⟩
def fX11_init_258 : Nat → Nat → Int32 → ml_M → Option ml_M
  | 0, _, _, _ => none
  | fu + 1, l0, l1, m =>
if (4 : Int32) ≤ l1 then
some m
else
if (ml_K m274 l0).1 = 11 then
ml_let (ml_R m l0 7) fun a272 =>
if ml_in m a272 20 l1 then
ml_let (ml_sI m a272 l1.toNatClampNeg (-1 : Int32)) fun m274 =>
(fX11_init_258 fu) l0 (l1 + (1 : Int32)) m274
else none
else none
theorem vX11_init_258 {E : ml_E} (hL : ml_eL E = 2) {rm : ml_M} (hr : ∀ (pc pc' : Nat) (lv : List (Nat × ml_X)), ml_d cX11_init pc .return_ 1 pc' → True → ml_V E "LostRoomModel" cX11_init 2 true rm pc lv []) : ∀ (fu : Nat) (l0 : Nat) (l1 : Int32) (m : ml_M), fX11_init_258 fu l0 l1 m = some rm → ml_V E "LostRoomModel" cX11_init 2 true m 258 [(0, ml_r l0), (1, ml_i l1)] [] := by
  intro fu
  induction fu with
  | zero => intro l0 l1 m h; exact ml_none h
  | succ fu ih =>
    intro l0 l1 m h
    have hk258 := ih
    exact ml_iload_n dX11_init_258 1 rfl <| ml_iconst dX11_init_259 kc_i4 <| ml_icmp_ge dX11_init_260 h (fun _ h => ml_rv hr dX11_init_276 trivial h) (fun _ h => ml_aload_n dX11_init_263 0 rfl <| ml_ck_of h fun hc271 h => ml_getR dX11_init_264 wb_63 hc271 <| ml_lx (mk := ml_r) h fun a272 h => ml_iload_n dX11_init_267 1 rfl <| ml_iconst dX11_init_268 kc_im1 <| ml_ck_of h fun hi273 h => ml_iast dX11_init_269 hi273 <| ml_lt (m := m) rfl h fun m274 em275 h => ml_iinc (lv' := [(1, ml_i (l1 + (1 : Int32))), (0, ml_r l0)]) dX11_init_270 1 rfl (congrArg (l1 + ·) kc_i1) (hL ▸ (Nat.le_of_ble_eq_true rfl)) rfl <| ml_goto dX11_init_273 <| ml_V.sub [1, 0] rfl (hk258 _ _ _ h))
def fX11_init_256 (l0 : Nat) (m : ml_M) : Option ml_M :=
fX11_init_258 ml_fu l0 (0 : Int32) m
theorem vX11_init_256 {E : ml_E} (hL : ml_eL E = 2) {rm : ml_M} (hr : ∀ (pc pc' : Nat) (lv : List (Nat × ml_X)), ml_d cX11_init pc .return_ 1 pc' → True → ml_V E "LostRoomModel" cX11_init 2 true rm pc lv []) : ∀ (l0 : Nat) (m : ml_M), fX11_init_256 l0 m = some rm → ml_V E "LostRoomModel" cX11_init 2 true m 256 [(0, ml_r l0)] [] := by
  intro l0 m h
  exact ml_iconst dX11_init_256 kc_i0 <| ml_istore_n (lv' := [(1, ml_i (0 : Int32)), (0, ml_r l0)]) dX11_init_257 (hL ▸ (Nat.le_of_ble_eq_true rfl)) rfl <| ml_V.sub [1, 0] rfl (vX11_init_258 hL hr  ml_fu _ _ _ h)
def fX11_init_237 : Nat → Nat → Int32 → ml_M → Option ml_M
  | 0, _, _, _ => none
  | fu + 1, l0, l1, m =>
if (6 : Int32) ≤ l1 then
fX11_init_256 l0 m
else
if (ml_K m279 l0).1 = 11 then
ml_let (ml_R m l0 4) fun a277 =>
if ml_in m a277 20 l1 then
ml_let (ml_sI m a277 l1.toNatClampNeg (-1 : Int32)) fun m279 =>
(fX11_init_237 fu) l0 (l1 + (1 : Int32)) m279
else none
else none
theorem vX11_init_237 {E : ml_E} (hL : ml_eL E = 2) {rm : ml_M} (hr : ∀ (pc pc' : Nat) (lv : List (Nat × ml_X)), ml_d cX11_init pc .return_ 1 pc' → True → ml_V E "LostRoomModel" cX11_init 2 true rm pc lv []) : ∀ (fu : Nat) (l0 : Nat) (l1 : Int32) (m : ml_M), fX11_init_237 fu l0 l1 m = some rm → ml_V E "LostRoomModel" cX11_init 2 true m 237 [(0, ml_r l0), (1, ml_i l1)] [] := by
  intro fu
  induction fu with
  | zero => intro l0 l1 m h; exact ml_none h
  | succ fu ih =>
    intro l0 l1 m h
    have hk237 := ih
    exact ml_iload_n dX11_init_237 1 rfl <| ml_bipush dX11_init_238 kc_b6 <| ml_icmp_ge dX11_init_240 h (fun _ h => ml_V.sub [0] rfl (vX11_init_256 hL hr  _ _ h)) (fun _ h => ml_aload_n dX11_init_243 0 rfl <| ml_ck_of h fun hc276 h => ml_getR dX11_init_244 wb_64 hc276 <| ml_lx (mk := ml_r) h fun a277 h => ml_iload_n dX11_init_247 1 rfl <| ml_iconst dX11_init_248 kc_im1 <| ml_ck_of h fun hi278 h => ml_iast dX11_init_249 hi278 <| ml_lt (m := m) rfl h fun m279 em280 h => ml_iinc (lv' := [(1, ml_i (l1 + (1 : Int32))), (0, ml_r l0)]) dX11_init_250 1 rfl (congrArg (l1 + ·) kc_i1) (hL ▸ (Nat.le_of_ble_eq_true rfl)) rfl <| ml_goto dX11_init_253 <| ml_V.sub [1, 0] rfl (hk237 _ _ _ h))
def fX11_init (l0 : Nat) (m : ml_M) : Option ml_M :=
if l0 ≠ 0 then
ml_let (ml_n m + 1) fun a282 =>
ml_let (ml_al m 20 (6 : Int32).toNatClampNeg (6 : Int32).toNatClampNeg) fun m283 =>
if (ml_K m471 l0).1 = 11 then
ml_let (ml_sR m283 l0 1 a282) fun m287 =>
ml_let (ml_n m287 + 1) fun a289 =>
ml_let (ml_al m287 20 (6 : Int32).toNatClampNeg (6 : Int32).toNatClampNeg) fun m290 =>
if (ml_K m471 l0).1 = 11 then
ml_let (ml_sR m290 l0 4 a289) fun m294 =>
ml_let (ml_n m294 + 1) fun a296 =>
ml_let (ml_al m294 20 (288 : Int32).toNatClampNeg (288 : Int32).toNatClampNeg) fun m297 =>
if (ml_K m471 l0).1 = 11 then
ml_let (ml_sR m297 l0 5 a296) fun m301 =>
ml_let (ml_n m301 + 1) fun a303 =>
ml_let (ml_al m301 20 (48 : Int32).toNatClampNeg (48 : Int32).toNatClampNeg) fun m304 =>
if (ml_K m471 l0).1 = 11 then
ml_let (ml_sR m304 l0 6 a303) fun m308 =>
ml_let (ml_n m308 + 1) fun a310 =>
ml_let (ml_al m308 20 (4 : Int32).toNatClampNeg (4 : Int32).toNatClampNeg) fun m311 =>
if (ml_K m471 l0).1 = 11 then
ml_let (ml_sR m311 l0 7 a310) fun m315 =>
ml_let (ml_n m315 + 1) fun a317 =>
ml_let (ml_al m315 21 (480 : Int32).toNatClampNeg (480 : Int32).toNatClampNeg) fun m318 =>
if (ml_K m471 l0).1 = 11 then
ml_let (ml_sR m318 l0 8 a317) fun m322 =>
ml_let (ml_n m322 + 1) fun a324 =>
ml_let (ml_al m322 20 (40 : Int32).toNatClampNeg (40 : Int32).toNatClampNeg) fun m325 =>
if (ml_K m471 l0).1 = 11 then
ml_let (ml_sR m325 l0 12 a324) fun m329 =>
ml_let (ml_n m329 + 1) fun a331 =>
ml_let (ml_al m329 20 (16 : Int32).toNatClampNeg (16 : Int32).toNatClampNeg) fun m332 =>
if (ml_K m471 l0).1 = 11 then
ml_let (ml_sR m332 l0 13 a331) fun m336 =>
ml_let (ml_n m336 + 1) fun a338 =>
ml_let (ml_al m336 20 (24 : Int32).toNatClampNeg (24 : Int32).toNatClampNeg) fun m339 =>
if (ml_K m471 l0).1 = 11 then
ml_let (ml_sR m339 l0 14 a338) fun m343 =>
ml_let (ml_n m343 + 1) fun a345 =>
ml_let (ml_al m343 20 (40 : Int32).toNatClampNeg (40 : Int32).toNatClampNeg) fun m346 =>
if (ml_K m471 l0).1 = 11 then
ml_let (ml_sR m346 l0 20 a345) fun m350 =>
ml_let (ml_n m350 + 1) fun a352 =>
ml_let (ml_al m350 20 (16 : Int32).toNatClampNeg (16 : Int32).toNatClampNeg) fun m353 =>
if (ml_K m471 l0).1 = 11 then
ml_let (ml_sR m353 l0 21 a352) fun m357 =>
ml_let (ml_n m357 + 1) fun a359 =>
ml_let (ml_al m357 20 (24 : Int32).toNatClampNeg (24 : Int32).toNatClampNeg) fun m360 =>
if (ml_K m471 l0).1 = 11 then
ml_let (ml_sR m360 l0 22 a359) fun m364 =>
ml_let (ml_n m364 + 1) fun a366 =>
ml_let (ml_al m364 20 (140 : Int32).toNatClampNeg (140 : Int32).toNatClampNeg) fun m367 =>
if (ml_K m471 l0).1 = 11 then
ml_let (ml_sR m367 l0 25 a366) fun m371 =>
ml_let (ml_n m371 + 1) fun a373 =>
ml_let (ml_al m371 20 (256 : Int32).toNatClampNeg (256 : Int32).toNatClampNeg) fun m374 =>
if (ml_K m471 l0).1 = 11 then
ml_let (ml_sR m374 l0 26 a373) fun m378 =>
ml_let (ml_n m378 + 1) fun a380 =>
ml_let (ml_al m378 20 (8 : Int32).toNatClampNeg (8 : Int32).toNatClampNeg) fun m381 =>
if (ml_K m471 l0).1 = 11 then
ml_let (ml_sR m381 l0 27 a380) fun m385 =>
ml_let (ml_n m385 + 1) fun a387 =>
ml_let (ml_al m385 20 (8 : Int32).toNatClampNeg (8 : Int32).toNatClampNeg) fun m388 =>
if (ml_K m471 l0).1 = 11 then
ml_let (ml_sR m388 l0 29 a387) fun m392 =>
ml_let (ml_n m392 + 1) fun a394 =>
ml_let (ml_al m392 20 (64 : Int32).toNatClampNeg (64 : Int32).toNatClampNeg) fun m395 =>
if (ml_K m471 l0).1 = 11 then
ml_let (ml_sR m395 l0 31 a394) fun m399 =>
ml_let (ml_n m399 + 1) fun a401 =>
ml_let (ml_al m399 20 (24 : Int32).toNatClampNeg (24 : Int32).toNatClampNeg) fun m402 =>
if (ml_K m471 l0).1 = 11 then
ml_let (ml_sR m402 l0 35 a401) fun m406 =>
ml_let (ml_n m406 + 1) fun a408 =>
ml_let (ml_al m406 20 (2304 : Int32).toNatClampNeg (2304 : Int32).toNatClampNeg) fun m409 =>
if (ml_K m471 l0).1 = 11 then
ml_let (ml_sR m409 l0 36 a408) fun m413 =>
ml_let (ml_n m413 + 1) fun a415 =>
ml_let (ml_al m413 20 (40 : Int32).toNatClampNeg (40 : Int32).toNatClampNeg) fun m416 =>
if (ml_K m471 l0).1 = 11 then
ml_let (ml_sR m416 l0 38 a415) fun m420 =>
ml_let (ml_n m420 + 1) fun a422 =>
ml_let (ml_al m420 20 (10240 : Int32).toNatClampNeg (10240 : Int32).toNatClampNeg) fun m423 =>
if (ml_K m471 l0).1 = 11 then
ml_let (ml_sR m423 l0 39 a422) fun m427 =>
ml_let (ml_n m427 + 1) fun a429 =>
ml_let (ml_al m427 20 (10240 : Int32).toNatClampNeg (10240 : Int32).toNatClampNeg) fun m430 =>
if (ml_K m471 l0).1 = 11 then
ml_let (ml_sR m430 l0 40 a429) fun m434 =>
ml_let (ml_n m434 + 1) fun a436 =>
ml_let (ml_al m434 20 (20 : Int32).toNatClampNeg (20 : Int32).toNatClampNeg) fun m437 =>
if (ml_K m471 l0).1 = 11 then
ml_let (ml_sR m437 l0 42 a436) fun m441 =>
ml_let (ml_n m441 + 1) fun a443 =>
ml_let (ml_al m441 20 (10240 : Int32).toNatClampNeg (10240 : Int32).toNatClampNeg) fun m444 =>
if (ml_K m471 l0).1 = 11 then
ml_let (ml_sR m444 l0 43 a443) fun m448 =>
ml_let (ml_n m448 + 1) fun a450 =>
ml_let (ml_al m448 22 (1024 : Int32).toNatClampNeg (1024 : Int32).toNatClampNeg) fun m451 =>
if (ml_K m471 l0).1 = 11 then
ml_let (ml_sR m451 l0 44 a450) fun m455 =>
ml_let (ml_n m455 + 1) fun a457 =>
ml_let (ml_al m455 20 (1024 : Int32).toNatClampNeg (1024 : Int32).toNatClampNeg) fun m458 =>
if (ml_K m471 l0).1 = 11 then
ml_let (ml_sR m458 l0 45 a457) fun m462 =>
ml_let (ml_n m462 + 1) fun a464 =>
ml_let (ml_al m462 20 (408 : Int32).toNatClampNeg (408 : Int32).toNatClampNeg) fun m465 =>
if (ml_K m471 l0).1 = 11 then
ml_let (ml_sR m465 l0 47 a464) fun m469 =>
ml_let (ml_sI m469 l0 23 (1 : Int32)) fun m471 =>
fX11_init_237 ml_fu l0 (0 : Int32) m471
else none
else none
else none
else none
else none
else none
else none
else none
else none
else none
else none
else none
else none
else none
else none
else none
else none
else none
else none
else none
else none
else none
else none
else none
else none
else none
else none
else none
theorem wX11_init_0 {E : ml_E} (hL : ml_eL E = 2) {rm : ml_M} (hr : ∀ (pc pc' : Nat) (lv : List (Nat × ml_X)), ml_d cX11_init pc .return_ 1 pc' → True → ml_V E "LostRoomModel" cX11_init 2 true rm pc lv []) : ∀ (l0 : Nat) (m : ml_M), fX11_init l0 m = some rm → ml_V E "LostRoomModel" cX11_init 2 true m 0 [(0, ml_r l0)] [] := by
  intro l0 m h
  exact ml_aload_n dX11_init_0 0 rfl <| ml_ck_of h fun hz281 h => ml_objInit dX11_init_1 wb_65 (Nat.le_of_ble_eq_true rfl) (Nat.le_of_ble_eq_true rfl) hz281 <| ml_aload_n dX11_init_4 0 rfl <| ml_bipush dX11_init_5 kc_b6 <| ml_newAs (kd := 20) dX11_init_7 wb_0 (by decide) h fun a282 m283 hn284 hc285 h => ml_ck_of h fun hc286 h => ml_putR dX11_init_9 wb_66 hc286 <| ml_lt (m := m283) rfl h fun m287 em288 h => ml_aload_n dX11_init_12 0 rfl <| ml_bipush dX11_init_13 kc_b6 <| ml_newAs (kd := 20) dX11_init_15 wb_0 (by decide) h fun a289 m290 hn291 hc292 h => ml_ck_of h fun hc293 h => ml_putR dX11_init_17 wb_67 hc293 <| ml_lt (m := m290) rfl h fun m294 em295 h => ml_aload_n dX11_init_20 0 rfl <| ml_sipush dX11_init_21 kc_s288 <| ml_newAs (kd := 20) dX11_init_24 wb_0 (by decide) h fun a296 m297 hn298 hc299 h => ml_ck_of h fun hc300 h => ml_putR dX11_init_26 wb_68 hc300 <| ml_lt (m := m297) rfl h fun m301 em302 h => ml_aload_n dX11_init_29 0 rfl <| ml_bipush dX11_init_30 kc_b48 <| ml_newAs (kd := 20) dX11_init_32 wb_0 (by decide) h fun a303 m304 hn305 hc306 h => ml_ck_of h fun hc307 h => ml_putR dX11_init_34 wb_69 hc307 <| ml_lt (m := m304) rfl h fun m308 em309 h => ml_aload_n dX11_init_37 0 rfl <| ml_iconst dX11_init_38 kc_i4 <| ml_newAs (kd := 20) dX11_init_39 wb_0 (by decide) h fun a310 m311 hn312 hc313 h => ml_ck_of h fun hc314 h => ml_putR dX11_init_41 wb_70 hc314 <| ml_lt (m := m311) rfl h fun m315 em316 h => ml_aload_n dX11_init_44 0 rfl <| ml_sipush dX11_init_45 kc_s480 <| ml_newAs (kd := 21) dX11_init_48 wb_41 (by decide) h fun a317 m318 hn319 hc320 h => ml_ck_of h fun hc321 h => ml_putR dX11_init_50 wb_71 hc321 <| ml_lt (m := m318) rfl h fun m322 em323 h => ml_aload_n dX11_init_53 0 rfl <| ml_bipush dX11_init_54 kc_b40 <| ml_newAs (kd := 20) dX11_init_56 wb_0 (by decide) h fun a324 m325 hn326 hc327 h => ml_ck_of h fun hc328 h => ml_putR dX11_init_58 wb_72 hc328 <| ml_lt (m := m325) rfl h fun m329 em330 h => ml_aload_n dX11_init_61 0 rfl <| ml_bipush dX11_init_62 kc_b16 <| ml_newAs (kd := 20) dX11_init_64 wb_0 (by decide) h fun a331 m332 hn333 hc334 h => ml_ck_of h fun hc335 h => ml_putR dX11_init_66 wb_73 hc335 <| ml_lt (m := m332) rfl h fun m336 em337 h => ml_aload_n dX11_init_69 0 rfl <| ml_bipush dX11_init_70 kc_b24 <| ml_newAs (kd := 20) dX11_init_72 wb_0 (by decide) h fun a338 m339 hn340 hc341 h => ml_ck_of h fun hc342 h => ml_putR dX11_init_74 wb_74 hc342 <| ml_lt (m := m339) rfl h fun m343 em344 h => ml_aload_n dX11_init_77 0 rfl <| ml_bipush dX11_init_78 kc_b40 <| ml_newAs (kd := 20) dX11_init_80 wb_0 (by decide) h fun a345 m346 hn347 hc348 h => ml_ck_of h fun hc349 h => ml_putR dX11_init_82 wb_75 hc349 <| ml_lt (m := m346) rfl h fun m350 em351 h => ml_aload_n dX11_init_85 0 rfl <| ml_bipush dX11_init_86 kc_b16 <| ml_newAs (kd := 20) dX11_init_88 wb_0 (by decide) h fun a352 m353 hn354 hc355 h => ml_ck_of h fun hc356 h => ml_putR dX11_init_90 wb_76 hc356 <| ml_lt (m := m353) rfl h fun m357 em358 h => ml_aload_n dX11_init_93 0 rfl <| ml_bipush dX11_init_94 kc_b24 <| ml_newAs (kd := 20) dX11_init_96 wb_0 (by decide) h fun a359 m360 hn361 hc362 h => ml_ck_of h fun hc363 h => ml_putR dX11_init_98 wb_77 hc363 <| ml_lt (m := m360) rfl h fun m364 em365 h => ml_aload_n dX11_init_101 0 rfl <| ml_sipush dX11_init_102 kc_s140 <| ml_newAs (kd := 20) dX11_init_105 wb_0 (by decide) h fun a366 m367 hn368 hc369 h => ml_ck_of h fun hc370 h => ml_putR dX11_init_107 wb_78 hc370 <| ml_lt (m := m367) rfl h fun m371 em372 h => ml_aload_n dX11_init_110 0 rfl <| ml_sipush dX11_init_111 kc_s256 <| ml_newAs (kd := 20) dX11_init_114 wb_0 (by decide) h fun a373 m374 hn375 hc376 h => ml_ck_of h fun hc377 h => ml_putR dX11_init_116 wb_79 hc377 <| ml_lt (m := m374) rfl h fun m378 em379 h => ml_aload_n dX11_init_119 0 rfl <| ml_bipush dX11_init_120 kc_b8 <| ml_newAs (kd := 20) dX11_init_122 wb_0 (by decide) h fun a380 m381 hn382 hc383 h => ml_ck_of h fun hc384 h => ml_putR dX11_init_124 wb_80 hc384 <| ml_lt (m := m381) rfl h fun m385 em386 h => ml_aload_n dX11_init_127 0 rfl <| ml_bipush dX11_init_128 kc_b8 <| ml_newAs (kd := 20) dX11_init_130 wb_0 (by decide) h fun a387 m388 hn389 hc390 h => ml_ck_of h fun hc391 h => ml_putR dX11_init_132 wb_81 hc391 <| ml_lt (m := m388) rfl h fun m392 em393 h => ml_aload_n dX11_init_135 0 rfl <| ml_bipush dX11_init_136 kc_b64 <| ml_newAs (kd := 20) dX11_init_138 wb_0 (by decide) h fun a394 m395 hn396 hc397 h => ml_ck_of h fun hc398 h => ml_putR dX11_init_140 wb_82 hc398 <| ml_lt (m := m395) rfl h fun m399 em400 h => ml_aload_n dX11_init_143 0 rfl <| ml_bipush dX11_init_144 kc_b24 <| ml_newAs (kd := 20) dX11_init_146 wb_0 (by decide) h fun a401 m402 hn403 hc404 h => ml_ck_of h fun hc405 h => ml_putR dX11_init_148 wb_83 hc405 <| ml_lt (m := m402) rfl h fun m406 em407 h => ml_aload_n dX11_init_151 0 rfl <| ml_sipush dX11_init_152 kc_s2304 <| ml_newAs (kd := 20) dX11_init_155 wb_0 (by decide) h fun a408 m409 hn410 hc411 h => ml_ck_of h fun hc412 h => ml_putR dX11_init_157 wb_84 hc412 <| ml_lt (m := m409) rfl h fun m413 em414 h => ml_aload_n dX11_init_160 0 rfl <| ml_bipush dX11_init_161 kc_b40 <| ml_newAs (kd := 20) dX11_init_163 wb_0 (by decide) h fun a415 m416 hn417 hc418 h => ml_ck_of h fun hc419 h => ml_putR dX11_init_165 wb_85 hc419 <| ml_lt (m := m416) rfl h fun m420 em421 h => ml_aload_n dX11_init_168 0 rfl <| ml_sipush dX11_init_169 kc_s10240 <| ml_newAs (kd := 20) dX11_init_172 wb_0 (by decide) h fun a422 m423 hn424 hc425 h => ml_ck_of h fun hc426 h => ml_putR dX11_init_174 wb_86 hc426 <| ml_lt (m := m423) rfl h fun m427 em428 h => ml_aload_n dX11_init_177 0 rfl <| ml_sipush dX11_init_178 kc_s10240 <| ml_newAs (kd := 20) dX11_init_181 wb_0 (by decide) h fun a429 m430 hn431 hc432 h => ml_ck_of h fun hc433 h => ml_putR dX11_init_183 wb_87 hc433 <| ml_lt (m := m430) rfl h fun m434 em435 h => ml_aload_n dX11_init_186 0 rfl <| ml_bipush dX11_init_187 kc_b20 <| ml_newAs (kd := 20) dX11_init_189 wb_0 (by decide) h fun a436 m437 hn438 hc439 h => ml_ck_of h fun hc440 h => ml_putR dX11_init_191 wb_88 hc440 <| ml_lt (m := m437) rfl h fun m441 em442 h => ml_aload_n dX11_init_194 0 rfl <| ml_sipush dX11_init_195 kc_s10240 <| ml_newAs (kd := 20) dX11_init_198 wb_0 (by decide) h fun a443 m444 hn445 hc446 h => ml_ck_of h fun hc447 h => ml_putR dX11_init_200 wb_89 hc447 <| ml_lt (m := m444) rfl h fun m448 em449 h => ml_aload_n dX11_init_203 0 rfl <| ml_sipush dX11_init_204 kc_s1024 <| ml_newAs (kd := 22) dX11_init_207 wb_17 (by decide) h fun a450 m451 hn452 hc453 h => ml_ck_of h fun hc454 h => ml_putR dX11_init_209 wb_90 hc454 <| ml_lt (m := m451) rfl h fun m455 em456 h => ml_aload_n dX11_init_212 0 rfl <| ml_sipush dX11_init_213 kc_s1024 <| ml_newAs (kd := 20) dX11_init_216 wb_0 (by decide) h fun a457 m458 hn459 hc460 h => ml_ck_of h fun hc461 h => ml_putR dX11_init_218 wb_91 hc461 <| ml_lt (m := m458) rfl h fun m462 em463 h => ml_aload_n dX11_init_221 0 rfl <| ml_sipush dX11_init_222 kc_s408 <| ml_newAs (kd := 20) dX11_init_225 wb_0 (by decide) h fun a464 m465 hn466 hc467 h => ml_ck_of h fun hc468 h => ml_putR dX11_init_227 wb_92 hc468 <| ml_lt (m := m465) rfl h fun m469 em470 h => ml_aload_n dX11_init_230 0 rfl <| ml_iconst dX11_init_231 kc_i1 <| ml_putI dX11_init_232 wb_93 (ml_kk em470 hc468) <| ml_lt (m := m469) rfl h fun m471 em472 h => ml_iconst dX11_init_235 kc_i0 <| ml_istore_n (lv' := [(1, ml_i (0 : Int32)), (0, ml_r l0)]) dX11_init_236 (hL ▸ (Nat.le_of_ble_eq_true rfl)) rfl <| ml_V.sub [1, 0] rfl (vX11_init_237 hL hr  ml_fu _ _ _ h)
theorem sX11_init {l0 : Nat} {m : ml_M} {rm : ml_M} (h : fX11_init l0 m = some rm) : ml_Sn yX11_init cX11_init 2 none 2 [ml_r l0] m none rm :=
  ml_Sn_of (P := True) (ini := true) (by decide +kernel) (Nat.le_of_ble_eq_true rfl) (fun _ => rfl) (fun _ => ml_RkV) fun E hL hr => wX11_init_0 hL hr _ _ h
theorem dX10_within_0 : ml_d cX10_within 0 (.iload_n 0) 1 1 := ⟨by decide +kernel, rfl⟩
theorem dX10_within_1 : ml_d cX10_within 1 (.iload_n 1) 1 2 := ⟨by decide +kernel, rfl⟩
theorem dX10_within_2 : ml_j cX10_within 2 (.if_icmp .lt) 14 5 := ⟨12, by decide +kernel, by decide, rfl⟩
theorem dX10_within_5 : ml_d cX10_within 5 (.iload_n 0) 1 6 := ⟨by decide +kernel, rfl⟩
theorem dX10_within_6 : ml_d cX10_within 6 (.iload_n 2) 1 7 := ⟨by decide +kernel, rfl⟩
theorem dX10_within_7 : ml_j cX10_within 7 (.if_icmp .gt) 14 10 := ⟨7, by decide +kernel, by decide, rfl⟩
theorem dX10_within_10 : ml_d cX10_within 10 (.iconst 1) 1 11 := ⟨by decide +kernel, rfl⟩
theorem dX10_within_11 : ml_j cX10_within 11 .goto 15 14 := ⟨4, by decide +kernel, by decide, rfl⟩
theorem dX10_within_14 : ml_d cX10_within 14 (.iconst 0) 1 15 := ⟨by decide +kernel, rfl⟩
theorem dX10_within_15 : ml_d cX10_within 15 (.ireturn) 1 16 := ⟨by decide +kernel, rfl⟩
def fX10_within (l0 : Int32) (l1 : Int32) (l2 : Int32) (m : ml_M) : Option Int32 :=
if l0 < l1 then
some (0 : Int32)
else
if l2 < l0 then
some (0 : Int32)
else
some (1 : Int32)
theorem wX10_within_0 {E : ml_E} (hL : ml_eL E = 3) {rv : Int32} {m : ml_M} (hr : ∀ (pc pc' : Nat) (lv : List (Nat × ml_X)), ml_d cX10_within pc .ireturn 1 pc' → (rv = 0 ∨ rv = 1) → ml_V E "LostRoom" cX10_within 2 false m pc lv [ml_i rv]) : ∀ (l0 : Int32) (l1 : Int32) (l2 : Int32), fX10_within l0 l1 l2 m = some rv → ml_V E "LostRoom" cX10_within 2 false m 0 [(0, ml_i l0), (1, ml_i l1), (2, ml_i l2)] [] := by
  intro l0 l1 l2 h
  exact ml_iload_n dX10_within_0 0 rfl <| ml_iload_n dX10_within_1 1 rfl <| ml_icmp_lt dX10_within_2 h (fun _ h => ml_iconst dX10_within_14 kc_i0 <| ml_rp (mk := ml_i) hr dX10_within_15 (fun e => Or.inl e.symm) h) (fun _ h => ml_iload_n dX10_within_5 0 rfl <| ml_iload_n dX10_within_6 2 rfl <| ml_icmp_gt dX10_within_7 h (fun _ h => ml_iconst dX10_within_14 kc_i0 <| ml_rp (mk := ml_i) hr dX10_within_15 (fun e => Or.inl e.symm) h) (fun _ h => ml_iconst dX10_within_10 kc_i1 <| ml_goto dX10_within_11 <| ml_rp (mk := ml_i) hr dX10_within_15 (fun e => Or.inr e.symm) h))
theorem sX10_within {l0 : Int32} {l1 : Int32} {l2 : Int32} {m : ml_M} {rv : Int32} (h : fX10_within l0 l1 l2 m = some rv) : ml_Sn yX10_within cX10_within 3 (some .boolean) 2 [ml_i l0, ml_i l1, ml_i l2] m (some (ml_i rv)) m :=
  ml_Sn_of (P := (rv = 0 ∨ rv = 1)) (ini := false) (by decide +kernel) (Nat.le_of_ble_eq_true rfl) (fun h => by cases h) (fun hz => ml_RkZ rv hz) fun E hL hr => wX10_within_0 hL hr _ _ _ h
theorem dX10_isRow_0 : ml_d cX10_isRow 0 (.iload_n 0) 1 1 := ⟨by decide +kernel, rfl⟩
theorem dX10_isRow_1 : ml_d cX10_isRow 1 (.iconst 0) 1 2 := ⟨by decide +kernel, rfl⟩
theorem dX10_isRow_2 : ml_d cX10_isRow 2 (.iconst 5) 1 3 := ⟨by decide +kernel, rfl⟩
theorem dX10_isRow_3 : ml_d cX10_isRow 3 (.invokestatic 138) 3 6 := ⟨by decide +kernel, rfl⟩
theorem dX10_isRow_6 : ml_d cX10_isRow 6 (.ireturn) 1 7 := ⟨by decide +kernel, rfl⟩
def fX10_isRow (l0 : Int32) (m : ml_M) : Option Int32 :=
ml_b1 (fX10_within l0 (0 : Int32) (5 : Int32) m) fun r474 =>
if r474 = 0 ∨ r474 = 1 then some r474 else none
theorem wX10_isRow_0 {E : ml_E} (hL : ml_eL E = 1) {rv : Int32} {m : ml_M} (hr : ∀ (pc pc' : Nat) (lv : List (Nat × ml_X)), ml_d cX10_isRow pc .ireturn 1 pc' → (rv = 0 ∨ rv = 1) → ml_V E "LostRoom" cX10_isRow 3 false m pc lv [ml_i rv]) : ∀ (l0 : Int32), fX10_isRow l0 m = some rv → ml_V E "LostRoom" cX10_isRow 3 false m 0 [(0, ml_i l0)] [] := by
  intro l0 h
  exact ml_iload_n dX10_isRow_0 0 rfl <| ml_iconst dX10_isRow_1 kc_i0 <| ml_iconst dX10_isRow_2 kc_i5 <| ml_b1_of h fun r474 hv473 h => ml_callS dX10_isRow_3 wm_124 wb_94 (sX10_within hv473) rfl (Nat.le_of_ble_eq_true rfl) (Nat.le_of_ble_eq_true rfl) rfl <| ml_ck_of h fun hz475 h => ml_rp (mk := ml_i) hr dX10_isRow_6 (fun e => e ▸ hz475) h
theorem sX10_isRow {l0 : Int32} {m : ml_M} {rv : Int32} (h : fX10_isRow l0 m = some rv) : ml_Sn yX10_isRow cX10_isRow 1 (some .boolean) 3 [ml_i l0] m (some (ml_i rv)) m :=
  ml_Sn_of (P := (rv = 0 ∨ rv = 1)) (ini := false) (by decide +kernel) (Nat.le_of_ble_eq_true rfl) (fun h => by cases h) (fun hz => ml_RkZ rv hz) fun E hL hr => wX10_isRow_0 hL hr _ h
theorem dX10_found_0 : ml_d cX10_found 0 (.aload_n 0) 1 1 := ⟨by decide +kernel, rfl⟩
theorem dX10_found_1 : ml_d cX10_found 1 (.iload_n 1) 1 2 := ⟨by decide +kernel, rfl⟩
theorem dX10_found_2 : ml_d cX10_found 2 (.putfield 335) 3 5 := ⟨by decide +kernel, rfl⟩
theorem dX10_found_5 : ml_d cX10_found 5 (.aload_n 0) 1 6 := ⟨by decide +kernel, rfl⟩
theorem dX10_found_6 : ml_d cX10_found 6 (.getfield 79) 3 9 := ⟨by decide +kernel, rfl⟩
theorem dX10_found_9 : ml_d cX10_found 9 (.iload_n 1) 1 10 := ⟨by decide +kernel, rfl⟩
theorem dX10_found_10 : ml_d cX10_found 10 (.dup2) 1 11 := ⟨by decide +kernel, rfl⟩
theorem dX10_found_11 : ml_d cX10_found 11 (.iaload) 1 12 := ⟨by decide +kernel, rfl⟩
theorem dX10_found_12 : ml_d cX10_found 12 (.iconst 1) 1 13 := ⟨by decide +kernel, rfl⟩
theorem dX10_found_13 : ml_d cX10_found 13 (.iadd) 1 14 := ⟨by decide +kernel, rfl⟩
theorem dX10_found_14 : ml_d cX10_found 14 (.iastore) 1 15 := ⟨by decide +kernel, rfl⟩
theorem dX10_found_15 : ml_d cX10_found 15 (.bipush (-3)) 2 17 := ⟨by decide +kernel, rfl⟩
theorem dX10_found_17 : ml_d cX10_found 17 (.ireturn) 1 18 := ⟨by decide +kernel, rfl⟩
def fX10_found (l0 : Nat) (l1 : Int32) (m : ml_M) : Option (Int32 × ml_M) :=
if (ml_K m482 l0).1 = 10 then
ml_let (ml_sI m l0 17 l1) fun m477 =>
ml_let (ml_R m477 l0 18) fun a479 =>
if ml_in m477 a479 20 l1 then
if ml_in m477 a479 20 l1 then
ml_let (ml_sI m477 a479 l1.toNatClampNeg ((ml_I m477 a479 l1.toNatClampNeg) + (1 : Int32))) fun m482 =>
some ((-3 : Int32), m482)
else none
else none
else none
theorem wX10_found_0 {E : ml_E} (hL : ml_eL E = 2) {rv : Int32} {rm : ml_M} (hr : ∀ (pc pc' : Nat) (lv : List (Nat × ml_X)), ml_d cX10_found pc .ireturn 1 pc' → True → ml_V E "LostRoom" cX10_found 2 false rm pc lv [ml_i rv]) : ∀ (l0 : Nat) (l1 : Int32) (m : ml_M), fX10_found l0 l1 m = some (rv, rm) → ml_V E "LostRoom" cX10_found 2 false m 0 [(0, ml_r l0), (1, ml_i l1)] [] := by
  intro l0 l1 m h
  exact ml_aload_n dX10_found_0 0 rfl <| ml_iload_n dX10_found_1 1 rfl <| ml_ck_of h fun hc476 h => ml_putI dX10_found_2 wb_95 hc476 <| ml_lt (m := m) rfl h fun m477 em478 h => ml_aload_n dX10_found_5 0 rfl <| ml_getR dX10_found_6 wb_96 (ml_kk em478 hc476) <| ml_lx (mk := ml_r) h fun a479 h => ml_iload_n dX10_found_9 1 rfl <| ml_dup2 dX10_found_10 rfl rfl <| ml_ck_of h fun hi480 h => ml_iald dX10_found_11 hi480 <| ml_iconst dX10_found_12 kc_i1 <| ml_iadd dX10_found_13 <| ml_ck_of h fun hi481 h => ml_iast dX10_found_14 hi481 <| ml_lt (m := m477) rfl h fun m482 em483 h => ml_bipush dX10_found_15 kc_bm3 <| ml_rI (mk := ml_i) hr dX10_found_17 (fun _ => trivial) h
theorem sX10_found {l0 : Nat} {l1 : Int32} {m : ml_M} {rv : Int32} {rm : ml_M} (h : fX10_found l0 l1 m = some (rv, rm)) : ml_Sn yX10_found cX10_found 2 (some .int) 2 [ml_r l0, ml_i l1] m (some (ml_i rv)) rm :=
  ml_Sn_of (P := True) (ini := false) (by decide +kernel) (Nat.le_of_ble_eq_true rfl) (fun h => by cases h) (fun _ => ml_RkI rv) fun E hL hr => wX10_found_0 hL hr _ _ _ h
theorem dX10_row_0 : ml_d cX10_row 0 (.iload_n 1) 1 1 := ⟨by decide +kernel, rfl⟩
theorem dX10_row_1 : ml_d cX10_row 1 (.invokestatic 82) 3 4 := ⟨by decide +kernel, rfl⟩
theorem dX10_row_4 : ml_j cX10_row 4 (.ifCond .eq) 13 7 := ⟨9, by decide +kernel, by decide, rfl⟩
theorem dX10_row_7 : ml_d cX10_row 7 (.iload_n 2) 1 8 := ⟨by decide +kernel, rfl⟩
theorem dX10_row_8 : ml_d cX10_row 8 (.bipush 48) 2 10 := ⟨by decide +kernel, rfl⟩
theorem dX10_row_10 : ml_j cX10_row 10 (.if_icmp .le) 15 13 := ⟨5, by decide +kernel, by decide, rfl⟩
theorem dX10_row_13 : ml_d cX10_row 13 (.iconst (-1)) 1 14 := ⟨by decide +kernel, rfl⟩
theorem dX10_row_14 : ml_d cX10_row 14 (.ireturn) 1 15 := ⟨by decide +kernel, rfl⟩
theorem dX10_row_15 : ml_d cX10_row 15 (.iload_n 2) 1 16 := ⟨by decide +kernel, rfl⟩
theorem dX10_row_16 : ml_j cX10_row 16 (.ifCond .ge) 25 19 := ⟨9, by decide +kernel, by decide, rfl⟩
theorem dX10_row_19 : ml_d cX10_row 19 (.aload_n 0) 1 20 := ⟨by decide +kernel, rfl⟩
theorem dX10_row_20 : ml_d cX10_row 20 (.iconst 5) 1 21 := ⟨by decide +kernel, rfl⟩
theorem dX10_row_21 : ml_d cX10_row 21 (.invokevirtual 86) 3 24 := ⟨by decide +kernel, rfl⟩
theorem dX10_row_24 : ml_d cX10_row 24 (.ireturn) 1 25 := ⟨by decide +kernel, rfl⟩
theorem dX10_row_25 : ml_d cX10_row 25 (.aload_n 0) 1 26 := ⟨by decide +kernel, rfl⟩
theorem dX10_row_26 : ml_d cX10_row 26 (.getfield 11) 3 29 := ⟨by decide +kernel, rfl⟩
theorem dX10_row_29 : ml_d cX10_row 29 (.iload_n 1) 1 30 := ⟨by decide +kernel, rfl⟩
theorem dX10_row_30 : ml_d cX10_row 30 (.iload_n 2) 1 31 := ⟨by decide +kernel, rfl⟩
theorem dX10_row_31 : ml_d cX10_row 31 (.newarray .int) 2 33 := ⟨by decide +kernel, rfl⟩
theorem dX10_row_33 : ml_d cX10_row 33 (.aastore) 1 34 := ⟨by decide +kernel, rfl⟩
theorem dX10_row_34 : ml_d cX10_row 34 (.iload_n 2) 1 35 := ⟨by decide +kernel, rfl⟩
theorem dX10_row_35 : ml_d cX10_row 35 (.ireturn) 1 36 := ⟨by decide +kernel, rfl⟩
def fX10_row (l0 : Nat) (l1 : Int32) (l2 : Int32) (m : ml_M) : Option (Int32 × ml_M) :=
ml_b1 (fX10_isRow l1 m) fun r485 =>
if r485 = 0 then
some ((-1 : Int32), m)
else
if l2 ≤ (48 : Int32) then
if 0 ≤ l2 then
if (ml_K m494 l0).1 = 10 then
ml_let (ml_R m l0 0) fun a487 =>
if ml_len l2 then
ml_let (ml_n m + 1) fun a489 =>
ml_let (ml_al m 20 l2.toNatClampNeg l2.toNatClampNeg) fun m490 =>
if ml_in m490 a487 23 l1 then
ml_let (ml_sR m490 a487 l1.toNatClampNeg a489) fun m494 =>
some (l2, m494)
else none
else none
else none
else
if (ml_K m499 l0).1 = 10 then
ml_b2 (fX10_found l0 (5 : Int32) m) fun r498 m499 =>
some (r498, m499)
else none
else
some ((-1 : Int32), m)
theorem wX10_row_0 {E : ml_E} (hL : ml_eL E = 3) {rv : Int32} {rm : ml_M} (hr : ∀ (pc pc' : Nat) (lv : List (Nat × ml_X)), ml_d cX10_row pc .ireturn 1 pc' → True → ml_V E "LostRoom" cX10_row 4 false rm pc lv [ml_i rv]) : ∀ (l0 : Nat) (l1 : Int32) (l2 : Int32) (m : ml_M), fX10_row l0 l1 l2 m = some (rv, rm) → ml_V E "LostRoom" cX10_row 4 false m 0 [(0, ml_r l0), (1, ml_i l1), (2, ml_i l2)] [] := by
  intro l0 l1 l2 m h
  exact ml_iload_n dX10_row_0 1 rfl <| ml_b1_of h fun r485 hv484 h => ml_callS dX10_row_1 wm_128 wb_97 (sX10_isRow hv484) rfl (Nat.le_of_ble_eq_true rfl) (Nat.le_of_ble_eq_true rfl) rfl <| ml_if_eq dX10_row_4 h (fun _ h => ml_iconst dX10_row_13 kc_im1 <| ml_rI (mk := ml_i) hr dX10_row_14 (fun _ => trivial) h) (fun _ h => ml_iload_n dX10_row_7 2 rfl <| ml_bipush dX10_row_8 kc_b48 <| ml_icmp_le dX10_row_10 h (fun _ h => ml_iload_n dX10_row_15 2 rfl <| ml_if_ge dX10_row_16 h (fun _ h => ml_aload_n dX10_row_25 0 rfl <| ml_ck_of h fun hc486 h => ml_getR dX10_row_26 wb_98 hc486 <| ml_lx (mk := ml_r) h fun a487 h => ml_iload_n dX10_row_29 1 rfl <| ml_iload_n dX10_row_30 2 rfl <| ml_ck_of h fun hl488 h => ml_newAs (kd := 20) dX10_row_31 wb_0 hl488 h fun a489 m490 hn491 hc492 h => ml_ck_of h fun hi493 h => ml_aastA dX10_row_33 (by decide) hi493 hc492 <| ml_lt (m := m490) rfl h fun m494 em495 h => ml_iload_n dX10_row_34 2 rfl <| ml_rI (mk := ml_i) hr dX10_row_35 (fun _ => trivial) h) (fun _ h => ml_aload_n dX10_row_19 0 rfl <| ml_iconst dX10_row_20 kc_i5 <| ml_ck_of h fun hc497 h => ml_b2_of h fun r498 m499 hv496 h => ml_callV dX10_row_21 wm_132 wb_99 hc497 (sX10_found hv496) rfl (Nat.le_of_ble_eq_true rfl) (Nat.le_of_ble_eq_true rfl) rfl <| ml_rI (mk := ml_i) hr dX10_row_24 (fun _ => trivial) h)) (fun _ h => ml_iconst dX10_row_13 kc_im1 <| ml_rI (mk := ml_i) hr dX10_row_14 (fun _ => trivial) h))
theorem sX10_row {l0 : Nat} {l1 : Int32} {l2 : Int32} {m : ml_M} {rv : Int32} {rm : ml_M} (h : fX10_row l0 l1 l2 m = some (rv, rm)) : ml_Sn yX10_row cX10_row 3 (some .int) 4 [ml_r l0, ml_i l1, ml_i l2] m (some (ml_i rv)) rm :=
  ml_Sn_of (P := True) (ini := false) (by decide +kernel) (Nat.le_of_ble_eq_true rfl) (fun h => by cases h) (fun _ => ml_RkI rv) fun E hL hr => wX10_row_0 hL hr _ _ _ _ h
theorem dX11_in_0 : ml_d cX11_in 0 (.iload_n 0) 1 1 := ⟨by decide +kernel, rfl⟩
theorem dX11_in_1 : ml_d cX11_in 1 (.iload_n 1) 1 2 := ⟨by decide +kernel, rfl⟩
theorem dX11_in_2 : ml_j cX11_in 2 (.if_icmp .lt) 14 5 := ⟨12, by decide +kernel, by decide, rfl⟩
theorem dX11_in_5 : ml_d cX11_in 5 (.iload_n 0) 1 6 := ⟨by decide +kernel, rfl⟩
theorem dX11_in_6 : ml_d cX11_in 6 (.iload_n 2) 1 7 := ⟨by decide +kernel, rfl⟩
theorem dX11_in_7 : ml_j cX11_in 7 (.if_icmp .gt) 14 10 := ⟨7, by decide +kernel, by decide, rfl⟩
theorem dX11_in_10 : ml_d cX11_in 10 (.iconst 1) 1 11 := ⟨by decide +kernel, rfl⟩
theorem dX11_in_11 : ml_j cX11_in 11 .goto 15 14 := ⟨4, by decide +kernel, by decide, rfl⟩
theorem dX11_in_14 : ml_d cX11_in 14 (.iconst 0) 1 15 := ⟨by decide +kernel, rfl⟩
theorem dX11_in_15 : ml_d cX11_in 15 (.ireturn) 1 16 := ⟨by decide +kernel, rfl⟩
def fX11_in (l0 : Int32) (l1 : Int32) (l2 : Int32) (m : ml_M) : Option Int32 :=
if l0 < l1 then
some (0 : Int32)
else
if l2 < l0 then
some (0 : Int32)
else
some (1 : Int32)
theorem wX11_in_0 {E : ml_E} (hL : ml_eL E = 3) {rv : Int32} {m : ml_M} (hr : ∀ (pc pc' : Nat) (lv : List (Nat × ml_X)), ml_d cX11_in pc .ireturn 1 pc' → (rv = 0 ∨ rv = 1) → ml_V E "LostRoomModel" cX11_in 2 false m pc lv [ml_i rv]) : ∀ (l0 : Int32) (l1 : Int32) (l2 : Int32), fX11_in l0 l1 l2 m = some rv → ml_V E "LostRoomModel" cX11_in 2 false m 0 [(0, ml_i l0), (1, ml_i l1), (2, ml_i l2)] [] := by
  intro l0 l1 l2 h
  exact ml_iload_n dX11_in_0 0 rfl <| ml_iload_n dX11_in_1 1 rfl <| ml_icmp_lt dX11_in_2 h (fun _ h => ml_iconst dX11_in_14 kc_i0 <| ml_rp (mk := ml_i) hr dX11_in_15 (fun e => Or.inl e.symm) h) (fun _ h => ml_iload_n dX11_in_5 0 rfl <| ml_iload_n dX11_in_6 2 rfl <| ml_icmp_gt dX11_in_7 h (fun _ h => ml_iconst dX11_in_14 kc_i0 <| ml_rp (mk := ml_i) hr dX11_in_15 (fun e => Or.inl e.symm) h) (fun _ h => ml_iconst dX11_in_10 kc_i1 <| ml_goto dX11_in_11 <| ml_rp (mk := ml_i) hr dX11_in_15 (fun e => Or.inr e.symm) h))
theorem sX11_in {l0 : Int32} {l1 : Int32} {l2 : Int32} {m : ml_M} {rv : Int32} (h : fX11_in l0 l1 l2 m = some rv) : ml_Sn yX11_in cX11_in 3 (some .boolean) 2 [ml_i l0, ml_i l1, ml_i l2] m (some (ml_i rv)) m :=
  ml_Sn_of (P := (rv = 0 ∨ rv = 1)) (ini := false) (by decide +kernel) (Nat.le_of_ble_eq_true rfl) (fun h => by cases h) (fun hz => ml_RkZ rv hz) fun E hL hr => wX11_in_0 hL hr _ _ _ h
theorem dX11_isRow_0 : ml_d cX11_isRow 0 (.iload_n 0) 1 1 := ⟨by decide +kernel, rfl⟩
theorem dX11_isRow_1 : ml_d cX11_isRow 1 (.iconst 0) 1 2 := ⟨by decide +kernel, rfl⟩
theorem dX11_isRow_2 : ml_d cX11_isRow 2 (.iconst 5) 1 3 := ⟨by decide +kernel, rfl⟩
theorem dX11_isRow_3 : ml_d cX11_isRow 3 (.invokestatic 100) 3 6 := ⟨by decide +kernel, rfl⟩
theorem dX11_isRow_6 : ml_d cX11_isRow 6 (.ireturn) 1 7 := ⟨by decide +kernel, rfl⟩
def fX11_isRow (l0 : Int32) (m : ml_M) : Option Int32 :=
ml_b1 (fX11_in l0 (0 : Int32) (5 : Int32) m) fun r501 =>
if r501 = 0 ∨ r501 = 1 then some r501 else none
theorem wX11_isRow_0 {E : ml_E} (hL : ml_eL E = 1) {rv : Int32} {m : ml_M} (hr : ∀ (pc pc' : Nat) (lv : List (Nat × ml_X)), ml_d cX11_isRow pc .ireturn 1 pc' → (rv = 0 ∨ rv = 1) → ml_V E "LostRoomModel" cX11_isRow 3 false m pc lv [ml_i rv]) : ∀ (l0 : Int32), fX11_isRow l0 m = some rv → ml_V E "LostRoomModel" cX11_isRow 3 false m 0 [(0, ml_i l0)] [] := by
  intro l0 h
  exact ml_iload_n dX11_isRow_0 0 rfl <| ml_iconst dX11_isRow_1 kc_i0 <| ml_iconst dX11_isRow_2 kc_i5 <| ml_b1_of h fun r501 hv500 h => ml_callS dX11_isRow_3 wm_136 wb_100 (sX11_in hv500) rfl (Nat.le_of_ble_eq_true rfl) (Nat.le_of_ble_eq_true rfl) rfl <| ml_ck_of h fun hz502 h => ml_rp (mk := ml_i) hr dX11_isRow_6 (fun e => e ▸ hz502) h
theorem sX11_isRow {l0 : Int32} {m : ml_M} {rv : Int32} (h : fX11_isRow l0 m = some rv) : ml_Sn yX11_isRow cX11_isRow 1 (some .boolean) 3 [ml_i l0] m (some (ml_i rv)) m :=
  ml_Sn_of (P := (rv = 0 ∨ rv = 1)) (ini := false) (by decide +kernel) (Nat.le_of_ble_eq_true rfl) (fun h => by cases h) (fun hz => ml_RkZ rv hz) fun E hL hr => wX11_isRow_0 hL hr _ h
theorem dX11_meets_0 : ml_d cX11_meets 0 (.aload_n 0) 1 1 := ⟨by decide +kernel, rfl⟩
theorem dX11_meets_1 : ml_d cX11_meets 1 (.iload_n 1) 1 2 := ⟨by decide +kernel, rfl⟩
theorem dX11_meets_2 : ml_d cX11_meets 2 (.putfield 97) 3 5 := ⟨by decide +kernel, rfl⟩
theorem dX11_meets_5 : ml_d cX11_meets 5 (.aload_n 0) 1 6 := ⟨by decide +kernel, rfl⟩
theorem dX11_meets_6 : ml_d cX11_meets 6 (.getfield 7) 3 9 := ⟨by decide +kernel, rfl⟩
theorem dX11_meets_9 : ml_d cX11_meets 9 (.iload_n 1) 1 10 := ⟨by decide +kernel, rfl⟩
theorem dX11_meets_10 : ml_d cX11_meets 10 (.dup2) 1 11 := ⟨by decide +kernel, rfl⟩
theorem dX11_meets_11 : ml_d cX11_meets 11 (.iaload) 1 12 := ⟨by decide +kernel, rfl⟩
theorem dX11_meets_12 : ml_d cX11_meets 12 (.iconst 1) 1 13 := ⟨by decide +kernel, rfl⟩
theorem dX11_meets_13 : ml_d cX11_meets 13 (.iadd) 1 14 := ⟨by decide +kernel, rfl⟩
theorem dX11_meets_14 : ml_d cX11_meets 14 (.iastore) 1 15 := ⟨by decide +kernel, rfl⟩
theorem dX11_meets_15 : ml_d cX11_meets 15 (.bipush (-3)) 2 17 := ⟨by decide +kernel, rfl⟩
theorem dX11_meets_17 : ml_d cX11_meets 17 (.ireturn) 1 18 := ⟨by decide +kernel, rfl⟩
def fX11_meets (l0 : Nat) (l1 : Int32) (m : ml_M) : Option (Int32 × ml_M) :=
if (ml_K m509 l0).1 = 11 then
ml_let (ml_sI m l0 0 l1) fun m504 =>
ml_let (ml_R m504 l0 1) fun a506 =>
if ml_in m504 a506 20 l1 then
if ml_in m504 a506 20 l1 then
ml_let (ml_sI m504 a506 l1.toNatClampNeg ((ml_I m504 a506 l1.toNatClampNeg) + (1 : Int32))) fun m509 =>
some ((-3 : Int32), m509)
else none
else none
else none
theorem wX11_meets_0 {E : ml_E} (hL : ml_eL E = 2) {rv : Int32} {rm : ml_M} (hr : ∀ (pc pc' : Nat) (lv : List (Nat × ml_X)), ml_d cX11_meets pc .ireturn 1 pc' → True → ml_V E "LostRoomModel" cX11_meets 2 false rm pc lv [ml_i rv]) : ∀ (l0 : Nat) (l1 : Int32) (m : ml_M), fX11_meets l0 l1 m = some (rv, rm) → ml_V E "LostRoomModel" cX11_meets 2 false m 0 [(0, ml_r l0), (1, ml_i l1)] [] := by
  intro l0 l1 m h
  exact ml_aload_n dX11_meets_0 0 rfl <| ml_iload_n dX11_meets_1 1 rfl <| ml_ck_of h fun hc503 h => ml_putI dX11_meets_2 wb_101 hc503 <| ml_lt (m := m) rfl h fun m504 em505 h => ml_aload_n dX11_meets_5 0 rfl <| ml_getR dX11_meets_6 wb_102 (ml_kk em505 hc503) <| ml_lx (mk := ml_r) h fun a506 h => ml_iload_n dX11_meets_9 1 rfl <| ml_dup2 dX11_meets_10 rfl rfl <| ml_ck_of h fun hi507 h => ml_iald dX11_meets_11 hi507 <| ml_iconst dX11_meets_12 kc_i1 <| ml_iadd dX11_meets_13 <| ml_ck_of h fun hi508 h => ml_iast dX11_meets_14 hi508 <| ml_lt (m := m504) rfl h fun m509 em510 h => ml_bipush dX11_meets_15 kc_bm3 <| ml_rI (mk := ml_i) hr dX11_meets_17 (fun _ => trivial) h
theorem sX11_meets {l0 : Nat} {l1 : Int32} {m : ml_M} {rv : Int32} {rm : ml_M} (h : fX11_meets l0 l1 m = some (rv, rm)) : ml_Sn yX11_meets cX11_meets 2 (some .int) 2 [ml_r l0, ml_i l1] m (some (ml_i rv)) rm :=
  ml_Sn_of (P := True) (ini := false) (by decide +kernel) (Nat.le_of_ble_eq_true rfl) (fun h => by cases h) (fun _ => ml_RkI rv) fun E hL hr => wX11_meets_0 hL hr _ _ _ h
theorem dX11_row_0 : ml_d cX11_row 0 (.iload_n 1) 1 1 := ⟨by decide +kernel, rfl⟩
theorem dX11_row_1 : ml_d cX11_row 1 (.invokestatic 111) 3 4 := ⟨by decide +kernel, rfl⟩
theorem dX11_row_4 : ml_j cX11_row 4 (.ifCond .eq) 13 7 := ⟨9, by decide +kernel, by decide, rfl⟩
theorem dX11_row_7 : ml_d cX11_row 7 (.iload_n 2) 1 8 := ⟨by decide +kernel, rfl⟩
theorem dX11_row_8 : ml_d cX11_row 8 (.bipush 48) 2 10 := ⟨by decide +kernel, rfl⟩
theorem dX11_row_10 : ml_j cX11_row 10 (.if_icmp .le) 15 13 := ⟨5, by decide +kernel, by decide, rfl⟩
theorem dX11_row_13 : ml_d cX11_row 13 (.iconst (-1)) 1 14 := ⟨by decide +kernel, rfl⟩
theorem dX11_row_14 : ml_d cX11_row 14 (.ireturn) 1 15 := ⟨by decide +kernel, rfl⟩
theorem dX11_row_15 : ml_d cX11_row 15 (.iload_n 2) 1 16 := ⟨by decide +kernel, rfl⟩
theorem dX11_row_16 : ml_j cX11_row 16 (.ifCond .ge) 25 19 := ⟨9, by decide +kernel, by decide, rfl⟩
theorem dX11_row_19 : ml_d cX11_row 19 (.aload_n 0) 1 20 := ⟨by decide +kernel, rfl⟩
theorem dX11_row_20 : ml_d cX11_row 20 (.iconst 5) 1 21 := ⟨by decide +kernel, rfl⟩
theorem dX11_row_21 : ml_d cX11_row 21 (.invokevirtual 115) 3 24 := ⟨by decide +kernel, rfl⟩
theorem dX11_row_24 : ml_d cX11_row 24 (.ireturn) 1 25 := ⟨by decide +kernel, rfl⟩
theorem dX11_row_25 : ml_d cX11_row 25 (.aload_n 0) 1 26 := ⟨by decide +kernel, rfl⟩
theorem dX11_row_26 : ml_d cX11_row 26 (.getfield 13) 3 29 := ⟨by decide +kernel, rfl⟩
theorem dX11_row_29 : ml_d cX11_row 29 (.iload_n 1) 1 30 := ⟨by decide +kernel, rfl⟩
theorem dX11_row_30 : ml_d cX11_row 30 (.iload_n 2) 1 31 := ⟨by decide +kernel, rfl⟩
theorem dX11_row_31 : ml_d cX11_row 31 (.iastore) 1 32 := ⟨by decide +kernel, rfl⟩
theorem dX11_row_32 : ml_d cX11_row 32 (.iconst 0) 1 33 := ⟨by decide +kernel, rfl⟩
theorem dX11_row_33 : ml_d cX11_row 33 (.istore_n 3) 1 34 := ⟨by decide +kernel, rfl⟩
theorem dX11_row_34 : ml_d cX11_row 34 (.iload_n 3) 1 35 := ⟨by decide +kernel, rfl⟩
theorem dX11_row_35 : ml_d cX11_row 35 (.bipush 48) 2 37 := ⟨by decide +kernel, rfl⟩
theorem dX11_row_37 : ml_j cX11_row 37 (.if_icmp .ge) 58 40 := ⟨21, by decide +kernel, by decide, rfl⟩
theorem dX11_row_40 : ml_d cX11_row 40 (.aload_n 0) 1 41 := ⟨by decide +kernel, rfl⟩
theorem dX11_row_41 : ml_d cX11_row 41 (.getfield 16) 3 44 := ⟨by decide +kernel, rfl⟩
theorem dX11_row_44 : ml_d cX11_row 44 (.bipush 48) 2 46 := ⟨by decide +kernel, rfl⟩
theorem dX11_row_46 : ml_d cX11_row 46 (.iload_n 1) 1 47 := ⟨by decide +kernel, rfl⟩
theorem dX11_row_47 : ml_d cX11_row 47 (.imul) 1 48 := ⟨by decide +kernel, rfl⟩
theorem dX11_row_48 : ml_d cX11_row 48 (.iload_n 3) 1 49 := ⟨by decide +kernel, rfl⟩
theorem dX11_row_49 : ml_d cX11_row 49 (.iadd) 1 50 := ⟨by decide +kernel, rfl⟩
theorem dX11_row_50 : ml_d cX11_row 50 (.iconst 0) 1 51 := ⟨by decide +kernel, rfl⟩
theorem dX11_row_51 : ml_d cX11_row 51 (.iastore) 1 52 := ⟨by decide +kernel, rfl⟩
theorem dX11_row_52 : ml_d cX11_row 52 (.iinc 3 1) 3 55 := ⟨by decide +kernel, rfl⟩
theorem dX11_row_55 : ml_j cX11_row 55 .goto 34 58 := ⟨(-21), by decide +kernel, by decide, rfl⟩
theorem dX11_row_58 : ml_d cX11_row 58 (.iload_n 2) 1 59 := ⟨by decide +kernel, rfl⟩
theorem dX11_row_59 : ml_d cX11_row 59 (.ireturn) 1 60 := ⟨by decide +kernel, rfl⟩
def fX11_row_34 : Nat → Nat → Int32 → Int32 → Int32 → ml_M → Option (Int32 × ml_M)
  | 0, _, _, _, _, _ => none
  | fu + 1, l0, l1, l2, l3, m =>
if (48 : Int32) ≤ l3 then
some (l2, m)
else
if (ml_K m514 l0).1 = 11 then
ml_let (ml_R m l0 5) fun a512 =>
if ml_in m a512 20 (((48 : Int32) * l1) + l3) then
ml_let (ml_sI m a512 (((48 : Int32) * l1) + l3).toNatClampNeg (0 : Int32)) fun m514 =>
(fX11_row_34 fu) l0 l1 l2 (l3 + (1 : Int32)) m514
else none
else none
theorem vX11_row_34 {E : ml_E} (hL : ml_eL E = 4) {rv : Int32} {rm : ml_M} (hr : ∀ (pc pc' : Nat) (lv : List (Nat × ml_X)), ml_d cX11_row pc .ireturn 1 pc' → True → ml_V E "LostRoomModel" cX11_row 4 false rm pc lv [ml_i rv]) : ∀ (fu : Nat) (l0 : Nat) (l1 : Int32) (l2 : Int32) (l3 : Int32) (m : ml_M), fX11_row_34 fu l0 l1 l2 l3 m = some (rv, rm) → ml_V E "LostRoomModel" cX11_row 4 false m 34 [(0, ml_r l0), (1, ml_i l1), (2, ml_i l2), (3, ml_i l3)] [] := by
  intro fu
  induction fu with
  | zero => intro l0 l1 l2 l3 m h; exact ml_none h
  | succ fu ih =>
    intro l0 l1 l2 l3 m h
    have hk34 := ih
    exact ml_iload_n dX11_row_34 3 rfl <| ml_bipush dX11_row_35 kc_b48 <| ml_icmp_ge dX11_row_37 h (fun _ h => ml_iload_n dX11_row_58 2 rfl <| ml_rI (mk := ml_i) hr dX11_row_59 (fun _ => trivial) h) (fun _ h => ml_aload_n dX11_row_40 0 rfl <| ml_ck_of h fun hc511 h => ml_getR dX11_row_41 wb_103 hc511 <| ml_lx (mk := ml_r) h fun a512 h => ml_bipush dX11_row_44 kc_b48 <| ml_iload_n dX11_row_46 1 rfl <| ml_imul dX11_row_47 <| ml_iload_n dX11_row_48 3 rfl <| ml_iadd dX11_row_49 <| ml_iconst dX11_row_50 kc_i0 <| ml_ck_of h fun hi513 h => ml_iast dX11_row_51 hi513 <| ml_lt (m := m) rfl h fun m514 em515 h => ml_iinc (lv' := [(3, ml_i (l3 + (1 : Int32))), (0, ml_r l0), (1, ml_i l1), (2, ml_i l2)]) dX11_row_52 3 rfl (congrArg (l3 + ·) kc_i1) (hL ▸ (Nat.le_of_ble_eq_true rfl)) rfl <| ml_goto dX11_row_55 <| ml_V.sub [1, 2, 3, 0] rfl (hk34 _ _ _ _ _ h))
def fX11_row (l0 : Nat) (l1 : Int32) (l2 : Int32) (m : ml_M) : Option (Int32 × ml_M) :=
ml_b1 (fX11_isRow l1 m) fun r517 =>
if r517 = 0 then
some ((-1 : Int32), m)
else
if l2 ≤ (48 : Int32) then
if 0 ≤ l2 then
if (ml_K m521 l0).1 = 11 then
ml_let (ml_R m l0 4) fun a519 =>
if ml_in m a519 20 l1 then
ml_let (ml_sI m a519 l1.toNatClampNeg l2) fun m521 =>
fX11_row_34 ml_fu l0 l1 l2 (0 : Int32) m521
else none
else none
else
if (ml_K m526 l0).1 = 11 then
ml_b2 (fX11_meets l0 (5 : Int32) m) fun r525 m526 =>
some (r525, m526)
else none
else
some ((-1 : Int32), m)
theorem wX11_row_0 {E : ml_E} (hL : ml_eL E = 4) {rv : Int32} {rm : ml_M} (hr : ∀ (pc pc' : Nat) (lv : List (Nat × ml_X)), ml_d cX11_row pc .ireturn 1 pc' → True → ml_V E "LostRoomModel" cX11_row 4 false rm pc lv [ml_i rv]) : ∀ (l0 : Nat) (l1 : Int32) (l2 : Int32) (m : ml_M), fX11_row l0 l1 l2 m = some (rv, rm) → ml_V E "LostRoomModel" cX11_row 4 false m 0 [(0, ml_r l0), (1, ml_i l1), (2, ml_i l2)] [] := by
  intro l0 l1 l2 m h
  exact ml_iload_n dX11_row_0 1 rfl <| ml_b1_of h fun r517 hv516 h => ml_callS dX11_row_1 wm_140 wb_104 (sX11_isRow hv516) rfl (Nat.le_of_ble_eq_true rfl) (Nat.le_of_ble_eq_true rfl) rfl <| ml_if_eq dX11_row_4 h (fun _ h => ml_iconst dX11_row_13 kc_im1 <| ml_rI (mk := ml_i) hr dX11_row_14 (fun _ => trivial) h) (fun _ h => ml_iload_n dX11_row_7 2 rfl <| ml_bipush dX11_row_8 kc_b48 <| ml_icmp_le dX11_row_10 h (fun _ h => ml_iload_n dX11_row_15 2 rfl <| ml_if_ge dX11_row_16 h (fun _ h => ml_aload_n dX11_row_25 0 rfl <| ml_ck_of h fun hc518 h => ml_getR dX11_row_26 wb_64 hc518 <| ml_lx (mk := ml_r) h fun a519 h => ml_iload_n dX11_row_29 1 rfl <| ml_iload_n dX11_row_30 2 rfl <| ml_ck_of h fun hi520 h => ml_iast dX11_row_31 hi520 <| ml_lt (m := m) rfl h fun m521 em522 h => ml_iconst dX11_row_32 kc_i0 <| ml_istore_n (lv' := [(3, ml_i (0 : Int32)), (0, ml_r l0), (1, ml_i l1), (2, ml_i l2)]) dX11_row_33 (hL ▸ (Nat.le_of_ble_eq_true rfl)) rfl <| ml_V.sub [1, 2, 3, 0] rfl (vX11_row_34 hL hr  ml_fu _ _ _ _ _ h)) (fun _ h => ml_aload_n dX11_row_19 0 rfl <| ml_iconst dX11_row_20 kc_i5 <| ml_ck_of h fun hc524 h => ml_b2_of h fun r525 m526 hv523 h => ml_callV dX11_row_21 wm_144 wb_105 hc524 (sX11_meets hv523) rfl (Nat.le_of_ble_eq_true rfl) (Nat.le_of_ble_eq_true rfl) rfl <| ml_rI (mk := ml_i) hr dX11_row_24 (fun _ => trivial) h)) (fun _ h => ml_iconst dX11_row_13 kc_im1 <| ml_rI (mk := ml_i) hr dX11_row_14 (fun _ => trivial) h))
theorem sX11_row {l0 : Nat} {l1 : Int32} {l2 : Int32} {m : ml_M} {rv : Int32} {rm : ml_M} (h : fX11_row l0 l1 l2 m = some (rv, rm)) : ml_Sn yX11_row cX11_row 4 (some .int) 4 [ml_r l0, ml_i l1, ml_i l2] m (some (ml_i rv)) rm :=
  ml_Sn_of (P := True) (ini := false) (by decide +kernel) (Nat.le_of_ble_eq_true rfl) (fun h => by cases h) (fun _ => ml_RkI rv) fun E hL hr => wX11_row_0 hL hr _ _ _ _ h
theorem dX10_tell_0 : ml_d cX10_tell 0 (.aload_n 0) 1 1 := ⟨by decide +kernel, rfl⟩
theorem dX10_tell_1 : ml_d cX10_tell 1 (.iload_n 1) 1 2 := ⟨by decide +kernel, rfl⟩
theorem dX10_tell_2 : ml_d cX10_tell 2 (.putfield 203) 3 5 := ⟨by decide +kernel, rfl⟩
theorem dX10_tell_5 : ml_d cX10_tell 5 (.iconst 1) 1 6 := ⟨by decide +kernel, rfl⟩
theorem dX10_tell_6 : ml_d cX10_tell 6 (.ireturn) 1 7 := ⟨by decide +kernel, rfl⟩
def fX10_tell (l0 : Nat) (l1 : Int32) (m : ml_M) : Option (Int32 × ml_M) :=
if (ml_K m528 l0).1 = 10 then
ml_let (ml_sI m l0 15 l1) fun m528 =>
some ((1 : Int32), m528)
else none
theorem wX10_tell_0 {E : ml_E} (hL : ml_eL E = 2) {rv : Int32} {rm : ml_M} (hr : ∀ (pc pc' : Nat) (lv : List (Nat × ml_X)), ml_d cX10_tell pc .ireturn 1 pc' → True → ml_V E "LostRoom" cX10_tell 2 false rm pc lv [ml_i rv]) : ∀ (l0 : Nat) (l1 : Int32) (m : ml_M), fX10_tell l0 l1 m = some (rv, rm) → ml_V E "LostRoom" cX10_tell 2 false m 0 [(0, ml_r l0), (1, ml_i l1)] [] := by
  intro l0 l1 m h
  exact ml_aload_n dX10_tell_0 0 rfl <| ml_iload_n dX10_tell_1 1 rfl <| ml_ck_of h fun hc527 h => ml_putI dX10_tell_2 wb_106 hc527 <| ml_lt (m := m) rfl h fun m528 em529 h => ml_iconst dX10_tell_5 kc_i1 <| ml_rI (mk := ml_i) hr dX10_tell_6 (fun _ => trivial) h
theorem sX10_tell {l0 : Nat} {l1 : Int32} {m : ml_M} {rv : Int32} {rm : ml_M} (h : fX10_tell l0 l1 m = some (rv, rm)) : ml_Sn yX10_tell cX10_tell 2 (some .int) 2 [ml_r l0, ml_i l1] m (some (ml_i rv)) rm :=
  ml_Sn_of (P := True) (ini := false) (by decide +kernel) (Nat.le_of_ble_eq_true rfl) (fun h => by cases h) (fun _ => ml_RkI rv) fun E hL hr => wX10_tell_0 hL hr _ _ _ h
theorem dX10_lay_0 : ml_d cX10_lay 0 (.iload_n 1) 1 1 := ⟨by decide +kernel, rfl⟩
theorem dX10_lay_1 : ml_d cX10_lay 1 (.invokestatic 82) 3 4 := ⟨by decide +kernel, rfl⟩
theorem dX10_lay_4 : ml_j cX10_lay 4 (.ifCond .ne) 9 7 := ⟨5, by decide +kernel, by decide, rfl⟩
theorem dX10_lay_7 : ml_d cX10_lay 7 (.iconst (-1)) 1 8 := ⟨by decide +kernel, rfl⟩
theorem dX10_lay_8 : ml_d cX10_lay 8 (.ireturn) 1 9 := ⟨by decide +kernel, rfl⟩
theorem dX10_lay_9 : ml_d cX10_lay 9 (.aload_n 0) 1 10 := ⟨by decide +kernel, rfl⟩
theorem dX10_lay_10 : ml_d cX10_lay 10 (.getfield 11) 3 13 := ⟨by decide +kernel, rfl⟩
theorem dX10_lay_13 : ml_d cX10_lay 13 (.iload_n 1) 1 14 := ⟨by decide +kernel, rfl⟩
theorem dX10_lay_14 : ml_d cX10_lay 14 (.aaload) 1 15 := ⟨by decide +kernel, rfl⟩
theorem dX10_lay_15 : ml_d cX10_lay 15 (.astore 4) 2 17 := ⟨by decide +kernel, rfl⟩
theorem dX10_lay_17 : ml_d cX10_lay 17 (.aload 4) 2 19 := ⟨by decide +kernel, rfl⟩
theorem dX10_lay_19 : ml_j cX10_lay 19 .ifnonnull 28 22 := ⟨9, by decide +kernel, by decide, rfl⟩
theorem dX10_lay_22 : ml_d cX10_lay 22 (.aload_n 0) 1 23 := ⟨by decide +kernel, rfl⟩
theorem dX10_lay_23 : ml_d cX10_lay 23 (.iconst 1) 1 24 := ⟨by decide +kernel, rfl⟩
theorem dX10_lay_24 : ml_d cX10_lay 24 (.invokevirtual 86) 3 27 := ⟨by decide +kernel, rfl⟩
theorem dX10_lay_27 : ml_d cX10_lay 27 (.ireturn) 1 28 := ⟨by decide +kernel, rfl⟩
theorem dX10_lay_28 : ml_d cX10_lay 28 (.iload_n 2) 1 29 := ⟨by decide +kernel, rfl⟩
theorem dX10_lay_29 : ml_j cX10_lay 29 (.ifCond .lt) 39 32 := ⟨10, by decide +kernel, by decide, rfl⟩
theorem dX10_lay_32 : ml_d cX10_lay 32 (.iload_n 2) 1 33 := ⟨by decide +kernel, rfl⟩
theorem dX10_lay_33 : ml_d cX10_lay 33 (.aload 4) 2 35 := ⟨by decide +kernel, rfl⟩
theorem dX10_lay_35 : ml_d cX10_lay 35 (.arraylength) 1 36 := ⟨by decide +kernel, rfl⟩
theorem dX10_lay_36 : ml_j cX10_lay 36 (.if_icmp .lt) 45 39 := ⟨9, by decide +kernel, by decide, rfl⟩
theorem dX10_lay_39 : ml_d cX10_lay 39 (.aload_n 0) 1 40 := ⟨by decide +kernel, rfl⟩
theorem dX10_lay_40 : ml_d cX10_lay 40 (.iconst 2) 1 41 := ⟨by decide +kernel, rfl⟩
theorem dX10_lay_41 : ml_d cX10_lay 41 (.invokevirtual 86) 3 44 := ⟨by decide +kernel, rfl⟩
theorem dX10_lay_44 : ml_d cX10_lay 44 (.ireturn) 1 45 := ⟨by decide +kernel, rfl⟩
theorem dX10_lay_45 : ml_d cX10_lay 45 (.aload 4) 2 47 := ⟨by decide +kernel, rfl⟩
theorem dX10_lay_47 : ml_d cX10_lay 47 (.iload_n 2) 1 48 := ⟨by decide +kernel, rfl⟩
theorem dX10_lay_48 : ml_d cX10_lay 48 (.iaload) 1 49 := ⟨by decide +kernel, rfl⟩
theorem dX10_lay_49 : ml_d cX10_lay 49 (.istore 5) 2 51 := ⟨by decide +kernel, rfl⟩
theorem dX10_lay_51 : ml_d cX10_lay 51 (.aload 4) 2 53 := ⟨by decide +kernel, rfl⟩
theorem dX10_lay_53 : ml_d cX10_lay 53 (.iload_n 2) 1 54 := ⟨by decide +kernel, rfl⟩
theorem dX10_lay_54 : ml_d cX10_lay 54 (.iload_n 3) 1 55 := ⟨by decide +kernel, rfl⟩
theorem dX10_lay_55 : ml_d cX10_lay 55 (.iastore) 1 56 := ⟨by decide +kernel, rfl⟩
theorem dX10_lay_56 : ml_d cX10_lay 56 (.aload_n 0) 1 57 := ⟨by decide +kernel, rfl⟩
theorem dX10_lay_57 : ml_d cX10_lay 57 (.iload 5) 2 59 := ⟨by decide +kernel, rfl⟩
theorem dX10_lay_59 : ml_d cX10_lay 59 (.invokevirtual 90) 3 62 := ⟨by decide +kernel, rfl⟩
theorem dX10_lay_62 : ml_d cX10_lay 62 (.ireturn) 1 63 := ⟨by decide +kernel, rfl⟩
def fX10_lay_39 (l0 : Nat) (m : ml_M) : Option (Int32 × ml_M) :=
if (ml_K m533 l0).1 = 10 then
ml_b2 (fX10_found l0 (2 : Int32) m) fun r532 m533 =>
some (r532, m533)
else none
theorem vX10_lay_39 {E : ml_E} (hL : ml_eL E = 6) {rv : Int32} {rm : ml_M} (hr : ∀ (pc pc' : Nat) (lv : List (Nat × ml_X)), ml_d cX10_lay pc .ireturn 1 pc' → True → ml_V E "LostRoom" cX10_lay 4 false rm pc lv [ml_i rv]) : ∀ (l0 : Nat) (m : ml_M), fX10_lay_39 l0 m = some (rv, rm) → ml_V E "LostRoom" cX10_lay 4 false m 39 [(0, ml_r l0)] [] := by
  intro l0 m h
  exact ml_aload_n dX10_lay_39 0 rfl <| ml_iconst dX10_lay_40 kc_i2 <| ml_ck_of h fun hc531 h => ml_b2_of h fun r532 m533 hv530 h => ml_callV dX10_lay_41 wm_132 wb_99 hc531 (sX10_found hv530) rfl (Nat.le_of_ble_eq_true rfl) (Nat.le_of_ble_eq_true rfl) rfl <| ml_rI (mk := ml_i) hr dX10_lay_44 (fun _ => trivial) h
def fX10_lay (l0 : Nat) (l1 : Int32) (l2 : Int32) (l3 : Int32) (m : ml_M) : Option (Int32 × ml_M) :=
ml_b1 (fX10_isRow l1 m) fun r535 =>
if r535 = 0 then
some ((-1 : Int32), m)
else
if (ml_K m l0).1 = 10 then
ml_let (ml_R m l0 0) fun a537 =>
if ml_in m a537 23 l1 then
ml_let (ml_R m a537 l1.toNatClampNeg) fun a539 =>
if a539 = 0 then
ml_b2 (fX10_found l0 (1 : Int32) m) fun r550 m551 =>
some (r550, m551)
else
if l2 < 0 then
fX10_lay_39 l0 m
else
if (ml_K m548 a539).1 = 20 then
if l2 < (Int32.ofNat (ml_K m a539).2) then
if ml_in m a539 20 l2 then
ml_let (ml_I m a539 l2.toNatClampNeg) fun x542 =>
if ml_in m a539 20 l2 then
ml_let (ml_sI m a539 l2.toNatClampNeg l3) fun m544 =>
ml_b2 (fX10_tell l0 x542 m544) fun r547 m548 =>
some (r547, m548)
else none
else none
else
fX10_lay_39 l0 m
else none
else none
else none
theorem wX10_lay_0 {E : ml_E} (hL : ml_eL E = 6) {rv : Int32} {rm : ml_M} (hr : ∀ (pc pc' : Nat) (lv : List (Nat × ml_X)), ml_d cX10_lay pc .ireturn 1 pc' → True → ml_V E "LostRoom" cX10_lay 4 false rm pc lv [ml_i rv]) : ∀ (l0 : Nat) (l1 : Int32) (l2 : Int32) (l3 : Int32) (m : ml_M), fX10_lay l0 l1 l2 l3 m = some (rv, rm) → ml_V E "LostRoom" cX10_lay 4 false m 0 [(0, ml_r l0), (1, ml_i l1), (2, ml_i l2), (3, ml_i l3)] [] := by
  intro l0 l1 l2 l3 m h
  exact ml_iload_n dX10_lay_0 1 rfl <| ml_b1_of h fun r535 hv534 h => ml_callS dX10_lay_1 wm_128 wb_97 (sX10_isRow hv534) rfl (Nat.le_of_ble_eq_true rfl) (Nat.le_of_ble_eq_true rfl) rfl <| ml_if_ne dX10_lay_4 h (fun _ h => ml_aload_n dX10_lay_9 0 rfl <| ml_ck_of h fun hc536 h => ml_getR dX10_lay_10 wb_98 hc536 <| ml_lx (mk := ml_r) h fun a537 h => ml_iload_n dX10_lay_13 1 rfl <| ml_ck_of h fun hi538 h => ml_aald dX10_lay_14 (by decide) hi538 <| ml_lx (mk := ml_r) h fun a539 h => ml_astore (lv' := [(4, ml_r a539), (0, ml_r l0), (1, ml_i l1), (2, ml_i l2), (3, ml_i l3)]) dX10_lay_15 (hL ▸ (Nat.le_of_ble_eq_true rfl)) rfl <| ml_aload dX10_lay_17 0 rfl <| ml_ifnonnull dX10_lay_19 h (fun _ h => ml_iload_n dX10_lay_28 3 rfl <| ml_if_lt dX10_lay_29 h (fun _ h => ml_V.sub [1] rfl (vX10_lay_39 hL hr  _ _ h)) (fun _ h => ml_iload_n dX10_lay_32 3 rfl <| ml_aload dX10_lay_33 0 rfl <| ml_ck_of h fun hc540 h => ml_alen dX10_lay_35 (by decide) hc540 <| ml_icmp_lt dX10_lay_36 h (fun _ h => ml_aload dX10_lay_45 0 rfl <| ml_iload_n dX10_lay_47 3 rfl <| ml_ck_of h fun hi541 h => ml_iald dX10_lay_48 hi541 <| ml_lx (mk := ml_i) h fun x542 h => ml_istore (lv' := [(5, ml_i x542), (4, ml_r a539), (0, ml_r l0), (1, ml_i l1), (2, ml_i l2), (3, ml_i l3)]) dX10_lay_49 (hL ▸ (Nat.le_of_ble_eq_true rfl)) rfl <| ml_aload dX10_lay_51 1 rfl <| ml_iload_n dX10_lay_53 4 rfl <| ml_iload_n dX10_lay_54 5 rfl <| ml_ck_of h fun hi543 h => ml_iast dX10_lay_55 hi543 <| ml_lt (m := m) rfl h fun m544 em545 h => ml_aload_n dX10_lay_56 2 rfl <| ml_iload dX10_lay_57 0 rfl <| ml_b2_of h fun r547 m548 hv546 h => ml_callV dX10_lay_59 wm_149 wb_107 (ml_kk em545 hc536) (sX10_tell hv546) rfl (Nat.le_of_ble_eq_true rfl) (Nat.le_of_ble_eq_true rfl) rfl <| ml_rI (mk := ml_i) hr dX10_lay_62 (fun _ => trivial) h) (fun _ h => ml_V.sub [1] rfl (vX10_lay_39 hL hr  _ _ h)))) (fun _ h => ml_aload_n dX10_lay_22 1 rfl <| ml_iconst dX10_lay_23 kc_i1 <| ml_b2_of h fun r550 m551 hv549 h => ml_callV dX10_lay_24 wm_132 wb_99 hc536 (sX10_found hv549) rfl (Nat.le_of_ble_eq_true rfl) (Nat.le_of_ble_eq_true rfl) rfl <| ml_rI (mk := ml_i) hr dX10_lay_27 (fun _ => trivial) h)) (fun _ h => ml_iconst dX10_lay_7 kc_im1 <| ml_rI (mk := ml_i) hr dX10_lay_8 (fun _ => trivial) h)
theorem sX10_lay {l0 : Nat} {l1 : Int32} {l2 : Int32} {l3 : Int32} {m : ml_M} {rv : Int32} {rm : ml_M} (h : fX10_lay l0 l1 l2 l3 m = some (rv, rm)) : ml_Sn yX10_lay cX10_lay 6 (some .int) 4 [ml_r l0, ml_i l1, ml_i l2, ml_i l3] m (some (ml_i rv)) rm :=
  ml_Sn_of (P := True) (ini := false) (by decide +kernel) (Nat.le_of_ble_eq_true rfl) (fun h => by cases h) (fun _ => ml_RkI rv) fun E hL hr => wX10_lay_0 hL hr _ _ _ _ _ h
theorem dX11_rowAt_0 : ml_d cX11_rowAt 0 (.aload_n 0) 1 1 := ⟨by decide +kernel, rfl⟩
theorem dX11_rowAt_1 : ml_d cX11_rowAt 1 (.getfield 16) 3 4 := ⟨by decide +kernel, rfl⟩
theorem dX11_rowAt_4 : ml_d cX11_rowAt 4 (.bipush 48) 2 6 := ⟨by decide +kernel, rfl⟩
theorem dX11_rowAt_6 : ml_d cX11_rowAt 6 (.iload_n 1) 1 7 := ⟨by decide +kernel, rfl⟩
theorem dX11_rowAt_7 : ml_d cX11_rowAt 7 (.imul) 1 8 := ⟨by decide +kernel, rfl⟩
theorem dX11_rowAt_8 : ml_d cX11_rowAt 8 (.iload_n 2) 1 9 := ⟨by decide +kernel, rfl⟩
theorem dX11_rowAt_9 : ml_d cX11_rowAt 9 (.iadd) 1 10 := ⟨by decide +kernel, rfl⟩
theorem dX11_rowAt_10 : ml_d cX11_rowAt 10 (.iaload) 1 11 := ⟨by decide +kernel, rfl⟩
theorem dX11_rowAt_11 : ml_d cX11_rowAt 11 (.ireturn) 1 12 := ⟨by decide +kernel, rfl⟩
def fX11_rowAt (l0 : Nat) (l1 : Int32) (l2 : Int32) (m : ml_M) : Option Int32 :=
if (ml_K m l0).1 = 11 then
ml_let (ml_R m l0 5) fun a553 =>
if ml_in m a553 20 (((48 : Int32) * l1) + l2) then
some (ml_I m a553 (((48 : Int32) * l1) + l2).toNatClampNeg)
else none
else none
theorem wX11_rowAt_0 {E : ml_E} (hL : ml_eL E = 3) {rv : Int32} {m : ml_M} (hr : ∀ (pc pc' : Nat) (lv : List (Nat × ml_X)), ml_d cX11_rowAt pc .ireturn 1 pc' → True → ml_V E "LostRoomModel" cX11_rowAt 2 false m pc lv [ml_i rv]) : ∀ (l0 : Nat) (l1 : Int32) (l2 : Int32), fX11_rowAt l0 l1 l2 m = some rv → ml_V E "LostRoomModel" cX11_rowAt 2 false m 0 [(0, ml_r l0), (1, ml_i l1), (2, ml_i l2)] [] := by
  intro l0 l1 l2 h
  exact ml_aload_n dX11_rowAt_0 0 rfl <| ml_ck_of h fun hc552 h => ml_getR dX11_rowAt_1 wb_103 hc552 <| ml_lx (mk := ml_r) h fun a553 h => ml_bipush dX11_rowAt_4 kc_b48 <| ml_iload_n dX11_rowAt_6 1 rfl <| ml_imul dX11_rowAt_7 <| ml_iload_n dX11_rowAt_8 2 rfl <| ml_iadd dX11_rowAt_9 <| ml_ck_of h fun hi554 h => ml_iald dX11_rowAt_10 hi554 <| ml_rp (mk := ml_i) hr dX11_rowAt_11 (fun _ => trivial) h
theorem sX11_rowAt {l0 : Nat} {l1 : Int32} {l2 : Int32} {m : ml_M} {rv : Int32} (h : fX11_rowAt l0 l1 l2 m = some rv) : ml_Sn yX11_rowAt cX11_rowAt 3 (some .int) 2 [ml_r l0, ml_i l1, ml_i l2] m (some (ml_i rv)) m :=
  ml_Sn_of (P := True) (ini := false) (by decide +kernel) (Nat.le_of_ble_eq_true rfl) (fun h => by cases h) (fun _ => ml_RkI rv) fun E hL hr => wX11_rowAt_0 hL hr _ _ _ h
theorem dX11_tells_0 : ml_d cX11_tells 0 (.aload_n 0) 1 1 := ⟨by decide +kernel, rfl⟩
theorem dX11_tells_1 : ml_d cX11_tells 1 (.iload_n 1) 1 2 := ⟨by decide +kernel, rfl⟩
theorem dX11_tells_2 : ml_d cX11_tells 2 (.putfield 104) 3 5 := ⟨by decide +kernel, rfl⟩
theorem dX11_tells_5 : ml_d cX11_tells 5 (.iload_n 2) 1 6 := ⟨by decide +kernel, rfl⟩
theorem dX11_tells_6 : ml_d cX11_tells 6 (.ireturn) 1 7 := ⟨by decide +kernel, rfl⟩
def fX11_tells (l0 : Nat) (l1 : Int32) (l2 : Int32) (m : ml_M) : Option (Int32 × ml_M) :=
if (ml_K m556 l0).1 = 11 then
ml_let (ml_sI m l0 2 l1) fun m556 =>
some (l2, m556)
else none
theorem wX11_tells_0 {E : ml_E} (hL : ml_eL E = 3) {rv : Int32} {rm : ml_M} (hr : ∀ (pc pc' : Nat) (lv : List (Nat × ml_X)), ml_d cX11_tells pc .ireturn 1 pc' → True → ml_V E "LostRoomModel" cX11_tells 2 false rm pc lv [ml_i rv]) : ∀ (l0 : Nat) (l1 : Int32) (l2 : Int32) (m : ml_M), fX11_tells l0 l1 l2 m = some (rv, rm) → ml_V E "LostRoomModel" cX11_tells 2 false m 0 [(0, ml_r l0), (1, ml_i l1), (2, ml_i l2)] [] := by
  intro l0 l1 l2 m h
  exact ml_aload_n dX11_tells_0 0 rfl <| ml_iload_n dX11_tells_1 1 rfl <| ml_ck_of h fun hc555 h => ml_putI dX11_tells_2 wb_108 hc555 <| ml_lt (m := m) rfl h fun m556 em557 h => ml_iload_n dX11_tells_5 2 rfl <| ml_rI (mk := ml_i) hr dX11_tells_6 (fun _ => trivial) h
theorem sX11_tells {l0 : Nat} {l1 : Int32} {l2 : Int32} {m : ml_M} {rv : Int32} {rm : ml_M} (h : fX11_tells l0 l1 l2 m = some (rv, rm)) : ml_Sn yX11_tells cX11_tells 3 (some .int) 2 [ml_r l0, ml_i l1, ml_i l2] m (some (ml_i rv)) rm :=
  ml_Sn_of (P := True) (ini := false) (by decide +kernel) (Nat.le_of_ble_eq_true rfl) (fun h => by cases h) (fun _ => ml_RkI rv) fun E hL hr => wX11_tells_0 hL hr _ _ _ _ h
theorem dX11_lay_0 : ml_d cX11_lay 0 (.iload_n 1) 1 1 := ⟨by decide +kernel, rfl⟩
theorem dX11_lay_1 : ml_d cX11_lay 1 (.invokestatic 111) 3 4 := ⟨by decide +kernel, rfl⟩
theorem dX11_lay_4 : ml_j cX11_lay 4 (.ifCond .ne) 9 7 := ⟨5, by decide +kernel, by decide, rfl⟩
theorem dX11_lay_7 : ml_d cX11_lay 7 (.iconst (-1)) 1 8 := ⟨by decide +kernel, rfl⟩
theorem dX11_lay_8 : ml_d cX11_lay 8 (.ireturn) 1 9 := ⟨by decide +kernel, rfl⟩
theorem dX11_lay_9 : ml_d cX11_lay 9 (.aload_n 0) 1 10 := ⟨by decide +kernel, rfl⟩
theorem dX11_lay_10 : ml_d cX11_lay 10 (.getfield 13) 3 13 := ⟨by decide +kernel, rfl⟩
theorem dX11_lay_13 : ml_d cX11_lay 13 (.iload_n 1) 1 14 := ⟨by decide +kernel, rfl⟩
theorem dX11_lay_14 : ml_d cX11_lay 14 (.iaload) 1 15 := ⟨by decide +kernel, rfl⟩
theorem dX11_lay_15 : ml_j cX11_lay 15 (.ifCond .ge) 24 18 := ⟨9, by decide +kernel, by decide, rfl⟩
theorem dX11_lay_18 : ml_d cX11_lay 18 (.aload_n 0) 1 19 := ⟨by decide +kernel, rfl⟩
theorem dX11_lay_19 : ml_d cX11_lay 19 (.iconst 1) 1 20 := ⟨by decide +kernel, rfl⟩
theorem dX11_lay_20 : ml_d cX11_lay 20 (.invokevirtual 115) 3 23 := ⟨by decide +kernel, rfl⟩
theorem dX11_lay_23 : ml_d cX11_lay 23 (.ireturn) 1 24 := ⟨by decide +kernel, rfl⟩
theorem dX11_lay_24 : ml_d cX11_lay 24 (.iload_n 2) 1 25 := ⟨by decide +kernel, rfl⟩
theorem dX11_lay_25 : ml_d cX11_lay 25 (.iconst 0) 1 26 := ⟨by decide +kernel, rfl⟩
theorem dX11_lay_26 : ml_d cX11_lay 26 (.aload_n 0) 1 27 := ⟨by decide +kernel, rfl⟩
theorem dX11_lay_27 : ml_d cX11_lay 27 (.getfield 13) 3 30 := ⟨by decide +kernel, rfl⟩
theorem dX11_lay_30 : ml_d cX11_lay 30 (.iload_n 1) 1 31 := ⟨by decide +kernel, rfl⟩
theorem dX11_lay_31 : ml_d cX11_lay 31 (.iaload) 1 32 := ⟨by decide +kernel, rfl⟩
theorem dX11_lay_32 : ml_d cX11_lay 32 (.iconst 1) 1 33 := ⟨by decide +kernel, rfl⟩
theorem dX11_lay_33 : ml_d cX11_lay 33 (.isub) 1 34 := ⟨by decide +kernel, rfl⟩
theorem dX11_lay_34 : ml_d cX11_lay 34 (.invokestatic 100) 3 37 := ⟨by decide +kernel, rfl⟩
theorem dX11_lay_37 : ml_j cX11_lay 37 (.ifCond .ne) 46 40 := ⟨9, by decide +kernel, by decide, rfl⟩
theorem dX11_lay_40 : ml_d cX11_lay 40 (.aload_n 0) 1 41 := ⟨by decide +kernel, rfl⟩
theorem dX11_lay_41 : ml_d cX11_lay 41 (.iconst 2) 1 42 := ⟨by decide +kernel, rfl⟩
theorem dX11_lay_42 : ml_d cX11_lay 42 (.invokevirtual 115) 3 45 := ⟨by decide +kernel, rfl⟩
theorem dX11_lay_45 : ml_d cX11_lay 45 (.ireturn) 1 46 := ⟨by decide +kernel, rfl⟩
theorem dX11_lay_46 : ml_d cX11_lay 46 (.aload_n 0) 1 47 := ⟨by decide +kernel, rfl⟩
theorem dX11_lay_47 : ml_d cX11_lay 47 (.iload_n 1) 1 48 := ⟨by decide +kernel, rfl⟩
theorem dX11_lay_48 : ml_d cX11_lay 48 (.iload_n 2) 1 49 := ⟨by decide +kernel, rfl⟩
theorem dX11_lay_49 : ml_d cX11_lay 49 (.invokevirtual 119) 3 52 := ⟨by decide +kernel, rfl⟩
theorem dX11_lay_52 : ml_d cX11_lay 52 (.istore 4) 2 54 := ⟨by decide +kernel, rfl⟩
theorem dX11_lay_54 : ml_d cX11_lay 54 (.aload_n 0) 1 55 := ⟨by decide +kernel, rfl⟩
theorem dX11_lay_55 : ml_d cX11_lay 55 (.getfield 16) 3 58 := ⟨by decide +kernel, rfl⟩
theorem dX11_lay_58 : ml_d cX11_lay 58 (.bipush 48) 2 60 := ⟨by decide +kernel, rfl⟩
theorem dX11_lay_60 : ml_d cX11_lay 60 (.iload_n 1) 1 61 := ⟨by decide +kernel, rfl⟩
theorem dX11_lay_61 : ml_d cX11_lay 61 (.imul) 1 62 := ⟨by decide +kernel, rfl⟩
theorem dX11_lay_62 : ml_d cX11_lay 62 (.iload_n 2) 1 63 := ⟨by decide +kernel, rfl⟩
theorem dX11_lay_63 : ml_d cX11_lay 63 (.iadd) 1 64 := ⟨by decide +kernel, rfl⟩
theorem dX11_lay_64 : ml_d cX11_lay 64 (.iload_n 3) 1 65 := ⟨by decide +kernel, rfl⟩
theorem dX11_lay_65 : ml_d cX11_lay 65 (.iastore) 1 66 := ⟨by decide +kernel, rfl⟩
theorem dX11_lay_66 : ml_d cX11_lay 66 (.aload_n 0) 1 67 := ⟨by decide +kernel, rfl⟩
theorem dX11_lay_67 : ml_d cX11_lay 67 (.iload 4) 2 69 := ⟨by decide +kernel, rfl⟩
theorem dX11_lay_69 : ml_d cX11_lay 69 (.iconst 1) 1 70 := ⟨by decide +kernel, rfl⟩
theorem dX11_lay_70 : ml_d cX11_lay 70 (.invokevirtual 123) 3 73 := ⟨by decide +kernel, rfl⟩
theorem dX11_lay_73 : ml_d cX11_lay 73 (.ireturn) 1 74 := ⟨by decide +kernel, rfl⟩
def fX11_lay (l0 : Nat) (l1 : Int32) (l2 : Int32) (l3 : Int32) (m : ml_M) : Option (Int32 × ml_M) :=
ml_b1 (fX11_isRow l1 m) fun r559 =>
if r559 = 0 then
some ((-1 : Int32), m)
else
if (ml_K m575 l0).1 = 11 then
ml_let (ml_R m l0 4) fun a561 =>
if ml_in m a561 20 l1 then
if 0 ≤ (ml_I m a561 l1.toNatClampNeg) then
ml_let (ml_R m l0 4) fun a563 =>
if ml_in m a563 20 l1 then
ml_b1 (fX11_in l2 (0 : Int32) ((ml_I m a563 l1.toNatClampNeg) - (1 : Int32)) m) fun r566 =>
if r566 = 0 then
ml_b2 (fX11_meets l0 (2 : Int32) m) fun r577 m578 =>
some (r577, m578)
else
ml_b1 (fX11_rowAt l0 l1 l2 m) fun r568 =>
ml_let (ml_R m l0 5) fun a569 =>
if ml_in m a569 20 (((48 : Int32) * l1) + l2) then
ml_let (ml_sI m a569 (((48 : Int32) * l1) + l2).toNatClampNeg l3) fun m571 =>
ml_b2 (fX11_tells l0 r568 (1 : Int32) m571) fun r574 m575 =>
some (r574, m575)
else none
else none
else
ml_b2 (fX11_meets l0 (1 : Int32) m) fun r580 m581 =>
some (r580, m581)
else none
else none
theorem wX11_lay_0 {E : ml_E} (hL : ml_eL E = 5) {rv : Int32} {rm : ml_M} (hr : ∀ (pc pc' : Nat) (lv : List (Nat × ml_X)), ml_d cX11_lay pc .ireturn 1 pc' → True → ml_V E "LostRoomModel" cX11_lay 4 false rm pc lv [ml_i rv]) : ∀ (l0 : Nat) (l1 : Int32) (l2 : Int32) (l3 : Int32) (m : ml_M), fX11_lay l0 l1 l2 l3 m = some (rv, rm) → ml_V E "LostRoomModel" cX11_lay 4 false m 0 [(0, ml_r l0), (1, ml_i l1), (2, ml_i l2), (3, ml_i l3)] [] := by
  intro l0 l1 l2 l3 m h
  exact ml_iload_n dX11_lay_0 1 rfl <| ml_b1_of h fun r559 hv558 h => ml_callS dX11_lay_1 wm_140 wb_104 (sX11_isRow hv558) rfl (Nat.le_of_ble_eq_true rfl) (Nat.le_of_ble_eq_true rfl) rfl <| ml_if_ne dX11_lay_4 h (fun _ h => ml_aload_n dX11_lay_9 0 rfl <| ml_ck_of h fun hc560 h => ml_getR dX11_lay_10 wb_64 hc560 <| ml_lx (mk := ml_r) h fun a561 h => ml_iload_n dX11_lay_13 1 rfl <| ml_ck_of h fun hi562 h => ml_iald dX11_lay_14 hi562 <| ml_if_ge dX11_lay_15 h (fun _ h => ml_iload_n dX11_lay_24 2 rfl <| ml_iconst dX11_lay_25 kc_i0 <| ml_aload_n dX11_lay_26 0 rfl <| ml_getR dX11_lay_27 wb_64 hc560 <| ml_lx (mk := ml_r) h fun a563 h => ml_iload_n dX11_lay_30 1 rfl <| ml_ck_of h fun hi564 h => ml_iald dX11_lay_31 hi564 <| ml_iconst dX11_lay_32 kc_i1 <| ml_isub dX11_lay_33 <| ml_b1_of h fun r566 hv565 h => ml_callS dX11_lay_34 wm_136 wb_100 (sX11_in hv565) rfl (Nat.le_of_ble_eq_true rfl) (Nat.le_of_ble_eq_true rfl) rfl <| ml_if_ne dX11_lay_37 h (fun _ h => ml_aload_n dX11_lay_46 0 rfl <| ml_iload_n dX11_lay_47 1 rfl <| ml_iload_n dX11_lay_48 2 rfl <| ml_b1_of h fun r568 hv567 h => ml_callV dX11_lay_49 wm_154 wb_109 hc560 (sX11_rowAt hv567) rfl (Nat.le_of_ble_eq_true rfl) (Nat.le_of_ble_eq_true rfl) rfl <| ml_istore (lv' := [(4, ml_i r568), (0, ml_r l0), (1, ml_i l1), (2, ml_i l2), (3, ml_i l3)]) dX11_lay_52 (hL ▸ (Nat.le_of_ble_eq_true rfl)) rfl <| ml_aload_n dX11_lay_54 1 rfl <| ml_getR dX11_lay_55 wb_103 hc560 <| ml_lx (mk := ml_r) h fun a569 h => ml_bipush dX11_lay_58 kc_b48 <| ml_iload_n dX11_lay_60 2 rfl <| ml_imul dX11_lay_61 <| ml_iload_n dX11_lay_62 3 rfl <| ml_iadd dX11_lay_63 <| ml_iload_n dX11_lay_64 4 rfl <| ml_ck_of h fun hi570 h => ml_iast dX11_lay_65 hi570 <| ml_lt (m := m) rfl h fun m571 em572 h => ml_aload_n dX11_lay_66 1 rfl <| ml_iload dX11_lay_67 0 rfl <| ml_iconst dX11_lay_69 kc_i1 <| ml_b2_of h fun r574 m575 hv573 h => ml_callV dX11_lay_70 wm_158 wb_110 (ml_kk em572 hc560) (sX11_tells hv573) rfl (Nat.le_of_ble_eq_true rfl) (Nat.le_of_ble_eq_true rfl) rfl <| ml_rI (mk := ml_i) hr dX11_lay_73 (fun _ => trivial) h) (fun _ h => ml_aload_n dX11_lay_40 0 rfl <| ml_iconst dX11_lay_41 kc_i2 <| ml_b2_of h fun r577 m578 hv576 h => ml_callV dX11_lay_42 wm_144 wb_105 hc560 (sX11_meets hv576) rfl (Nat.le_of_ble_eq_true rfl) (Nat.le_of_ble_eq_true rfl) rfl <| ml_rI (mk := ml_i) hr dX11_lay_45 (fun _ => trivial) h)) (fun _ h => ml_aload_n dX11_lay_18 0 rfl <| ml_iconst dX11_lay_19 kc_i1 <| ml_b2_of h fun r580 m581 hv579 h => ml_callV dX11_lay_20 wm_144 wb_105 hc560 (sX11_meets hv579) rfl (Nat.le_of_ble_eq_true rfl) (Nat.le_of_ble_eq_true rfl) rfl <| ml_rI (mk := ml_i) hr dX11_lay_23 (fun _ => trivial) h)) (fun _ h => ml_iconst dX11_lay_7 kc_im1 <| ml_rI (mk := ml_i) hr dX11_lay_8 (fun _ => trivial) h)
theorem sX11_lay {l0 : Nat} {l1 : Int32} {l2 : Int32} {l3 : Int32} {m : ml_M} {rv : Int32} {rm : ml_M} (h : fX11_lay l0 l1 l2 l3 m = some (rv, rm)) : ml_Sn yX11_lay cX11_lay 5 (some .int) 4 [ml_r l0, ml_i l1, ml_i l2, ml_i l3] m (some (ml_i rv)) rm :=
  ml_Sn_of (P := True) (ini := false) (by decide +kernel) (Nat.le_of_ble_eq_true rfl) (fun h => by cases h) (fun _ => ml_RkI rv) fun E hL hr => wX11_lay_0 hL hr _ _ _ _ _ h
theorem dX10_at_0 : ml_d cX10_at 0 (.iload_n 1) 1 1 := ⟨by decide +kernel, rfl⟩
theorem dX10_at_1 : ml_d cX10_at 1 (.invokestatic 82) 3 4 := ⟨by decide +kernel, rfl⟩
theorem dX10_at_4 : ml_j cX10_at 4 (.ifCond .ne) 9 7 := ⟨5, by decide +kernel, by decide, rfl⟩
theorem dX10_at_7 : ml_d cX10_at 7 (.iconst (-1)) 1 8 := ⟨by decide +kernel, rfl⟩
theorem dX10_at_8 : ml_d cX10_at 8 (.ireturn) 1 9 := ⟨by decide +kernel, rfl⟩
theorem dX10_at_9 : ml_d cX10_at 9 (.aload_n 0) 1 10 := ⟨by decide +kernel, rfl⟩
theorem dX10_at_10 : ml_d cX10_at 10 (.getfield 11) 3 13 := ⟨by decide +kernel, rfl⟩
theorem dX10_at_13 : ml_d cX10_at 13 (.iload_n 1) 1 14 := ⟨by decide +kernel, rfl⟩
theorem dX10_at_14 : ml_d cX10_at 14 (.aaload) 1 15 := ⟨by decide +kernel, rfl⟩
theorem dX10_at_15 : ml_d cX10_at 15 (.astore_n 3) 1 16 := ⟨by decide +kernel, rfl⟩
theorem dX10_at_16 : ml_d cX10_at 16 (.aload_n 3) 1 17 := ⟨by decide +kernel, rfl⟩
theorem dX10_at_17 : ml_j cX10_at 17 .ifnonnull 26 20 := ⟨9, by decide +kernel, by decide, rfl⟩
theorem dX10_at_20 : ml_d cX10_at 20 (.aload_n 0) 1 21 := ⟨by decide +kernel, rfl⟩
theorem dX10_at_21 : ml_d cX10_at 21 (.iconst 1) 1 22 := ⟨by decide +kernel, rfl⟩
theorem dX10_at_22 : ml_d cX10_at 22 (.invokevirtual 86) 3 25 := ⟨by decide +kernel, rfl⟩
theorem dX10_at_25 : ml_d cX10_at 25 (.ireturn) 1 26 := ⟨by decide +kernel, rfl⟩
theorem dX10_at_26 : ml_d cX10_at 26 (.iload_n 2) 1 27 := ⟨by decide +kernel, rfl⟩
theorem dX10_at_27 : ml_j cX10_at 27 (.ifCond .lt) 36 30 := ⟨9, by decide +kernel, by decide, rfl⟩
theorem dX10_at_30 : ml_d cX10_at 30 (.iload_n 2) 1 31 := ⟨by decide +kernel, rfl⟩
theorem dX10_at_31 : ml_d cX10_at 31 (.aload_n 3) 1 32 := ⟨by decide +kernel, rfl⟩
theorem dX10_at_32 : ml_d cX10_at 32 (.arraylength) 1 33 := ⟨by decide +kernel, rfl⟩
theorem dX10_at_33 : ml_j cX10_at 33 (.if_icmp .lt) 42 36 := ⟨9, by decide +kernel, by decide, rfl⟩
theorem dX10_at_36 : ml_d cX10_at 36 (.aload_n 0) 1 37 := ⟨by decide +kernel, rfl⟩
theorem dX10_at_37 : ml_d cX10_at 37 (.iconst 2) 1 38 := ⟨by decide +kernel, rfl⟩
theorem dX10_at_38 : ml_d cX10_at 38 (.invokevirtual 86) 3 41 := ⟨by decide +kernel, rfl⟩
theorem dX10_at_41 : ml_d cX10_at 41 (.ireturn) 1 42 := ⟨by decide +kernel, rfl⟩
theorem dX10_at_42 : ml_d cX10_at 42 (.aload_n 0) 1 43 := ⟨by decide +kernel, rfl⟩
theorem dX10_at_43 : ml_d cX10_at 43 (.aload_n 3) 1 44 := ⟨by decide +kernel, rfl⟩
theorem dX10_at_44 : ml_d cX10_at 44 (.iload_n 2) 1 45 := ⟨by decide +kernel, rfl⟩
theorem dX10_at_45 : ml_d cX10_at 45 (.iaload) 1 46 := ⟨by decide +kernel, rfl⟩
theorem dX10_at_46 : ml_d cX10_at 46 (.invokevirtual 90) 3 49 := ⟨by decide +kernel, rfl⟩
theorem dX10_at_49 : ml_d cX10_at 49 (.ireturn) 1 50 := ⟨by decide +kernel, rfl⟩
def fX10_at_36 (l0 : Nat) (m : ml_M) : Option (Int32 × ml_M) :=
if (ml_K m585 l0).1 = 10 then
ml_b2 (fX10_found l0 (2 : Int32) m) fun r584 m585 =>
some (r584, m585)
else none
theorem vX10_at_36 {E : ml_E} (hL : ml_eL E = 4) {rv : Int32} {rm : ml_M} (hr : ∀ (pc pc' : Nat) (lv : List (Nat × ml_X)), ml_d cX10_at pc .ireturn 1 pc' → True → ml_V E "LostRoom" cX10_at 4 false rm pc lv [ml_i rv]) : ∀ (l0 : Nat) (m : ml_M), fX10_at_36 l0 m = some (rv, rm) → ml_V E "LostRoom" cX10_at 4 false m 36 [(0, ml_r l0)] [] := by
  intro l0 m h
  exact ml_aload_n dX10_at_36 0 rfl <| ml_iconst dX10_at_37 kc_i2 <| ml_ck_of h fun hc583 h => ml_b2_of h fun r584 m585 hv582 h => ml_callV dX10_at_38 wm_132 wb_99 hc583 (sX10_found hv582) rfl (Nat.le_of_ble_eq_true rfl) (Nat.le_of_ble_eq_true rfl) rfl <| ml_rI (mk := ml_i) hr dX10_at_41 (fun _ => trivial) h
def fX10_at (l0 : Nat) (l1 : Int32) (l2 : Int32) (m : ml_M) : Option (Int32 × ml_M) :=
ml_b1 (fX10_isRow l1 m) fun r587 =>
if r587 = 0 then
some ((-1 : Int32), m)
else
if (ml_K m l0).1 = 10 then
ml_let (ml_R m l0 0) fun a589 =>
if ml_in m a589 23 l1 then
ml_let (ml_R m a589 l1.toNatClampNeg) fun a591 =>
if a591 = 0 then
ml_b2 (fX10_found l0 (1 : Int32) m) fun r598 m599 =>
some (r598, m599)
else
if l2 < 0 then
fX10_at_36 l0 m
else
if (ml_K m596 a591).1 = 20 then
if l2 < (Int32.ofNat (ml_K m a591).2) then
if ml_in m a591 20 l2 then
ml_b2 (fX10_tell l0 (ml_I m a591 l2.toNatClampNeg) m) fun r595 m596 =>
some (r595, m596)
else none
else
fX10_at_36 l0 m
else none
else none
else none
theorem wX10_at_0 {E : ml_E} (hL : ml_eL E = 4) {rv : Int32} {rm : ml_M} (hr : ∀ (pc pc' : Nat) (lv : List (Nat × ml_X)), ml_d cX10_at pc .ireturn 1 pc' → True → ml_V E "LostRoom" cX10_at 4 false rm pc lv [ml_i rv]) : ∀ (l0 : Nat) (l1 : Int32) (l2 : Int32) (m : ml_M), fX10_at l0 l1 l2 m = some (rv, rm) → ml_V E "LostRoom" cX10_at 4 false m 0 [(0, ml_r l0), (1, ml_i l1), (2, ml_i l2)] [] := by
  intro l0 l1 l2 m h
  exact ml_iload_n dX10_at_0 1 rfl <| ml_b1_of h fun r587 hv586 h => ml_callS dX10_at_1 wm_128 wb_97 (sX10_isRow hv586) rfl (Nat.le_of_ble_eq_true rfl) (Nat.le_of_ble_eq_true rfl) rfl <| ml_if_ne dX10_at_4 h (fun _ h => ml_aload_n dX10_at_9 0 rfl <| ml_ck_of h fun hc588 h => ml_getR dX10_at_10 wb_98 hc588 <| ml_lx (mk := ml_r) h fun a589 h => ml_iload_n dX10_at_13 1 rfl <| ml_ck_of h fun hi590 h => ml_aald dX10_at_14 (by decide) hi590 <| ml_lx (mk := ml_r) h fun a591 h => ml_astore_n (lv' := [(3, ml_r a591), (0, ml_r l0), (1, ml_i l1), (2, ml_i l2)]) dX10_at_15 (hL ▸ (Nat.le_of_ble_eq_true rfl)) rfl <| ml_aload_n dX10_at_16 0 rfl <| ml_ifnonnull dX10_at_17 h (fun _ h => ml_iload_n dX10_at_26 3 rfl <| ml_if_lt dX10_at_27 h (fun _ h => ml_V.sub [1] rfl (vX10_at_36 hL hr  _ _ h)) (fun _ h => ml_iload_n dX10_at_30 3 rfl <| ml_aload_n dX10_at_31 0 rfl <| ml_ck_of h fun hc592 h => ml_alen dX10_at_32 (by decide) hc592 <| ml_icmp_lt dX10_at_33 h (fun _ h => ml_aload_n dX10_at_42 1 rfl <| ml_aload_n dX10_at_43 0 rfl <| ml_iload_n dX10_at_44 3 rfl <| ml_ck_of h fun hi593 h => ml_iald dX10_at_45 hi593 <| ml_b2_of h fun r595 m596 hv594 h => ml_callV dX10_at_46 wm_149 wb_107 hc588 (sX10_tell hv594) rfl (Nat.le_of_ble_eq_true rfl) (Nat.le_of_ble_eq_true rfl) rfl <| ml_rI (mk := ml_i) hr dX10_at_49 (fun _ => trivial) h) (fun _ h => ml_V.sub [1] rfl (vX10_at_36 hL hr  _ _ h)))) (fun _ h => ml_aload_n dX10_at_20 1 rfl <| ml_iconst dX10_at_21 kc_i1 <| ml_b2_of h fun r598 m599 hv597 h => ml_callV dX10_at_22 wm_132 wb_99 hc588 (sX10_found hv597) rfl (Nat.le_of_ble_eq_true rfl) (Nat.le_of_ble_eq_true rfl) rfl <| ml_rI (mk := ml_i) hr dX10_at_25 (fun _ => trivial) h)) (fun _ h => ml_iconst dX10_at_7 kc_im1 <| ml_rI (mk := ml_i) hr dX10_at_8 (fun _ => trivial) h)
theorem sX10_at {l0 : Nat} {l1 : Int32} {l2 : Int32} {m : ml_M} {rv : Int32} {rm : ml_M} (h : fX10_at l0 l1 l2 m = some (rv, rm)) : ml_Sn yX10_at cX10_at 4 (some .int) 4 [ml_r l0, ml_i l1, ml_i l2] m (some (ml_i rv)) rm :=
  ml_Sn_of (P := True) (ini := false) (by decide +kernel) (Nat.le_of_ble_eq_true rfl) (fun h => by cases h) (fun _ => ml_RkI rv) fun E hL hr => wX10_at_0 hL hr _ _ _ _ h
theorem dX11_at_0 : ml_d cX11_at 0 (.iload_n 1) 1 1 := ⟨by decide +kernel, rfl⟩
theorem dX11_at_1 : ml_d cX11_at 1 (.invokestatic 111) 3 4 := ⟨by decide +kernel, rfl⟩
theorem dX11_at_4 : ml_j cX11_at 4 (.ifCond .ne) 9 7 := ⟨5, by decide +kernel, by decide, rfl⟩
theorem dX11_at_7 : ml_d cX11_at 7 (.iconst (-1)) 1 8 := ⟨by decide +kernel, rfl⟩
theorem dX11_at_8 : ml_d cX11_at 8 (.ireturn) 1 9 := ⟨by decide +kernel, rfl⟩
theorem dX11_at_9 : ml_d cX11_at 9 (.aload_n 0) 1 10 := ⟨by decide +kernel, rfl⟩
theorem dX11_at_10 : ml_d cX11_at 10 (.getfield 13) 3 13 := ⟨by decide +kernel, rfl⟩
theorem dX11_at_13 : ml_d cX11_at 13 (.iload_n 1) 1 14 := ⟨by decide +kernel, rfl⟩
theorem dX11_at_14 : ml_d cX11_at 14 (.iaload) 1 15 := ⟨by decide +kernel, rfl⟩
theorem dX11_at_15 : ml_j cX11_at 15 (.ifCond .ge) 24 18 := ⟨9, by decide +kernel, by decide, rfl⟩
theorem dX11_at_18 : ml_d cX11_at 18 (.aload_n 0) 1 19 := ⟨by decide +kernel, rfl⟩
theorem dX11_at_19 : ml_d cX11_at 19 (.iconst 1) 1 20 := ⟨by decide +kernel, rfl⟩
theorem dX11_at_20 : ml_d cX11_at 20 (.invokevirtual 115) 3 23 := ⟨by decide +kernel, rfl⟩
theorem dX11_at_23 : ml_d cX11_at 23 (.ireturn) 1 24 := ⟨by decide +kernel, rfl⟩
theorem dX11_at_24 : ml_d cX11_at 24 (.iload_n 2) 1 25 := ⟨by decide +kernel, rfl⟩
theorem dX11_at_25 : ml_d cX11_at 25 (.iconst 0) 1 26 := ⟨by decide +kernel, rfl⟩
theorem dX11_at_26 : ml_d cX11_at 26 (.aload_n 0) 1 27 := ⟨by decide +kernel, rfl⟩
theorem dX11_at_27 : ml_d cX11_at 27 (.getfield 13) 3 30 := ⟨by decide +kernel, rfl⟩
theorem dX11_at_30 : ml_d cX11_at 30 (.iload_n 1) 1 31 := ⟨by decide +kernel, rfl⟩
theorem dX11_at_31 : ml_d cX11_at 31 (.iaload) 1 32 := ⟨by decide +kernel, rfl⟩
theorem dX11_at_32 : ml_d cX11_at 32 (.iconst 1) 1 33 := ⟨by decide +kernel, rfl⟩
theorem dX11_at_33 : ml_d cX11_at 33 (.isub) 1 34 := ⟨by decide +kernel, rfl⟩
theorem dX11_at_34 : ml_d cX11_at 34 (.invokestatic 100) 3 37 := ⟨by decide +kernel, rfl⟩
theorem dX11_at_37 : ml_j cX11_at 37 (.ifCond .eq) 54 40 := ⟨17, by decide +kernel, by decide, rfl⟩
theorem dX11_at_40 : ml_d cX11_at 40 (.aload_n 0) 1 41 := ⟨by decide +kernel, rfl⟩
theorem dX11_at_41 : ml_d cX11_at 41 (.aload_n 0) 1 42 := ⟨by decide +kernel, rfl⟩
theorem dX11_at_42 : ml_d cX11_at 42 (.iload_n 1) 1 43 := ⟨by decide +kernel, rfl⟩
theorem dX11_at_43 : ml_d cX11_at 43 (.iload_n 2) 1 44 := ⟨by decide +kernel, rfl⟩
theorem dX11_at_44 : ml_d cX11_at 44 (.invokevirtual 119) 3 47 := ⟨by decide +kernel, rfl⟩
theorem dX11_at_47 : ml_d cX11_at 47 (.iconst 1) 1 48 := ⟨by decide +kernel, rfl⟩
theorem dX11_at_48 : ml_d cX11_at 48 (.invokevirtual 123) 3 51 := ⟨by decide +kernel, rfl⟩
theorem dX11_at_51 : ml_j cX11_at 51 .goto 59 54 := ⟨8, by decide +kernel, by decide, rfl⟩
theorem dX11_at_54 : ml_d cX11_at 54 (.aload_n 0) 1 55 := ⟨by decide +kernel, rfl⟩
theorem dX11_at_55 : ml_d cX11_at 55 (.iconst 2) 1 56 := ⟨by decide +kernel, rfl⟩
theorem dX11_at_56 : ml_d cX11_at 56 (.invokevirtual 115) 3 59 := ⟨by decide +kernel, rfl⟩
theorem dX11_at_59 : ml_d cX11_at 59 (.ireturn) 1 60 := ⟨by decide +kernel, rfl⟩
def fX11_at (l0 : Nat) (l1 : Int32) (l2 : Int32) (m : ml_M) : Option (Int32 × ml_M) :=
ml_b1 (fX11_isRow l1 m) fun r601 =>
if r601 = 0 then
some ((-1 : Int32), m)
else
if (ml_K m611 l0).1 = 11 then
ml_let (ml_R m l0 4) fun a603 =>
if ml_in m a603 20 l1 then
if 0 ≤ (ml_I m a603 l1.toNatClampNeg) then
ml_let (ml_R m l0 4) fun a605 =>
if ml_in m a605 20 l1 then
ml_b1 (fX11_in l2 (0 : Int32) ((ml_I m a605 l1.toNatClampNeg) - (1 : Int32)) m) fun r608 =>
if r608 = 0 then
ml_b2 (fX11_meets l0 (2 : Int32) m) fun r610 m611 =>
some (r610, m611)
else
ml_b1 (fX11_rowAt l0 l1 l2 m) fun r613 =>
ml_b2 (fX11_tells l0 r613 (1 : Int32) m) fun r615 m616 =>
some (r615, m616)
else none
else
ml_b2 (fX11_meets l0 (1 : Int32) m) fun r618 m619 =>
some (r618, m619)
else none
else none
theorem wX11_at_0 {E : ml_E} (hL : ml_eL E = 3) {rv : Int32} {rm : ml_M} (hr : ∀ (pc pc' : Nat) (lv : List (Nat × ml_X)), ml_d cX11_at pc .ireturn 1 pc' → True → ml_V E "LostRoomModel" cX11_at 4 false rm pc lv [ml_i rv]) : ∀ (l0 : Nat) (l1 : Int32) (l2 : Int32) (m : ml_M), fX11_at l0 l1 l2 m = some (rv, rm) → ml_V E "LostRoomModel" cX11_at 4 false m 0 [(0, ml_r l0), (1, ml_i l1), (2, ml_i l2)] [] := by
  intro l0 l1 l2 m h
  exact ml_iload_n dX11_at_0 1 rfl <| ml_b1_of h fun r601 hv600 h => ml_callS dX11_at_1 wm_140 wb_104 (sX11_isRow hv600) rfl (Nat.le_of_ble_eq_true rfl) (Nat.le_of_ble_eq_true rfl) rfl <| ml_if_ne dX11_at_4 h (fun _ h => ml_aload_n dX11_at_9 0 rfl <| ml_ck_of h fun hc602 h => ml_getR dX11_at_10 wb_64 hc602 <| ml_lx (mk := ml_r) h fun a603 h => ml_iload_n dX11_at_13 1 rfl <| ml_ck_of h fun hi604 h => ml_iald dX11_at_14 hi604 <| ml_if_ge dX11_at_15 h (fun _ h => ml_iload_n dX11_at_24 2 rfl <| ml_iconst dX11_at_25 kc_i0 <| ml_aload_n dX11_at_26 0 rfl <| ml_getR dX11_at_27 wb_64 hc602 <| ml_lx (mk := ml_r) h fun a605 h => ml_iload_n dX11_at_30 1 rfl <| ml_ck_of h fun hi606 h => ml_iald dX11_at_31 hi606 <| ml_iconst dX11_at_32 kc_i1 <| ml_isub dX11_at_33 <| ml_b1_of h fun r608 hv607 h => ml_callS dX11_at_34 wm_136 wb_100 (sX11_in hv607) rfl (Nat.le_of_ble_eq_true rfl) (Nat.le_of_ble_eq_true rfl) rfl <| ml_if_eq dX11_at_37 h (fun _ h => ml_aload_n dX11_at_54 0 rfl <| ml_iconst dX11_at_55 kc_i2 <| ml_b2_of h fun r610 m611 hv609 h => ml_callV dX11_at_56 wm_144 wb_105 hc602 (sX11_meets hv609) rfl (Nat.le_of_ble_eq_true rfl) (Nat.le_of_ble_eq_true rfl) rfl <| ml_rI (mk := ml_i) hr dX11_at_59 (fun _ => trivial) h) (fun _ h => ml_aload_n dX11_at_40 0 rfl <| ml_aload_n dX11_at_41 0 rfl <| ml_iload_n dX11_at_42 1 rfl <| ml_iload_n dX11_at_43 2 rfl <| ml_b1_of h fun r613 hv612 h => ml_callV dX11_at_44 wm_154 wb_109 hc602 (sX11_rowAt hv612) rfl (Nat.le_of_ble_eq_true rfl) (Nat.le_of_ble_eq_true rfl) rfl <| ml_iconst dX11_at_47 kc_i1 <| ml_b2_of h fun r615 m616 hv614 h => ml_callV dX11_at_48 wm_158 wb_110 hc602 (sX11_tells hv614) rfl (Nat.le_of_ble_eq_true rfl) (Nat.le_of_ble_eq_true rfl) rfl <| ml_goto dX11_at_51 <| ml_rI (mk := ml_i) hr dX11_at_59 (fun _ => trivial) h)) (fun _ h => ml_aload_n dX11_at_18 0 rfl <| ml_iconst dX11_at_19 kc_i1 <| ml_b2_of h fun r618 m619 hv617 h => ml_callV dX11_at_20 wm_144 wb_105 hc602 (sX11_meets hv617) rfl (Nat.le_of_ble_eq_true rfl) (Nat.le_of_ble_eq_true rfl) rfl <| ml_rI (mk := ml_i) hr dX11_at_23 (fun _ => trivial) h)) (fun _ h => ml_iconst dX11_at_7 kc_im1 <| ml_rI (mk := ml_i) hr dX11_at_8 (fun _ => trivial) h)
theorem sX11_at {l0 : Nat} {l1 : Int32} {l2 : Int32} {m : ml_M} {rv : Int32} {rm : ml_M} (h : fX11_at l0 l1 l2 m = some (rv, rm)) : ml_Sn yX11_at cX11_at 3 (some .int) 4 [ml_r l0, ml_i l1, ml_i l2] m (some (ml_i rv)) rm :=
  ml_Sn_of (P := True) (ini := false) (by decide +kernel) (Nat.le_of_ble_eq_true rfl) (fun h => by cases h) (fun _ => ml_RkI rv) fun E hL hr => wX11_at_0 hL hr _ _ _ _ h
theorem dX10_tear_0 : ml_d cX10_tear 0 (.iload_n 1) 1 1 := ⟨by decide +kernel, rfl⟩
theorem dX10_tear_1 : ml_d cX10_tear 1 (.invokestatic 82) 3 4 := ⟨by decide +kernel, rfl⟩
theorem dX10_tear_4 : ml_j cX10_tear 4 (.ifCond .ne) 9 7 := ⟨5, by decide +kernel, by decide, rfl⟩
theorem dX10_tear_7 : ml_d cX10_tear 7 (.iconst (-1)) 1 8 := ⟨by decide +kernel, rfl⟩
theorem dX10_tear_8 : ml_d cX10_tear 8 (.ireturn) 1 9 := ⟨by decide +kernel, rfl⟩
theorem dX10_tear_9 : ml_d cX10_tear 9 (.aload_n 0) 1 10 := ⟨by decide +kernel, rfl⟩
theorem dX10_tear_10 : ml_d cX10_tear 10 (.getfield 11) 3 13 := ⟨by decide +kernel, rfl⟩
theorem dX10_tear_13 : ml_d cX10_tear 13 (.iload_n 1) 1 14 := ⟨by decide +kernel, rfl⟩
theorem dX10_tear_14 : ml_d cX10_tear 14 (.aaload) 1 15 := ⟨by decide +kernel, rfl⟩
theorem dX10_tear_15 : ml_j cX10_tear 15 .ifnonnull 24 18 := ⟨9, by decide +kernel, by decide, rfl⟩
theorem dX10_tear_18 : ml_d cX10_tear 18 (.aload_n 0) 1 19 := ⟨by decide +kernel, rfl⟩
theorem dX10_tear_19 : ml_d cX10_tear 19 (.iconst 1) 1 20 := ⟨by decide +kernel, rfl⟩
theorem dX10_tear_20 : ml_d cX10_tear 20 (.invokevirtual 86) 3 23 := ⟨by decide +kernel, rfl⟩
theorem dX10_tear_23 : ml_d cX10_tear 23 (.ireturn) 1 24 := ⟨by decide +kernel, rfl⟩
theorem dX10_tear_24 : ml_d cX10_tear 24 (.aload_n 0) 1 25 := ⟨by decide +kernel, rfl⟩
theorem dX10_tear_25 : ml_d cX10_tear 25 (.getfield 11) 3 28 := ⟨by decide +kernel, rfl⟩
theorem dX10_tear_28 : ml_d cX10_tear 28 (.iload_n 1) 1 29 := ⟨by decide +kernel, rfl⟩
theorem dX10_tear_29 : ml_d cX10_tear 29 (.aconst_null) 1 30 := ⟨by decide +kernel, rfl⟩
theorem dX10_tear_30 : ml_d cX10_tear 30 (.aastore) 1 31 := ⟨by decide +kernel, rfl⟩
theorem dX10_tear_31 : ml_d cX10_tear 31 (.iconst 1) 1 32 := ⟨by decide +kernel, rfl⟩
theorem dX10_tear_32 : ml_d cX10_tear 32 (.ireturn) 1 33 := ⟨by decide +kernel, rfl⟩
def fX10_tear (l0 : Nat) (l1 : Int32) (m : ml_M) : Option (Int32 × ml_M) :=
ml_b1 (fX10_isRow l1 m) fun r621 =>
if r621 = 0 then
some ((-1 : Int32), m)
else
if (ml_K m628 l0).1 = 10 then
ml_let (ml_R m l0 0) fun a623 =>
if ml_in m a623 23 l1 then
ml_let (ml_R m a623 l1.toNatClampNeg) fun a625 =>
if a625 = 0 then
ml_b2 (fX10_found l0 (1 : Int32) m) fun r631 m632 =>
some (r631, m632)
else
ml_let (ml_R m l0 0) fun a626 =>
if ml_in m a626 23 l1 then
ml_let (ml_sR m a626 l1.toNatClampNeg 0) fun m628 =>
some ((1 : Int32), m628)
else none
else none
else none
theorem wX10_tear_0 {E : ml_E} (hL : ml_eL E = 2) {rv : Int32} {rm : ml_M} (hr : ∀ (pc pc' : Nat) (lv : List (Nat × ml_X)), ml_d cX10_tear pc .ireturn 1 pc' → True → ml_V E "LostRoom" cX10_tear 4 false rm pc lv [ml_i rv]) : ∀ (l0 : Nat) (l1 : Int32) (m : ml_M), fX10_tear l0 l1 m = some (rv, rm) → ml_V E "LostRoom" cX10_tear 4 false m 0 [(0, ml_r l0), (1, ml_i l1)] [] := by
  intro l0 l1 m h
  exact ml_iload_n dX10_tear_0 1 rfl <| ml_b1_of h fun r621 hv620 h => ml_callS dX10_tear_1 wm_128 wb_97 (sX10_isRow hv620) rfl (Nat.le_of_ble_eq_true rfl) (Nat.le_of_ble_eq_true rfl) rfl <| ml_if_ne dX10_tear_4 h (fun _ h => ml_aload_n dX10_tear_9 0 rfl <| ml_ck_of h fun hc622 h => ml_getR dX10_tear_10 wb_98 hc622 <| ml_lx (mk := ml_r) h fun a623 h => ml_iload_n dX10_tear_13 1 rfl <| ml_ck_of h fun hi624 h => ml_aald dX10_tear_14 (by decide) hi624 <| ml_lx (mk := ml_r) h fun a625 h => ml_ifnonnull dX10_tear_15 h (fun _ h => ml_aload_n dX10_tear_24 0 rfl <| ml_getR dX10_tear_25 wb_98 hc622 <| ml_lx (mk := ml_r) h fun a626 h => ml_iload_n dX10_tear_28 1 rfl <| ml_aconst_null dX10_tear_29 <| ml_ck_of h fun hi627 h => ml_aastN dX10_tear_30 (by decide) hi627 <| ml_lt (m := m) rfl h fun m628 em629 h => ml_iconst dX10_tear_31 kc_i1 <| ml_rI (mk := ml_i) hr dX10_tear_32 (fun _ => trivial) h) (fun _ h => ml_aload_n dX10_tear_18 0 rfl <| ml_iconst dX10_tear_19 kc_i1 <| ml_b2_of h fun r631 m632 hv630 h => ml_callV dX10_tear_20 wm_132 wb_99 hc622 (sX10_found hv630) rfl (Nat.le_of_ble_eq_true rfl) (Nat.le_of_ble_eq_true rfl) rfl <| ml_rI (mk := ml_i) hr dX10_tear_23 (fun _ => trivial) h)) (fun _ h => ml_iconst dX10_tear_7 kc_im1 <| ml_rI (mk := ml_i) hr dX10_tear_8 (fun _ => trivial) h)
theorem sX10_tear {l0 : Nat} {l1 : Int32} {m : ml_M} {rv : Int32} {rm : ml_M} (h : fX10_tear l0 l1 m = some (rv, rm)) : ml_Sn yX10_tear cX10_tear 2 (some .int) 4 [ml_r l0, ml_i l1] m (some (ml_i rv)) rm :=
  ml_Sn_of (P := True) (ini := false) (by decide +kernel) (Nat.le_of_ble_eq_true rfl) (fun h => by cases h) (fun _ => ml_RkI rv) fun E hL hr => wX10_tear_0 hL hr _ _ _ h

/-! printed by wip/p51/emit.py out of the claim's own listing -/
theorem dX10_book_0 : ml_d cX10_book 0 (.iload_n 1) 1 1 := ⟨by decide +kernel, rfl⟩
theorem dX10_book_1 : ml_d cX10_book 1 (.invokestatic 103) 3 4 := ⟨by decide +kernel, rfl⟩
theorem dX10_book_4 : ml_j cX10_book 4 (.ifCond .ne) 9 7 := ⟨5, by decide +kernel, by decide, rfl⟩
theorem dX10_book_7 : ml_d cX10_book 7 (.iconst (-1)) 1 8 := ⟨by decide +kernel, rfl⟩
theorem dX10_book_8 : ml_d cX10_book 8 (.ireturn) 1 9 := ⟨by decide +kernel, rfl⟩
theorem dX10_book_9 : ml_d cX10_book 9 (.aload_n 0) 1 10 := ⟨by decide +kernel, rfl⟩
theorem dX10_book_10 : ml_d cX10_book 10 (.getfield 17) 3 13 := ⟨by decide +kernel, rfl⟩
theorem dX10_book_13 : ml_d cX10_book 13 (.iload_n 1) 1 14 := ⟨by decide +kernel, rfl⟩
theorem dX10_book_14 : ml_d cX10_book 14 (.aaload) 1 15 := ⟨by decide +kernel, rfl⟩
theorem dX10_book_15 : ml_d cX10_book 15 (.astore_n 2) 1 16 := ⟨by decide +kernel, rfl⟩
theorem dX10_book_16 : ml_d cX10_book 16 (.aload_n 2) 1 17 := ⟨by decide +kernel, rfl⟩
theorem dX10_book_17 : ml_j cX10_book 17 .ifnonnull 26 20 := ⟨9, by decide +kernel, by decide, rfl⟩
theorem dX10_book_20 : ml_d cX10_book 20 (.aload_n 0) 1 21 := ⟨by decide +kernel, rfl⟩
theorem dX10_book_21 : ml_d cX10_book 21 (.iconst 1) 1 22 := ⟨by decide +kernel, rfl⟩
theorem dX10_book_22 : ml_d cX10_book 22 (.invokevirtual 86) 3 25 := ⟨by decide +kernel, rfl⟩
theorem dX10_book_25 : ml_d cX10_book 25 (.ireturn) 1 26 := ⟨by decide +kernel, rfl⟩
theorem dX10_book_26 : ml_d cX10_book 26 (.new 21) 3 29 := ⟨by decide +kernel, rfl⟩
theorem dX10_book_29 : ml_d cX10_book 29 (.dup) 1 30 := ⟨by decide +kernel, rfl⟩
theorem dX10_book_30 : ml_d cX10_book 30 (.aload_n 2) 1 31 := ⟨by decide +kernel, rfl⟩
theorem dX10_book_31 : ml_d cX10_book 31 (.invokespecial 23) 3 34 := ⟨by decide +kernel, rfl⟩
theorem dX10_book_34 : ml_d cX10_book 34 (.astore_n 3) 1 35 := ⟨by decide +kernel, rfl⟩
theorem dX10_book_35 : ml_d cX10_book 35 (.aload_n 3) 1 36 := ⟨by decide +kernel, rfl⟩
theorem dX10_book_36 : ml_d cX10_book 36 (.invokevirtual 112) 3 39 := ⟨by decide +kernel, rfl⟩
theorem dX10_book_39 : ml_d cX10_book 39 (.aload_n 3) 1 40 := ⟨by decide +kernel, rfl⟩
theorem dX10_book_40 : ml_d cX10_book 40 (.getfield 115) 3 43 := ⟨by decide +kernel, rfl⟩
theorem dX10_book_43 : ml_d cX10_book 43 (.bipush (-9)) 2 45 := ⟨by decide +kernel, rfl⟩
theorem dX10_book_45 : ml_j cX10_book 45 (.if_icmp .eq) 51 48 := ⟨6, by decide +kernel, by decide, rfl⟩
theorem dX10_book_48 : ml_d cX10_book 48 (.bipush (-4)) 2 50 := ⟨by decide +kernel, rfl⟩
theorem dX10_book_50 : ml_d cX10_book 50 (.ireturn) 1 51 := ⟨by decide +kernel, rfl⟩
theorem dX10_book_51 : ml_d cX10_book 51 (.aload_n 0) 1 52 := ⟨by decide +kernel, rfl⟩
theorem dX10_book_52 : ml_d cX10_book 52 (.aload_n 3) 1 53 := ⟨by decide +kernel, rfl⟩
theorem dX10_book_53 : ml_d cX10_book 53 (.putfield 26) 3 56 := ⟨by decide +kernel, rfl⟩
theorem dX10_book_56 : ml_d cX10_book 56 (.aload_n 0) 1 57 := ⟨by decide +kernel, rfl⟩
theorem dX10_book_57 : ml_d cX10_book 57 (.iconst 0) 1 58 := ⟨by decide +kernel, rfl⟩
theorem dX10_book_58 : ml_d cX10_book 58 (.putfield 118) 3 61 := ⟨by decide +kernel, rfl⟩
theorem dX10_book_61 : ml_d cX10_book 61 (.aload_n 0) 1 62 := ⟨by decide +kernel, rfl⟩
theorem dX10_book_62 : ml_d cX10_book 62 (.iconst 0) 1 63 := ⟨by decide +kernel, rfl⟩
theorem dX10_book_63 : ml_d cX10_book 63 (.putfield 121) 3 66 := ⟨by decide +kernel, rfl⟩
theorem dX10_book_66 : ml_d cX10_book 66 (.aload_n 0) 1 67 := ⟨by decide +kernel, rfl⟩
theorem dX10_book_67 : ml_d cX10_book 67 (.iconst 0) 1 68 := ⟨by decide +kernel, rfl⟩
theorem dX10_book_68 : ml_d cX10_book 68 (.putfield 124) 3 71 := ⟨by decide +kernel, rfl⟩
theorem dX10_book_71 : ml_d cX10_book 71 (.aload_n 0) 1 72 := ⟨by decide +kernel, rfl⟩
theorem dX10_book_72 : ml_d cX10_book 72 (.iconst 0) 1 73 := ⟨by decide +kernel, rfl⟩
theorem dX10_book_73 : ml_d cX10_book 73 (.putfield 127) 3 76 := ⟨by decide +kernel, rfl⟩
theorem dX10_book_76 : ml_d cX10_book 76 (.aload_n 0) 1 77 := ⟨by decide +kernel, rfl⟩
theorem dX10_book_77 : ml_d cX10_book 77 (.getfield 61) 3 80 := ⟨by decide +kernel, rfl⟩
theorem dX10_book_80 : ml_d cX10_book 80 (.iconst 1) 1 81 := ⟨by decide +kernel, rfl⟩
theorem dX10_book_81 : ml_d cX10_book 81 (.putfield 130) 3 84 := ⟨by decide +kernel, rfl⟩
theorem dX10_book_84 : ml_d cX10_book 84 (.aload_n 0) 1 85 := ⟨by decide +kernel, rfl⟩
theorem dX10_book_85 : ml_d cX10_book 85 (.getfield 68) 3 88 := ⟨by decide +kernel, rfl⟩
theorem dX10_book_88 : ml_d cX10_book 88 (.iconst 1) 1 89 := ⟨by decide +kernel, rfl⟩
theorem dX10_book_89 : ml_d cX10_book 89 (.putfield 134) 3 92 := ⟨by decide +kernel, rfl⟩
theorem dX10_book_92 : ml_d cX10_book 92 (.aload_n 0) 1 93 := ⟨by decide +kernel, rfl⟩
theorem dX10_book_93 : ml_d cX10_book 93 (.getfield 26) 3 96 := ⟨by decide +kernel, rfl⟩
theorem dX10_book_96 : ml_d cX10_book 96 (.getfield 135) 3 99 := ⟨by decide +kernel, rfl⟩
theorem dX10_book_99 : ml_d cX10_book 99 (.ireturn) 1 100 := ⟨by decide +kernel, rfl⟩
def fX10_book (l0 : Nat) (l1 : Int32) (m : ml_M) : Option (Int32 × ml_M) :=
    ml_b1 (fX10_isText l1 m) fun r328 =>
    if r328 = 0 then
    some ((-1 : Int32), m)
    else
    if (ml_K m l0).1 = 10 then
    ml_let (ml_R m l0 1) fun a330 =>
    if ml_in m a330 24 l1 then
    ml_let (ml_R m a330 l1.toNatClampNeg) fun a332 =>
    if a332 = 0 then
    ml_b2 (fX10_found l0 (1 : Int32) m) fun r365 m366 =>
    some (r365, m366)
    else
    ml_let (ml_n m + 1) fun a333 =>
    ml_let (ml_al m 1 0 8) fun m334 =>
    ml_b1 (fX1_init a333 a332 m334) fun m338 =>
    if (ml_K m338 a333).1 = 1 then
    ml_b1 (fX1_read a333 m338) fun m341 =>
    if (ml_K m341 a333).1 = 1 then
    if (ml_I m341 a333 4) = (-9 : Int32) then
    if (ml_K m341 l0).1 = 10 then
    ml_let (ml_sR m341 l0 2 a333) fun m344 =>
    ml_let (ml_sI m344 l0 5 (0 : Int32)) fun m346 =>
    ml_let (ml_sI m346 l0 7 (0 : Int32)) fun m348 =>
    ml_let (ml_sI m348 l0 9 (0 : Int32)) fun m350 =>
    ml_let (ml_sI m350 l0 11 (0 : Int32)) fun m352 =>
    ml_let (ml_R m352 l0 12) fun a354 =>
    if (ml_K m352 a354).1 = 7 then
    ml_let (ml_sI m352 a354 0 (1 : Int32)) fun m356 =>
    ml_let (ml_R m356 l0 13) fun a358 =>
    if (ml_K m356 a358).1 = 4 then
    ml_let (ml_sI m356 a358 0 (1 : Int32)) fun m360 =>
    ml_let (ml_R m360 l0 2) fun a362 =>
    if (ml_K m360 a362).1 = 1 then
    some ((ml_I m360 a362 3), m360)
    else none
    else none
    else none
    else none
    else
    some ((-4 : Int32), m341)
    else none
    else none
    else none
    else none
theorem wX10_book_0 {E : ml_E} (hL : ml_eL E = 4) {rv : Int32} {rm : ml_M} (hr : ∀ (pc pc' : Nat) (lv : List (Nat × ml_X)), ml_d cX10_book pc .ireturn 1 pc' → True → ml_V E "LostRoom" cX10_book 8 false rm pc lv [ml_i rv]) : ∀ (l0 : Nat) (l1 : Int32) (m : ml_M), fX10_book l0 l1 m = some (rv, rm) → ml_V E "LostRoom" cX10_book 8 false m 0 [(0, ml_r l0), (1, ml_i l1)] [] := by
  intro l0 l1 m h
  unfold fX10_book at h
  exact ml_iload_n dX10_book_0 1 rfl <| ml_b1_of h fun r328 hv327 h => ml_callS dX10_book_1 wm_26 wb_7 (sX10_isText hv327) rfl (Nat.le_of_ble_eq_true rfl) (Nat.le_of_ble_eq_true rfl) rfl <| ml_if_ne dX10_book_4 h (fun _ h => ml_aload_n dX10_book_9 0 rfl <| ml_ck_of h fun hc329 h => ml_getR dX10_book_10 wb_10 hc329 <| ml_lx (mk := ml_r) h fun a330 h => ml_iload_n dX10_book_13 1 rfl <| ml_ck_of h fun hi331 h => ml_aald (kd := 24) dX10_book_14 (by decide) hi331 <| ml_lx (mk := ml_r) h fun a332 h => ml_astore_n (lv' := [(2, ml_r a332), (0, ml_r l0), (1, ml_i l1)]) dX10_book_15 (ml_hn hL rfl) rfl <| ml_aload_n dX10_book_16 0 rfl <| ml_ifnonnull dX10_book_17 h (fun _ h => ml_newOs dX10_book_26 wb_58 h fun a333 m334 hn335 hc336 h => ml_dup dX10_book_29 rfl <| ml_aload_n dX10_book_30 0 rfl <| ml_b1_of h fun m338 hv337 h => ml_callI dX10_book_31 wm_112 wb_59 hn335 (sX1_init hv337) rfl (Nat.le_of_ble_eq_true rfl) (Nat.le_of_ble_eq_true rfl) rfl <| ml_astore_n (lv' := [(3, ml_r a333), (2, ml_r a332), (0, ml_r l0), (1, ml_i l1)]) dX10_book_34 (ml_hn hL rfl) rfl <| ml_aload_n dX10_book_35 0 rfl <| ml_ck_of h fun hc340 h => ml_b1_of h fun m341 hv339 h => ml_callV dX10_book_36 wm_116 wb_60 hc340 (sX1_read hv339) rfl (Nat.le_of_ble_eq_true rfl) (Nat.le_of_ble_eq_true rfl) rfl <| ml_aload_n dX10_book_39 0 rfl <| ml_ck_of h fun hc342 h => ml_getI dX10_book_40 wb_61 hc342 <| ml_bipush dX10_book_43 kc_bm9 <| ml_icmp_eq dX10_book_45 h (fun _ h => ml_aload_n dX10_book_51 2 rfl <| ml_aload_n dX10_book_52 0 rfl <| ml_ck_of h fun hc343 h => ml_putR dX10_book_53 wb_62 hc343 <| ml_lt (m := m341) rfl h fun m344 em345 h => ml_aload_n dX10_book_56 2 rfl <| ml_iconst dX10_book_57 kc_i0 <| ml_putI dX10_book_58 wb_63 (ml_kk em345 hc343) <| ml_lt (m := m344) rfl h fun m346 em347 h => ml_aload_n dX10_book_61 2 rfl <| ml_iconst dX10_book_62 kc_i0 <| ml_putI dX10_book_63 wb_64 (ml_kk em347 (ml_kk em345 hc343)) <| ml_lt (m := m346) rfl h fun m348 em349 h => ml_aload_n dX10_book_66 2 rfl <| ml_iconst dX10_book_67 kc_i0 <| ml_putI dX10_book_68 wb_65 (ml_kk em349 (ml_kk em347 (ml_kk em345 hc343))) <| ml_lt (m := m348) rfl h fun m350 em351 h => ml_aload_n dX10_book_71 2 rfl <| ml_iconst dX10_book_72 kc_i0 <| ml_putI dX10_book_73 wb_66 (ml_kk em351 (ml_kk em349 (ml_kk em347 (ml_kk em345 hc343)))) <| ml_lt (m := m350) rfl h fun m352 em353 h => ml_aload_n dX10_book_76 2 rfl <| ml_getR dX10_book_77 wb_67 (ml_kk em353 (ml_kk em351 (ml_kk em349 (ml_kk em347 (ml_kk em345 hc343))))) <| ml_lx (mk := ml_r) h fun a354 h => ml_iconst dX10_book_80 kc_i1 <| ml_ck_of h fun hc355 h => ml_putZ dX10_book_81 wb_68 hc355 (Or.inr rfl) <| ml_lt (m := m352) rfl h fun m356 em357 h => ml_aload_n dX10_book_84 2 rfl <| ml_getR dX10_book_85 wb_69 (ml_kk em357 (ml_kk em353 (ml_kk em351 (ml_kk em349 (ml_kk em347 (ml_kk em345 hc343)))))) <| ml_lx (mk := ml_r) h fun a358 h => ml_iconst dX10_book_88 kc_i1 <| ml_ck_of h fun hc359 h => ml_putZ dX10_book_89 wb_70 hc359 (Or.inr rfl) <| ml_lt (m := m356) rfl h fun m360 em361 h => ml_aload_n dX10_book_92 2 rfl <| ml_getR dX10_book_93 wb_71 (ml_kk em361 (ml_kk em357 (ml_kk em353 (ml_kk em351 (ml_kk em349 (ml_kk em347 (ml_kk em345 hc343))))))) <| ml_lx (mk := ml_r) h fun a362 h => ml_ck_of h fun hc363 h => ml_getI dX10_book_96 wb_72 hc363 <| ml_rI (mk := ml_i) hr dX10_book_99 (fun _ => trivial) h) (fun _ h => ml_bipush dX10_book_48 kc_bm4 <| ml_rI (mk := ml_i) hr dX10_book_50 (fun _ => trivial) h)) (fun _ h => ml_aload_n dX10_book_20 1 rfl <| ml_iconst dX10_book_21 kc_i1 <| ml_b2_of h fun r365 m366 hv364 h => ml_callV dX10_book_22 wm_36 wb_11 hc329 (sX10_found hv364) rfl (Nat.le_of_ble_eq_true rfl) (Nat.le_of_ble_eq_true rfl) rfl <| ml_rI (mk := ml_i) hr dX10_book_25 (fun _ => trivial) h)) (fun _ h => ml_iconst dX10_book_7 kc_im1 <| ml_rI (mk := ml_i) hr dX10_book_8 (fun _ => trivial) h)
theorem sX10_book {l0 : Nat} {l1 : Int32} {m : ml_M} {rv : Int32} {rm : ml_M} (h : fX10_book l0 l1 m = some (rv, rm)) : ml_Sn yX10_book cX10_book 4 (some .int) 8 [ml_r l0, ml_i l1] m (some (ml_i rv)) rm :=
  ml_Sn_of (P := True) (ini := false) (by decide +kernel) (Nat.le_of_ble_eq_true rfl) (fun h => by cases h) (fun _ => ml_RkI rv) fun E hL hr => wX10_book_0 hL hr _ _ _ h
theorem dL_book_0 : ml_d cL_book 0 (.aload_n 0) 1 1 := ⟨by decide +kernel, rfl⟩
theorem dL_book_1 : ml_d cL_book 1 (.iconst 3) 1 2 := ⟨by decide +kernel, rfl⟩
theorem dL_book_2 : ml_d cL_book 2 (.bipush 120) 2 4 := ⟨by decide +kernel, rfl⟩
theorem dL_book_4 : ml_d cL_book 4 (.invokevirtual 23) 3 7 := ⟨by decide +kernel, rfl⟩
theorem dL_book_7 : ml_d cL_book 7 (.bipush 120) 2 9 := ⟨by decide +kernel, rfl⟩
theorem dL_book_9 : ml_j cL_book 9 (.if_icmp .eq) 14 12 := ⟨5, by decide +kernel, by decide, rfl⟩
theorem dL_book_12 : ml_d cL_book 12 (.iconst 0) 1 13 := ⟨by decide +kernel, rfl⟩
theorem dL_book_13 : ml_d cL_book 13 (.ireturn) 1 14 := ⟨by decide +kernel, rfl⟩
theorem dL_book_14 : ml_d cL_book 14 (.iconst 0) 1 15 := ⟨by decide +kernel, rfl⟩
theorem dL_book_15 : ml_d cL_book 15 (.istore 7) 2 17 := ⟨by decide +kernel, rfl⟩
theorem dL_book_17 : ml_d cL_book 17 (.iconst 0) 1 18 := ⟨by decide +kernel, rfl⟩
theorem dL_book_18 : ml_d cL_book 18 (.istore 8) 2 20 := ⟨by decide +kernel, rfl⟩
theorem dL_book_20 : ml_d cL_book 20 (.iload 8) 2 22 := ⟨by decide +kernel, rfl⟩
theorem dL_book_22 : ml_d cL_book 22 (.iload_n 1) 1 23 := ⟨by decide +kernel, rfl⟩
theorem dL_book_23 : ml_j cL_book 23 (.if_icmp .ge) 133 26 := ⟨110, by decide +kernel, by decide, rfl⟩
theorem dL_book_26 : ml_d cL_book 26 (.aload_n 0) 1 27 := ⟨by decide +kernel, rfl⟩
theorem dL_book_27 : ml_d cL_book 27 (.aload_n 0) 1 28 := ⟨by decide +kernel, rfl⟩
theorem dL_book_28 : ml_d cL_book 28 (.aload_n 0) 1 29 := ⟨by decide +kernel, rfl⟩
theorem dL_book_29 : ml_d cL_book 29 (.aload_n 0) 1 30 := ⟨by decide +kernel, rfl⟩
theorem dL_book_30 : ml_d cL_book 30 (.iload 7) 2 32 := ⟨by decide +kernel, rfl⟩
theorem dL_book_32 : ml_d cL_book 32 (.bipush 108) 2 34 := ⟨by decide +kernel, rfl⟩
theorem dL_book_34 : ml_d cL_book 34 (.invokestatic 14) 3 37 := ⟨by decide +kernel, rfl⟩
theorem dL_book_37 : ml_d cL_book 37 (.aload_n 2) 1 38 := ⟨by decide +kernel, rfl⟩
theorem dL_book_38 : ml_d cL_book 38 (.iconst 5) 1 39 := ⟨by decide +kernel, rfl⟩
theorem dL_book_39 : ml_d cL_book 39 (.iload 8) 2 41 := ⟨by decide +kernel, rfl⟩
theorem dL_book_41 : ml_d cL_book 41 (.imul) 1 42 := ⟨by decide +kernel, rfl⟩
theorem dL_book_42 : ml_d cL_book 42 (.iaload) 1 43 := ⟨by decide +kernel, rfl⟩
theorem dL_book_43 : ml_d cL_book 43 (.invokestatic 27) 3 46 := ⟨by decide +kernel, rfl⟩
theorem dL_book_46 : ml_d cL_book 46 (.bipush 45) 2 48 := ⟨by decide +kernel, rfl⟩
theorem dL_book_48 : ml_d cL_book 48 (.invokestatic 14) 3 51 := ⟨by decide +kernel, rfl⟩
theorem dL_book_51 : ml_d cL_book 51 (.aload_n 2) 1 52 := ⟨by decide +kernel, rfl⟩
theorem dL_book_52 : ml_d cL_book 52 (.iconst 5) 1 53 := ⟨by decide +kernel, rfl⟩
theorem dL_book_53 : ml_d cL_book 53 (.iload 8) 2 55 := ⟨by decide +kernel, rfl⟩
theorem dL_book_55 : ml_d cL_book 55 (.imul) 1 56 := ⟨by decide +kernel, rfl⟩
theorem dL_book_56 : ml_d cL_book 56 (.iconst 1) 1 57 := ⟨by decide +kernel, rfl⟩
theorem dL_book_57 : ml_d cL_book 57 (.iadd) 1 58 := ⟨by decide +kernel, rfl⟩
theorem dL_book_58 : ml_d cL_book 58 (.iaload) 1 59 := ⟨by decide +kernel, rfl⟩
theorem dL_book_59 : ml_d cL_book 59 (.invokestatic 27) 3 62 := ⟨by decide +kernel, rfl⟩
theorem dL_book_62 : ml_d cL_book 62 (.istore 7) 2 64 := ⟨by decide +kernel, rfl⟩
theorem dL_book_64 : ml_d cL_book 64 (.iconst 2) 1 65 := ⟨by decide +kernel, rfl⟩
theorem dL_book_65 : ml_d cL_book 65 (.istore 9) 2 67 := ⟨by decide +kernel, rfl⟩
theorem dL_book_67 : ml_d cL_book 67 (.iload 9) 2 69 := ⟨by decide +kernel, rfl⟩
theorem dL_book_69 : ml_d cL_book 69 (.iconst 5) 1 70 := ⟨by decide +kernel, rfl⟩
theorem dL_book_70 : ml_j cL_book 70 (.if_icmp .ge) 127 73 := ⟨57, by decide +kernel, by decide, rfl⟩
theorem dL_book_73 : ml_d cL_book 73 (.aload_n 0) 1 74 := ⟨by decide +kernel, rfl⟩
theorem dL_book_74 : ml_d cL_book 74 (.aload_n 0) 1 75 := ⟨by decide +kernel, rfl⟩
theorem dL_book_75 : ml_d cL_book 75 (.iload 7) 2 77 := ⟨by decide +kernel, rfl⟩
theorem dL_book_77 : ml_d cL_book 77 (.iload 9) 2 79 := ⟨by decide +kernel, rfl⟩
theorem dL_book_79 : ml_d cL_book 79 (.iconst 2) 1 80 := ⟨by decide +kernel, rfl⟩
theorem dL_book_80 : ml_j cL_book 80 (.if_icmp .ne) 88 83 := ⟨8, by decide +kernel, by decide, rfl⟩
theorem dL_book_83 : ml_d cL_book 83 (.bipush 115) 2 85 := ⟨by decide +kernel, rfl⟩
theorem dL_book_85 : ml_j cL_book 85 .goto 101 88 := ⟨16, by decide +kernel, by decide, rfl⟩
theorem dL_book_88 : ml_d cL_book 88 (.iload 9) 2 90 := ⟨by decide +kernel, rfl⟩
theorem dL_book_90 : ml_d cL_book 90 (.iconst 3) 1 91 := ⟨by decide +kernel, rfl⟩
theorem dL_book_91 : ml_j cL_book 91 (.if_icmp .ne) 99 94 := ⟨8, by decide +kernel, by decide, rfl⟩
theorem dL_book_94 : ml_d cL_book 94 (.bipush 116) 2 96 := ⟨by decide +kernel, rfl⟩
theorem dL_book_96 : ml_j cL_book 96 .goto 101 99 := ⟨5, by decide +kernel, by decide, rfl⟩
theorem dL_book_99 : ml_d cL_book 99 (.bipush 104) 2 101 := ⟨by decide +kernel, rfl⟩
theorem dL_book_101 : ml_d cL_book 101 (.invokestatic 14) 3 104 := ⟨by decide +kernel, rfl⟩
theorem dL_book_104 : ml_d cL_book 104 (.bipush 48) 2 106 := ⟨by decide +kernel, rfl⟩
theorem dL_book_106 : ml_d cL_book 106 (.aload_n 2) 1 107 := ⟨by decide +kernel, rfl⟩
theorem dL_book_107 : ml_d cL_book 107 (.iconst 5) 1 108 := ⟨by decide +kernel, rfl⟩
theorem dL_book_108 : ml_d cL_book 108 (.iload 8) 2 110 := ⟨by decide +kernel, rfl⟩
theorem dL_book_110 : ml_d cL_book 110 (.imul) 1 111 := ⟨by decide +kernel, rfl⟩
theorem dL_book_111 : ml_d cL_book 111 (.iload 9) 2 113 := ⟨by decide +kernel, rfl⟩
theorem dL_book_113 : ml_d cL_book 113 (.iadd) 1 114 := ⟨by decide +kernel, rfl⟩
theorem dL_book_114 : ml_d cL_book 114 (.iaload) 1 115 := ⟨by decide +kernel, rfl⟩
theorem dL_book_115 : ml_d cL_book 115 (.iadd) 1 116 := ⟨by decide +kernel, rfl⟩
theorem dL_book_116 : ml_d cL_book 116 (.invokestatic 14) 3 119 := ⟨by decide +kernel, rfl⟩
theorem dL_book_119 : ml_d cL_book 119 (.istore 7) 2 121 := ⟨by decide +kernel, rfl⟩
theorem dL_book_121 : ml_d cL_book 121 (.iinc 9 1) 3 124 := ⟨by decide +kernel, rfl⟩
theorem dL_book_124 : ml_j cL_book 124 .goto 67 127 := ⟨(-57), by decide +kernel, by decide, rfl⟩
theorem dL_book_127 : ml_d cL_book 127 (.iinc 8 1) 3 130 := ⟨by decide +kernel, rfl⟩
theorem dL_book_130 : ml_j cL_book 130 .goto 20 133 := ⟨(-110), by decide +kernel, by decide, rfl⟩
theorem dL_book_133 : ml_d cL_book 133 (.iconst 0) 1 134 := ⟨by decide +kernel, rfl⟩
theorem dL_book_134 : ml_d cL_book 134 (.istore 8) 2 136 := ⟨by decide +kernel, rfl⟩
theorem dL_book_136 : ml_d cL_book 136 (.iload 8) 2 138 := ⟨by decide +kernel, rfl⟩
theorem dL_book_138 : ml_d cL_book 138 (.iload_n 3) 1 139 := ⟨by decide +kernel, rfl⟩
theorem dL_book_139 : ml_j cL_book 139 (.if_icmp .ge) 228 142 := ⟨89, by decide +kernel, by decide, rfl⟩
theorem dL_book_142 : ml_d cL_book 142 (.aload_n 0) 1 143 := ⟨by decide +kernel, rfl⟩
theorem dL_book_143 : ml_d cL_book 143 (.iload 7) 2 145 := ⟨by decide +kernel, rfl⟩
theorem dL_book_145 : ml_d cL_book 145 (.bipush 107) 2 147 := ⟨by decide +kernel, rfl⟩
theorem dL_book_147 : ml_d cL_book 147 (.invokestatic 14) 3 150 := ⟨by decide +kernel, rfl⟩
theorem dL_book_150 : ml_d cL_book 150 (.istore 7) 2 152 := ⟨by decide +kernel, rfl⟩
theorem dL_book_152 : ml_d cL_book 152 (.sipush 1000) 3 155 := ⟨by decide +kernel, rfl⟩
theorem dL_book_155 : ml_d cL_book 155 (.istore 9) 2 157 := ⟨by decide +kernel, rfl⟩
theorem dL_book_157 : ml_d cL_book 157 (.iload 9) 2 159 := ⟨by decide +kernel, rfl⟩
theorem dL_book_159 : ml_j cL_book 159 (.ifCond .le) 196 162 := ⟨37, by decide +kernel, by decide, rfl⟩
theorem dL_book_162 : ml_d cL_book 162 (.aload_n 0) 1 163 := ⟨by decide +kernel, rfl⟩
theorem dL_book_163 : ml_d cL_book 163 (.iload 7) 2 165 := ⟨by decide +kernel, rfl⟩
theorem dL_book_165 : ml_d cL_book 165 (.bipush 48) 2 167 := ⟨by decide +kernel, rfl⟩
theorem dL_book_167 : ml_d cL_book 167 (.aload 4) 2 169 := ⟨by decide +kernel, rfl⟩
theorem dL_book_169 : ml_d cL_book 169 (.iconst 2) 1 170 := ⟨by decide +kernel, rfl⟩
theorem dL_book_170 : ml_d cL_book 170 (.iload 8) 2 172 := ⟨by decide +kernel, rfl⟩
theorem dL_book_172 : ml_d cL_book 172 (.imul) 1 173 := ⟨by decide +kernel, rfl⟩
theorem dL_book_173 : ml_d cL_book 173 (.iaload) 1 174 := ⟨by decide +kernel, rfl⟩
theorem dL_book_174 : ml_d cL_book 174 (.iload 9) 2 176 := ⟨by decide +kernel, rfl⟩
theorem dL_book_176 : ml_d cL_book 176 (.idiv) 1 177 := ⟨by decide +kernel, rfl⟩
theorem dL_book_177 : ml_d cL_book 177 (.bipush 10) 2 179 := ⟨by decide +kernel, rfl⟩
theorem dL_book_179 : ml_d cL_book 179 (.irem) 1 180 := ⟨by decide +kernel, rfl⟩
theorem dL_book_180 : ml_d cL_book 180 (.iadd) 1 181 := ⟨by decide +kernel, rfl⟩
theorem dL_book_181 : ml_d cL_book 181 (.invokestatic 14) 3 184 := ⟨by decide +kernel, rfl⟩
theorem dL_book_184 : ml_d cL_book 184 (.istore 7) 2 186 := ⟨by decide +kernel, rfl⟩
theorem dL_book_186 : ml_d cL_book 186 (.iload 9) 2 188 := ⟨by decide +kernel, rfl⟩
theorem dL_book_188 : ml_d cL_book 188 (.bipush 10) 2 190 := ⟨by decide +kernel, rfl⟩
theorem dL_book_190 : ml_d cL_book 190 (.idiv) 1 191 := ⟨by decide +kernel, rfl⟩
theorem dL_book_191 : ml_d cL_book 191 (.istore 9) 2 193 := ⟨by decide +kernel, rfl⟩
theorem dL_book_193 : ml_j cL_book 193 .goto 157 196 := ⟨(-36), by decide +kernel, by decide, rfl⟩
theorem dL_book_196 : ml_d cL_book 196 (.aload_n 0) 1 197 := ⟨by decide +kernel, rfl⟩
theorem dL_book_197 : ml_d cL_book 197 (.aload_n 0) 1 198 := ⟨by decide +kernel, rfl⟩
theorem dL_book_198 : ml_d cL_book 198 (.iload 7) 2 200 := ⟨by decide +kernel, rfl⟩
theorem dL_book_200 : ml_d cL_book 200 (.bipush 94) 2 202 := ⟨by decide +kernel, rfl⟩
theorem dL_book_202 : ml_d cL_book 202 (.invokestatic 14) 3 205 := ⟨by decide +kernel, rfl⟩
theorem dL_book_205 : ml_d cL_book 205 (.bipush 48) 2 207 := ⟨by decide +kernel, rfl⟩
theorem dL_book_207 : ml_d cL_book 207 (.aload 4) 2 209 := ⟨by decide +kernel, rfl⟩
theorem dL_book_209 : ml_d cL_book 209 (.iconst 2) 1 210 := ⟨by decide +kernel, rfl⟩
theorem dL_book_210 : ml_d cL_book 210 (.iload 8) 2 212 := ⟨by decide +kernel, rfl⟩
theorem dL_book_212 : ml_d cL_book 212 (.imul) 1 213 := ⟨by decide +kernel, rfl⟩
theorem dL_book_213 : ml_d cL_book 213 (.iconst 1) 1 214 := ⟨by decide +kernel, rfl⟩
theorem dL_book_214 : ml_d cL_book 214 (.iadd) 1 215 := ⟨by decide +kernel, rfl⟩
theorem dL_book_215 : ml_d cL_book 215 (.iaload) 1 216 := ⟨by decide +kernel, rfl⟩
theorem dL_book_216 : ml_d cL_book 216 (.iadd) 1 217 := ⟨by decide +kernel, rfl⟩
theorem dL_book_217 : ml_d cL_book 217 (.invokestatic 14) 3 220 := ⟨by decide +kernel, rfl⟩
theorem dL_book_220 : ml_d cL_book 220 (.istore 7) 2 222 := ⟨by decide +kernel, rfl⟩
theorem dL_book_222 : ml_d cL_book 222 (.iinc 8 1) 3 225 := ⟨by decide +kernel, rfl⟩
theorem dL_book_225 : ml_j cL_book 225 .goto 136 228 := ⟨(-89), by decide +kernel, by decide, rfl⟩
theorem dL_book_228 : ml_d cL_book 228 (.iconst 0) 1 229 := ⟨by decide +kernel, rfl⟩
theorem dL_book_229 : ml_d cL_book 229 (.istore 8) 2 231 := ⟨by decide +kernel, rfl⟩
theorem dL_book_231 : ml_d cL_book 231 (.iload 8) 2 233 := ⟨by decide +kernel, rfl⟩
theorem dL_book_233 : ml_d cL_book 233 (.iload 5) 2 235 := ⟨by decide +kernel, rfl⟩
theorem dL_book_235 : ml_j cL_book 235 (.if_icmp .ge) 290 238 := ⟨55, by decide +kernel, by decide, rfl⟩
theorem dL_book_238 : ml_d cL_book 238 (.aload_n 0) 1 239 := ⟨by decide +kernel, rfl⟩
theorem dL_book_239 : ml_d cL_book 239 (.aload_n 0) 1 240 := ⟨by decide +kernel, rfl⟩
theorem dL_book_240 : ml_d cL_book 240 (.aload_n 0) 1 241 := ⟨by decide +kernel, rfl⟩
theorem dL_book_241 : ml_d cL_book 241 (.aload_n 0) 1 242 := ⟨by decide +kernel, rfl⟩
theorem dL_book_242 : ml_d cL_book 242 (.iload 7) 2 244 := ⟨by decide +kernel, rfl⟩
theorem dL_book_244 : ml_d cL_book 244 (.bipush 117) 2 246 := ⟨by decide +kernel, rfl⟩
theorem dL_book_246 : ml_d cL_book 246 (.invokestatic 14) 3 249 := ⟨by decide +kernel, rfl⟩
theorem dL_book_249 : ml_d cL_book 249 (.bipush 48) 2 251 := ⟨by decide +kernel, rfl⟩
theorem dL_book_251 : ml_d cL_book 251 (.aload 6) 2 253 := ⟨by decide +kernel, rfl⟩
theorem dL_book_253 : ml_d cL_book 253 (.iconst 2) 1 254 := ⟨by decide +kernel, rfl⟩
theorem dL_book_254 : ml_d cL_book 254 (.iload 8) 2 256 := ⟨by decide +kernel, rfl⟩
theorem dL_book_256 : ml_d cL_book 256 (.imul) 1 257 := ⟨by decide +kernel, rfl⟩
theorem dL_book_257 : ml_d cL_book 257 (.iaload) 1 258 := ⟨by decide +kernel, rfl⟩
theorem dL_book_258 : ml_d cL_book 258 (.iadd) 1 259 := ⟨by decide +kernel, rfl⟩
theorem dL_book_259 : ml_d cL_book 259 (.invokestatic 14) 3 262 := ⟨by decide +kernel, rfl⟩
theorem dL_book_262 : ml_d cL_book 262 (.bipush 47) 2 264 := ⟨by decide +kernel, rfl⟩
theorem dL_book_264 : ml_d cL_book 264 (.invokestatic 14) 3 267 := ⟨by decide +kernel, rfl⟩
theorem dL_book_267 : ml_d cL_book 267 (.bipush 48) 2 269 := ⟨by decide +kernel, rfl⟩
theorem dL_book_269 : ml_d cL_book 269 (.aload 6) 2 271 := ⟨by decide +kernel, rfl⟩
theorem dL_book_271 : ml_d cL_book 271 (.iconst 2) 1 272 := ⟨by decide +kernel, rfl⟩
theorem dL_book_272 : ml_d cL_book 272 (.iload 8) 2 274 := ⟨by decide +kernel, rfl⟩
theorem dL_book_274 : ml_d cL_book 274 (.imul) 1 275 := ⟨by decide +kernel, rfl⟩
theorem dL_book_275 : ml_d cL_book 275 (.iconst 1) 1 276 := ⟨by decide +kernel, rfl⟩
theorem dL_book_276 : ml_d cL_book 276 (.iadd) 1 277 := ⟨by decide +kernel, rfl⟩
theorem dL_book_277 : ml_d cL_book 277 (.iaload) 1 278 := ⟨by decide +kernel, rfl⟩
theorem dL_book_278 : ml_d cL_book 278 (.iadd) 1 279 := ⟨by decide +kernel, rfl⟩
theorem dL_book_279 : ml_d cL_book 279 (.invokestatic 14) 3 282 := ⟨by decide +kernel, rfl⟩
theorem dL_book_282 : ml_d cL_book 282 (.istore 7) 2 284 := ⟨by decide +kernel, rfl⟩
theorem dL_book_284 : ml_d cL_book 284 (.iinc 8 1) 3 287 := ⟨by decide +kernel, rfl⟩
theorem dL_book_287 : ml_j cL_book 287 .goto 231 290 := ⟨(-56), by decide +kernel, by decide, rfl⟩
theorem dL_book_290 : ml_d cL_book 290 (.iload 7) 2 292 := ⟨by decide +kernel, rfl⟩
theorem dL_book_292 : ml_j cL_book 292 (.ifCond .lt) 318 295 := ⟨26, by decide +kernel, by decide, rfl⟩
theorem dL_book_295 : ml_d cL_book 295 (.aload_n 0) 1 296 := ⟨by decide +kernel, rfl⟩
theorem dL_book_296 : ml_d cL_book 296 (.iconst 3) 1 297 := ⟨by decide +kernel, rfl⟩
theorem dL_book_297 : ml_d cL_book 297 (.invokevirtual 30) 3 300 := ⟨by decide +kernel, rfl⟩
theorem dL_book_300 : ml_d cL_book 300 (.bipush (-9)) 2 302 := ⟨by decide +kernel, rfl⟩
theorem dL_book_302 : ml_j cL_book 302 (.if_icmp .ne) 318 305 := ⟨16, by decide +kernel, by decide, rfl⟩
theorem dL_book_305 : ml_d cL_book 305 (.aload_n 0) 1 306 := ⟨by decide +kernel, rfl⟩
theorem dL_book_306 : ml_d cL_book 306 (.iconst 3) 1 307 := ⟨by decide +kernel, rfl⟩
theorem dL_book_307 : ml_d cL_book 307 (.invokevirtual 34) 3 310 := ⟨by decide +kernel, rfl⟩
theorem dL_book_310 : ml_d cL_book 310 (.iload_n 3) 1 311 := ⟨by decide +kernel, rfl⟩
theorem dL_book_311 : ml_j cL_book 311 (.if_icmp .ne) 318 314 := ⟨7, by decide +kernel, by decide, rfl⟩
theorem dL_book_314 : ml_d cL_book 314 (.iconst 1) 1 315 := ⟨by decide +kernel, rfl⟩
theorem dL_book_315 : ml_j cL_book 315 .goto 319 318 := ⟨4, by decide +kernel, by decide, rfl⟩
theorem dL_book_318 : ml_d cL_book 318 (.iconst 0) 1 319 := ⟨by decide +kernel, rfl⟩
theorem dL_book_319 : ml_d cL_book 319 (.ireturn) 1 320 := ⟨by decide +kernel, rfl⟩
def fL_book_101 (k20 : Nat → Int32 → Nat → Int32 → Nat → Int32 → Nat → Int32 → Int32 → ml_M → Option (Int32 × ml_M)) (k67 : Nat → Int32 → Nat → Int32 → Nat → Int32 → Nat → Int32 → Int32 → Int32 → ml_M → Option (Int32 × ml_M)) (l0 : Nat) (l1 : Int32) (l2 : Nat) (l3 : Int32) (l4 : Nat) (l5 : Int32) (l6 : Nat) (l8 : Int32) (l9 : Int32) (t0 : Int32) (t1 : Int32) (t2 : Nat) (t3 : Nat) (m : ml_M) : Option (Int32 × ml_M) :=
    ml_b2 (fL_put t2 t1 t0 m) fun r368 m369 =>
    if ml_in m369 l2 20 (((5 : Int32) * l8) + l9) then
    ml_b2 (fL_put t3 r368 ((48 : Int32) + (ml_I m369 l2 (((5 : Int32) * l8) + l9).toNatClampNeg)) m369) fun r372 m373 =>
    k67 l0 l1 l2 l3 l4 l5 l6 r372 l8 (l9 + (1 : Int32)) m373
    else none
theorem vL_book_101 {E : ml_E} (hL : ml_eL E = 10) {rv : Int32} {rm : ml_M} (hr : ∀ (pc pc' : Nat) (lv : List (Nat × ml_X)), ml_d cL_book pc .ireturn 1 pc' → (rv = 0 ∨ rv = 1) → ml_V E "LostRoomLaw" cL_book 9 false rm pc lv [ml_i rv]) {k20 : Nat → Int32 → Nat → Int32 → Nat → Int32 → Nat → Int32 → Int32 → ml_M → Option (Int32 × ml_M)} (hk20 : ∀ (l0 : Nat) (l1 : Int32) (l2 : Nat) (l3 : Int32) (l4 : Nat) (l5 : Int32) (l6 : Nat) (l7 : Int32) (l8 : Int32) (m : ml_M), k20 l0 l1 l2 l3 l4 l5 l6 l7 l8 m = some (rv, rm) → ml_V E "LostRoomLaw" cL_book 9 false m 20 [(0, ml_r l0), (1, ml_i l1), (2, ml_r l2), (3, ml_i l3), (4, ml_r l4), (5, ml_i l5), (6, ml_r l6), (7, ml_i l7), (8, ml_i l8)] []) {k67 : Nat → Int32 → Nat → Int32 → Nat → Int32 → Nat → Int32 → Int32 → Int32 → ml_M → Option (Int32 × ml_M)} (hk67 : ∀ (l0 : Nat) (l1 : Int32) (l2 : Nat) (l3 : Int32) (l4 : Nat) (l5 : Int32) (l6 : Nat) (l7 : Int32) (l8 : Int32) (l9 : Int32) (m : ml_M), k67 l0 l1 l2 l3 l4 l5 l6 l7 l8 l9 m = some (rv, rm) → ml_V E "LostRoomLaw" cL_book 9 false m 67 [(0, ml_r l0), (1, ml_i l1), (2, ml_r l2), (3, ml_i l3), (4, ml_r l4), (5, ml_i l5), (6, ml_r l6), (7, ml_i l7), (8, ml_i l8), (9, ml_i l9)] []) : ∀ (l0 : Nat) (l1 : Int32) (l2 : Nat) (l3 : Int32) (l4 : Nat) (l5 : Int32) (l6 : Nat) (l8 : Int32) (l9 : Int32) (t0 : Int32) (t1 : Int32) (t2 : Nat) (t3 : Nat) (m : ml_M), fL_book_101 k20 k67 l0 l1 l2 l3 l4 l5 l6 l8 l9 t0 t1 t2 t3 m = some (rv, rm) → ml_V E "LostRoomLaw" cL_book 9 false m 101 [(0, ml_r l0), (1, ml_i l1), (2, ml_r l2), (3, ml_i l3), (4, ml_r l4), (5, ml_i l5), (6, ml_r l6), (8, ml_i l8), (9, ml_i l9)] [ml_i t0, ml_i t1, ml_r t2, ml_r t3] := by
  intro l0 l1 l2 l3 l4 l5 l6 l8 l9 t0 t1 t2 t3 m h
  unfold fL_book_101 at h
  exact ml_b2_of h fun r368 m369 hv367 h => ml_callS dL_book_101 wm_44 wb_13 (sL_put hv367) rfl (Nat.le_of_ble_eq_true rfl) (Nat.le_of_ble_eq_true rfl) rfl <| ml_bipush dL_book_104 kc_b48 <| ml_aload_n dL_book_106 2 rfl <| ml_iconst dL_book_107 kc_i5 <| ml_iload dL_book_108 7 rfl <| ml_imul dL_book_110 <| ml_iload dL_book_111 8 rfl <| ml_iadd dL_book_113 <| ml_ck_of h fun hi370 h => ml_iald dL_book_114 hi370 <| ml_iadd dL_book_115 <| ml_b2_of h fun r372 m373 hv371 h => ml_callS dL_book_116 wm_44 wb_13 (sL_put hv371) rfl (Nat.le_of_ble_eq_true rfl) (Nat.le_of_ble_eq_true rfl) rfl <| ml_istore (lv' := [(7, ml_i r372), (0, ml_r l0), (1, ml_i l1), (2, ml_r l2), (3, ml_i l3), (4, ml_r l4), (5, ml_i l5), (6, ml_r l6), (8, ml_i l8), (9, ml_i l9)]) dL_book_119 (ml_hn hL rfl) rfl <| ml_iinc (lv' := [(9, ml_i (l9 + (1 : Int32))), (7, ml_i r372), (0, ml_r l0), (1, ml_i l1), (2, ml_r l2), (3, ml_i l3), (4, ml_r l4), (5, ml_i l5), (6, ml_r l6), (8, ml_i l8)]) dL_book_121 9 rfl (congrArg (l9 + ·) kc_i1) (ml_hn hL rfl) rfl <| ml_goto dL_book_124 <| ml_V.sub [2, 3, 4, 5, 6, 7, 8, 1, 9, 0] rfl (hk67 _ _ _ _ _ _ _ _ _ _ _ h)
def fL_book_127 (k20 : Nat → Int32 → Nat → Int32 → Nat → Int32 → Nat → Int32 → Int32 → ml_M → Option (Int32 × ml_M)) (l0 : Nat) (l1 : Int32) (l2 : Nat) (l3 : Int32) (l4 : Nat) (l5 : Int32) (l6 : Nat) (l7 : Int32) (l8 : Int32) (m : ml_M) : Option (Int32 × ml_M) :=
    k20 l0 l1 l2 l3 l4 l5 l6 l7 (l8 + (1 : Int32)) m
theorem vL_book_127 {E : ml_E} (hL : ml_eL E = 10) {rv : Int32} {rm : ml_M} (hr : ∀ (pc pc' : Nat) (lv : List (Nat × ml_X)), ml_d cL_book pc .ireturn 1 pc' → (rv = 0 ∨ rv = 1) → ml_V E "LostRoomLaw" cL_book 9 false rm pc lv [ml_i rv]) {k20 : Nat → Int32 → Nat → Int32 → Nat → Int32 → Nat → Int32 → Int32 → ml_M → Option (Int32 × ml_M)} (hk20 : ∀ (l0 : Nat) (l1 : Int32) (l2 : Nat) (l3 : Int32) (l4 : Nat) (l5 : Int32) (l6 : Nat) (l7 : Int32) (l8 : Int32) (m : ml_M), k20 l0 l1 l2 l3 l4 l5 l6 l7 l8 m = some (rv, rm) → ml_V E "LostRoomLaw" cL_book 9 false m 20 [(0, ml_r l0), (1, ml_i l1), (2, ml_r l2), (3, ml_i l3), (4, ml_r l4), (5, ml_i l5), (6, ml_r l6), (7, ml_i l7), (8, ml_i l8)] []) : ∀ (l0 : Nat) (l1 : Int32) (l2 : Nat) (l3 : Int32) (l4 : Nat) (l5 : Int32) (l6 : Nat) (l7 : Int32) (l8 : Int32) (m : ml_M), fL_book_127 k20 l0 l1 l2 l3 l4 l5 l6 l7 l8 m = some (rv, rm) → ml_V E "LostRoomLaw" cL_book 9 false m 127 [(0, ml_r l0), (1, ml_i l1), (2, ml_r l2), (3, ml_i l3), (4, ml_r l4), (5, ml_i l5), (6, ml_r l6), (7, ml_i l7), (8, ml_i l8)] [] := by
  intro l0 l1 l2 l3 l4 l5 l6 l7 l8 m h
  unfold fL_book_127 at h
  exact ml_iinc (lv' := [(8, ml_i (l8 + (1 : Int32))), (0, ml_r l0), (1, ml_i l1), (2, ml_r l2), (3, ml_i l3), (4, ml_r l4), (5, ml_i l5), (6, ml_r l6), (7, ml_i l7)]) dL_book_127 8 rfl (congrArg (l8 + ·) kc_i1) (ml_hn hL rfl) rfl <| ml_goto dL_book_130 <| ml_V.sub [1, 2, 3, 4, 5, 6, 7, 8, 0] rfl (hk20 _ _ _ _ _ _ _ _ _ _ h)
def fL_book_67 (k20 : Nat → Int32 → Nat → Int32 → Nat → Int32 → Nat → Int32 → Int32 → ml_M → Option (Int32 × ml_M)) : Nat → Nat → Int32 → Nat → Int32 → Nat → Int32 → Nat → Int32 → Int32 → Int32 → ml_M → Option (Int32 × ml_M)
  | 0, _, _, _, _, _, _, _, _, _, _, _ => none
  | fu + 1, l0, l1, l2, l3, l4, l5, l6, l7, l8, l9, m =>
    if (5 : Int32) ≤ l9 then
    fL_book_127 k20 l0 l1 l2 l3 l4 l5 l6 l7 l8 m
    else
    if l9 = (2 : Int32) then
    fL_book_101 k20 (fL_book_67 k20 fu) l0 l1 l2 l3 l4 l5 l6 l8 l9 (115 : Int32) l7 l0 l0 m
    else
    if l9 = (3 : Int32) then
    fL_book_101 k20 (fL_book_67 k20 fu) l0 l1 l2 l3 l4 l5 l6 l8 l9 (116 : Int32) l7 l0 l0 m
    else
    fL_book_101 k20 (fL_book_67 k20 fu) l0 l1 l2 l3 l4 l5 l6 l8 l9 (104 : Int32) l7 l0 l0 m
theorem vL_book_67 {E : ml_E} (hL : ml_eL E = 10) {rv : Int32} {rm : ml_M} (hr : ∀ (pc pc' : Nat) (lv : List (Nat × ml_X)), ml_d cL_book pc .ireturn 1 pc' → (rv = 0 ∨ rv = 1) → ml_V E "LostRoomLaw" cL_book 9 false rm pc lv [ml_i rv]) {k20 : Nat → Int32 → Nat → Int32 → Nat → Int32 → Nat → Int32 → Int32 → ml_M → Option (Int32 × ml_M)} (hk20 : ∀ (l0 : Nat) (l1 : Int32) (l2 : Nat) (l3 : Int32) (l4 : Nat) (l5 : Int32) (l6 : Nat) (l7 : Int32) (l8 : Int32) (m : ml_M), k20 l0 l1 l2 l3 l4 l5 l6 l7 l8 m = some (rv, rm) → ml_V E "LostRoomLaw" cL_book 9 false m 20 [(0, ml_r l0), (1, ml_i l1), (2, ml_r l2), (3, ml_i l3), (4, ml_r l4), (5, ml_i l5), (6, ml_r l6), (7, ml_i l7), (8, ml_i l8)] []) : ∀ (fu : Nat) (l0 : Nat) (l1 : Int32) (l2 : Nat) (l3 : Int32) (l4 : Nat) (l5 : Int32) (l6 : Nat) (l7 : Int32) (l8 : Int32) (l9 : Int32) (m : ml_M), fL_book_67 k20 fu l0 l1 l2 l3 l4 l5 l6 l7 l8 l9 m = some (rv, rm) → ml_V E "LostRoomLaw" cL_book 9 false m 67 [(0, ml_r l0), (1, ml_i l1), (2, ml_r l2), (3, ml_i l3), (4, ml_r l4), (5, ml_i l5), (6, ml_r l6), (7, ml_i l7), (8, ml_i l8), (9, ml_i l9)] [] := by
  intro fu
  induction fu with
  | zero => intro l0 l1 l2 l3 l4 l5 l6 l7 l8 l9 m h; exact ml_none h
  | succ fu ih =>
    intro l0 l1 l2 l3 l4 l5 l6 l7 l8 l9 m h
    have hk67 := ih
    unfold fL_book_67 at h
    exact ml_iload dL_book_67 9 rfl <| ml_iconst dL_book_69 kc_i5 <| ml_icmp_ge dL_book_70 h (fun _ h => ml_V.sub [0, 1, 2, 3, 4, 5, 6, 7, 8] rfl (vL_book_127 hL hr hk20 _ _ _ _ _ _ _ _ _ _ h)) (fun _ h => ml_aload_n dL_book_73 0 rfl <| ml_aload_n dL_book_74 0 rfl <| ml_iload dL_book_75 7 rfl <| ml_iload dL_book_77 9 rfl <| ml_iconst dL_book_79 kc_i2 <| ml_icmp_ne dL_book_80 h (fun _ h => ml_iload dL_book_88 9 rfl <| ml_iconst dL_book_90 kc_i3 <| ml_icmp_ne dL_book_91 h (fun _ h => ml_bipush dL_book_99 kc_b104 <| ml_V.sub [0, 1, 2, 3, 4, 5, 6, 8, 9] rfl (vL_book_101 hL hr hk20 hk67 _ _ _ _ _ _ _ _ _ _ _ _ _ _ h)) (fun _ h => ml_bipush dL_book_94 kc_b116 <| ml_goto dL_book_96 <| ml_V.sub [0, 1, 2, 3, 4, 5, 6, 8, 9] rfl (vL_book_101 hL hr hk20 hk67 _ _ _ _ _ _ _ _ _ _ _ _ _ _ h))) (fun _ h => ml_bipush dL_book_83 kc_b115 <| ml_goto dL_book_85 <| ml_V.sub [0, 1, 2, 3, 4, 5, 6, 8, 9] rfl (vL_book_101 hL hr hk20 hk67 _ _ _ _ _ _ _ _ _ _ _ _ _ _ h)))
def fL_book_196 (k136 : Nat → Int32 → Nat → Int32 → Nat → Int32 → Int32 → ml_M → Option (Int32 × ml_M)) (l0 : Nat) (l3 : Int32) (l4 : Nat) (l5 : Int32) (l6 : Nat) (l7 : Int32) (l8 : Int32) (m : ml_M) : Option (Int32 × ml_M) :=
    ml_b2 (fL_put l0 l7 (94 : Int32) m) fun r375 m376 =>
    if ml_in m376 l4 20 (((2 : Int32) * l8) + (1 : Int32)) then
    ml_b2 (fL_put l0 r375 ((48 : Int32) + (ml_I m376 l4 (((2 : Int32) * l8) + (1 : Int32)).toNatClampNeg)) m376) fun r379 m380 =>
    k136 l0 l3 l4 l5 l6 r379 (l8 + (1 : Int32)) m380
    else none
theorem vL_book_196 {E : ml_E} (hL : ml_eL E = 10) {rv : Int32} {rm : ml_M} (hr : ∀ (pc pc' : Nat) (lv : List (Nat × ml_X)), ml_d cL_book pc .ireturn 1 pc' → (rv = 0 ∨ rv = 1) → ml_V E "LostRoomLaw" cL_book 9 false rm pc lv [ml_i rv]) {k136 : Nat → Int32 → Nat → Int32 → Nat → Int32 → Int32 → ml_M → Option (Int32 × ml_M)} (hk136 : ∀ (l0 : Nat) (l3 : Int32) (l4 : Nat) (l5 : Int32) (l6 : Nat) (l7 : Int32) (l8 : Int32) (m : ml_M), k136 l0 l3 l4 l5 l6 l7 l8 m = some (rv, rm) → ml_V E "LostRoomLaw" cL_book 9 false m 136 [(0, ml_r l0), (3, ml_i l3), (4, ml_r l4), (5, ml_i l5), (6, ml_r l6), (7, ml_i l7), (8, ml_i l8)] []) : ∀ (l0 : Nat) (l3 : Int32) (l4 : Nat) (l5 : Int32) (l6 : Nat) (l7 : Int32) (l8 : Int32) (m : ml_M), fL_book_196 k136 l0 l3 l4 l5 l6 l7 l8 m = some (rv, rm) → ml_V E "LostRoomLaw" cL_book 9 false m 196 [(0, ml_r l0), (3, ml_i l3), (4, ml_r l4), (5, ml_i l5), (6, ml_r l6), (7, ml_i l7), (8, ml_i l8)] [] := by
  intro l0 l3 l4 l5 l6 l7 l8 m h
  unfold fL_book_196 at h
  exact ml_aload_n dL_book_196 0 rfl <| ml_aload_n dL_book_197 0 rfl <| ml_iload dL_book_198 5 rfl <| ml_bipush dL_book_200 kc_b94 <| ml_b2_of h fun r375 m376 hv374 h => ml_callS dL_book_202 wm_44 wb_13 (sL_put hv374) rfl (Nat.le_of_ble_eq_true rfl) (Nat.le_of_ble_eq_true rfl) rfl <| ml_bipush dL_book_205 kc_b48 <| ml_aload dL_book_207 2 rfl <| ml_iconst dL_book_209 kc_i2 <| ml_iload dL_book_210 6 rfl <| ml_imul dL_book_212 <| ml_iconst dL_book_213 kc_i1 <| ml_iadd dL_book_214 <| ml_ck_of h fun hi377 h => ml_iald dL_book_215 hi377 <| ml_iadd dL_book_216 <| ml_b2_of h fun r379 m380 hv378 h => ml_callS dL_book_217 wm_44 wb_13 (sL_put hv378) rfl (Nat.le_of_ble_eq_true rfl) (Nat.le_of_ble_eq_true rfl) rfl <| ml_istore (lv' := [(7, ml_i r379), (0, ml_r l0), (3, ml_i l3), (4, ml_r l4), (5, ml_i l5), (6, ml_r l6), (8, ml_i l8)]) dL_book_220 (ml_hn hL rfl) rfl <| ml_iinc (lv' := [(8, ml_i (l8 + (1 : Int32))), (7, ml_i r379), (0, ml_r l0), (3, ml_i l3), (4, ml_r l4), (5, ml_i l5), (6, ml_r l6)]) dL_book_222 6 rfl (congrArg (l8 + ·) kc_i1) (ml_hn hL rfl) rfl <| ml_goto dL_book_225 <| ml_V.sub [2, 3, 4, 5, 6, 1, 0] rfl (hk136 _ _ _ _ _ _ _ _ h)
def fL_book_157 (k136 : Nat → Int32 → Nat → Int32 → Nat → Int32 → Int32 → ml_M → Option (Int32 × ml_M)) : Nat → Nat → Int32 → Nat → Int32 → Nat → Int32 → Int32 → Int32 → ml_M → Option (Int32 × ml_M)
  | 0, _, _, _, _, _, _, _, _, _ => none
  | fu + 1, l0, l3, l4, l5, l6, l7, l8, l9, m =>
    if l9 ≤ 0 then
    fL_book_196 k136 l0 l3 l4 l5 l6 l7 l8 m
    else
    if ml_in m l4 20 ((2 : Int32) * l8) then
    if ¬ l9 = 0 then
    ml_b2 (fL_put l0 l7 ((48 : Int32) + (((ml_I m l4 ((2 : Int32) * l8).toNatClampNeg) / l9) - ((ml_I m l4 ((2 : Int32) * l8).toNatClampNeg) / l9) / (10 : Int32) * (10 : Int32))) m) fun r384 m385 =>
    ml_let (l9 / (10 : Int32)) fun x386 =>
    (fL_book_157 k136 fu) l0 l3 l4 l5 l6 r384 l8 x386 m385
    else none
    else none
theorem vL_book_157 {E : ml_E} (hL : ml_eL E = 10) {rv : Int32} {rm : ml_M} (hr : ∀ (pc pc' : Nat) (lv : List (Nat × ml_X)), ml_d cL_book pc .ireturn 1 pc' → (rv = 0 ∨ rv = 1) → ml_V E "LostRoomLaw" cL_book 9 false rm pc lv [ml_i rv]) {k136 : Nat → Int32 → Nat → Int32 → Nat → Int32 → Int32 → ml_M → Option (Int32 × ml_M)} (hk136 : ∀ (l0 : Nat) (l3 : Int32) (l4 : Nat) (l5 : Int32) (l6 : Nat) (l7 : Int32) (l8 : Int32) (m : ml_M), k136 l0 l3 l4 l5 l6 l7 l8 m = some (rv, rm) → ml_V E "LostRoomLaw" cL_book 9 false m 136 [(0, ml_r l0), (3, ml_i l3), (4, ml_r l4), (5, ml_i l5), (6, ml_r l6), (7, ml_i l7), (8, ml_i l8)] []) : ∀ (fu : Nat) (l0 : Nat) (l3 : Int32) (l4 : Nat) (l5 : Int32) (l6 : Nat) (l7 : Int32) (l8 : Int32) (l9 : Int32) (m : ml_M), fL_book_157 k136 fu l0 l3 l4 l5 l6 l7 l8 l9 m = some (rv, rm) → ml_V E "LostRoomLaw" cL_book 9 false m 157 [(0, ml_r l0), (3, ml_i l3), (4, ml_r l4), (5, ml_i l5), (6, ml_r l6), (7, ml_i l7), (8, ml_i l8), (9, ml_i l9)] [] := by
  intro fu
  induction fu with
  | zero => intro l0 l3 l4 l5 l6 l7 l8 l9 m h; exact ml_none h
  | succ fu ih =>
    intro l0 l3 l4 l5 l6 l7 l8 l9 m h
    have hk157 := ih
    unfold fL_book_157 at h
    exact ml_iload dL_book_157 7 rfl <| ml_if_le dL_book_159 h (fun _ h => ml_V.sub [0, 1, 2, 3, 4, 5, 6] rfl (vL_book_196 hL hr hk136 _ _ _ _ _ _ _ _ h)) (fun _ h => ml_aload_n dL_book_162 0 rfl <| ml_iload dL_book_163 5 rfl <| ml_bipush dL_book_165 kc_b48 <| ml_aload dL_book_167 2 rfl <| ml_iconst dL_book_169 kc_i2 <| ml_iload dL_book_170 6 rfl <| ml_imul dL_book_172 <| ml_ck_of h fun hi381 h => ml_iald dL_book_173 hi381 <| ml_iload dL_book_174 7 rfl <| ml_ck_of h fun hz382 h => ml_idiv dL_book_176 hz382 <| ml_bipush dL_book_177 kc_b10 <| ml_irem dL_book_179 (by decide) <| ml_iadd dL_book_180 <| ml_b2_of h fun r384 m385 hv383 h => ml_callS dL_book_181 wm_44 wb_13 (sL_put hv383) rfl (Nat.le_of_ble_eq_true rfl) (Nat.le_of_ble_eq_true rfl) rfl <| ml_istore (lv' := [(7, ml_i r384), (0, ml_r l0), (3, ml_i l3), (4, ml_r l4), (5, ml_i l5), (6, ml_r l6), (8, ml_i l8), (9, ml_i l9)]) dL_book_184 (ml_hn hL rfl) rfl <| ml_iload dL_book_186 7 rfl <| ml_bipush dL_book_188 kc_b10 <| ml_idiv dL_book_190 (by decide) <| ml_lx (mk := ml_i) h fun x386 h => ml_istore (lv' := [(9, ml_i x386), (7, ml_i r384), (0, ml_r l0), (3, ml_i l3), (4, ml_r l4), (5, ml_i l5), (6, ml_r l6), (8, ml_i l8)]) dL_book_191 (ml_hn hL rfl) rfl <| ml_goto dL_book_193 <| ml_V.sub [2, 3, 4, 5, 6, 1, 7, 0] rfl (hk157 _ _ _ _ _ _ _ _ _ h))
def fL_book_290 (l0 : Nat) (l3 : Int32) (l7 : Int32) (m : ml_M) : Option (Int32 × ml_M) :=
    if l7 < 0 then
    some ((0 : Int32), m)
    else
    if (ml_K m l0).1 = 10 then
    ml_b2 (fX10_fault l0 (3 : Int32) m) fun r389 m390 =>
    if r389 = (-9 : Int32) then
    if (ml_K m390 l0).1 = 10 then
    ml_b2 (fX10_book l0 (3 : Int32) m390) fun r393 m394 =>
    if r393 = l3 then
    some ((1 : Int32), m394)
    else
    some ((0 : Int32), m394)
    else none
    else
    some ((0 : Int32), m390)
    else none
theorem vL_book_290 {E : ml_E} (hL : ml_eL E = 10) {rv : Int32} {rm : ml_M} (hr : ∀ (pc pc' : Nat) (lv : List (Nat × ml_X)), ml_d cL_book pc .ireturn 1 pc' → (rv = 0 ∨ rv = 1) → ml_V E "LostRoomLaw" cL_book 9 false rm pc lv [ml_i rv]) : ∀ (l0 : Nat) (l3 : Int32) (l7 : Int32) (m : ml_M), fL_book_290 l0 l3 l7 m = some (rv, rm) → ml_V E "LostRoomLaw" cL_book 9 false m 290 [(0, ml_r l0), (3, ml_i l3), (7, ml_i l7)] [] := by
  intro l0 l3 l7 m h
  unfold fL_book_290 at h
  exact ml_iload dL_book_290 2 rfl <| ml_if_lt dL_book_292 h (fun _ h => ml_iconst dL_book_318 kc_i0 <| ml_rI (mk := ml_i) hr dL_book_319 (fun e => Or.inl e.symm) h) (fun _ h => ml_aload_n dL_book_295 0 rfl <| ml_iconst dL_book_296 kc_i3 <| ml_ck_of h fun hc388 h => ml_b2_of h fun r389 m390 hv387 h => ml_callV dL_book_297 wm_131 wb_73 hc388 (sX10_fault hv387) rfl (Nat.le_of_ble_eq_true rfl) (Nat.le_of_ble_eq_true rfl) rfl <| ml_bipush dL_book_300 kc_bm9 <| ml_icmp_ne dL_book_302 h (fun _ h => ml_iconst dL_book_318 kc_i0 <| ml_rI (mk := ml_i) hr dL_book_319 (fun e => Or.inl e.symm) h) (fun _ h => ml_aload_n dL_book_305 0 rfl <| ml_iconst dL_book_306 kc_i3 <| ml_ck_of h fun hc392 h => ml_b2_of h fun r393 m394 hv391 h => ml_callV dL_book_307 wm_135 wb_74 hc392 (sX10_book hv391) rfl (Nat.le_of_ble_eq_true rfl) (Nat.le_of_ble_eq_true rfl) rfl <| ml_iload_n dL_book_310 1 rfl <| ml_icmp_ne dL_book_311 h (fun _ h => ml_iconst dL_book_318 kc_i0 <| ml_rI (mk := ml_i) hr dL_book_319 (fun e => Or.inl e.symm) h) (fun _ h => ml_iconst dL_book_314 kc_i1 <| ml_goto dL_book_315 <| ml_rI (mk := ml_i) hr dL_book_319 (fun e => Or.inr e.symm) h)))
def fL_book_231 : Nat → Nat → Int32 → Int32 → Nat → Int32 → Int32 → ml_M → Option (Int32 × ml_M)
  | 0, _, _, _, _, _, _, _ => none
  | fu + 1, l0, l3, l5, l6, l7, l8, m =>
    if l5 ≤ l8 then
    fL_book_290 l0 l3 l7 m
    else
    ml_b2 (fL_put l0 l7 (117 : Int32) m) fun r396 m397 =>
    if ml_in m397 l6 20 ((2 : Int32) * l8) then
    ml_b2 (fL_put l0 r396 ((48 : Int32) + (ml_I m397 l6 ((2 : Int32) * l8).toNatClampNeg)) m397) fun r400 m401 =>
    ml_b2 (fL_put l0 r400 (47 : Int32) m401) fun r403 m404 =>
    if ml_in m404 l6 20 (((2 : Int32) * l8) + (1 : Int32)) then
    ml_b2 (fL_put l0 r403 ((48 : Int32) + (ml_I m404 l6 (((2 : Int32) * l8) + (1 : Int32)).toNatClampNeg)) m404) fun r407 m408 =>
    (fL_book_231 fu) l0 l3 l5 l6 r407 (l8 + (1 : Int32)) m408
    else none
    else none
theorem vL_book_231 {E : ml_E} (hL : ml_eL E = 10) {rv : Int32} {rm : ml_M} (hr : ∀ (pc pc' : Nat) (lv : List (Nat × ml_X)), ml_d cL_book pc .ireturn 1 pc' → (rv = 0 ∨ rv = 1) → ml_V E "LostRoomLaw" cL_book 9 false rm pc lv [ml_i rv]) : ∀ (fu : Nat) (l0 : Nat) (l3 : Int32) (l5 : Int32) (l6 : Nat) (l7 : Int32) (l8 : Int32) (m : ml_M), fL_book_231 fu l0 l3 l5 l6 l7 l8 m = some (rv, rm) → ml_V E "LostRoomLaw" cL_book 9 false m 231 [(0, ml_r l0), (3, ml_i l3), (5, ml_i l5), (6, ml_r l6), (7, ml_i l7), (8, ml_i l8)] [] := by
  intro fu
  induction fu with
  | zero => intro l0 l3 l5 l6 l7 l8 m h; exact ml_none h
  | succ fu ih =>
    intro l0 l3 l5 l6 l7 l8 m h
    have hk231 := ih
    unfold fL_book_231 at h
    exact ml_iload dL_book_231 5 rfl <| ml_iload dL_book_233 2 rfl <| ml_icmp_ge dL_book_235 h (fun _ h => ml_V.sub [0, 1, 4] rfl (vL_book_290 hL hr  _ _ _ _ h)) (fun _ h => ml_aload_n dL_book_238 0 rfl <| ml_aload_n dL_book_239 0 rfl <| ml_aload_n dL_book_240 0 rfl <| ml_aload_n dL_book_241 0 rfl <| ml_iload dL_book_242 4 rfl <| ml_bipush dL_book_244 kc_b117 <| ml_b2_of h fun r396 m397 hv395 h => ml_callS dL_book_246 wm_44 wb_13 (sL_put hv395) rfl (Nat.le_of_ble_eq_true rfl) (Nat.le_of_ble_eq_true rfl) rfl <| ml_bipush dL_book_249 kc_b48 <| ml_aload dL_book_251 3 rfl <| ml_iconst dL_book_253 kc_i2 <| ml_iload dL_book_254 5 rfl <| ml_imul dL_book_256 <| ml_ck_of h fun hi398 h => ml_iald dL_book_257 hi398 <| ml_iadd dL_book_258 <| ml_b2_of h fun r400 m401 hv399 h => ml_callS dL_book_259 wm_44 wb_13 (sL_put hv399) rfl (Nat.le_of_ble_eq_true rfl) (Nat.le_of_ble_eq_true rfl) rfl <| ml_bipush dL_book_262 kc_b47 <| ml_b2_of h fun r403 m404 hv402 h => ml_callS dL_book_264 wm_44 wb_13 (sL_put hv402) rfl (Nat.le_of_ble_eq_true rfl) (Nat.le_of_ble_eq_true rfl) rfl <| ml_bipush dL_book_267 kc_b48 <| ml_aload dL_book_269 3 rfl <| ml_iconst dL_book_271 kc_i2 <| ml_iload dL_book_272 5 rfl <| ml_imul dL_book_274 <| ml_iconst dL_book_275 kc_i1 <| ml_iadd dL_book_276 <| ml_ck_of h fun hi405 h => ml_iald dL_book_277 hi405 <| ml_iadd dL_book_278 <| ml_b2_of h fun r407 m408 hv406 h => ml_callS dL_book_279 wm_44 wb_13 (sL_put hv406) rfl (Nat.le_of_ble_eq_true rfl) (Nat.le_of_ble_eq_true rfl) rfl <| ml_istore (lv' := [(7, ml_i r407), (0, ml_r l0), (3, ml_i l3), (5, ml_i l5), (6, ml_r l6), (8, ml_i l8)]) dL_book_282 (ml_hn hL rfl) rfl <| ml_iinc (lv' := [(8, ml_i (l8 + (1 : Int32))), (7, ml_i r407), (0, ml_r l0), (3, ml_i l3), (5, ml_i l5), (6, ml_r l6)]) dL_book_284 5 rfl (congrArg (l8 + ·) kc_i1) (ml_hn hL rfl) rfl <| ml_goto dL_book_287 <| ml_V.sub [2, 3, 4, 5, 1, 0] rfl (hk231 _ _ _ _ _ _ _ h))
def fL_book_228 (l0 : Nat) (l3 : Int32) (l5 : Int32) (l6 : Nat) (l7 : Int32) (m : ml_M) : Option (Int32 × ml_M) :=
    fL_book_231 ml_fu l0 l3 l5 l6 l7 (0 : Int32) m
theorem vL_book_228 {E : ml_E} (hL : ml_eL E = 10) {rv : Int32} {rm : ml_M} (hr : ∀ (pc pc' : Nat) (lv : List (Nat × ml_X)), ml_d cL_book pc .ireturn 1 pc' → (rv = 0 ∨ rv = 1) → ml_V E "LostRoomLaw" cL_book 9 false rm pc lv [ml_i rv]) : ∀ (l0 : Nat) (l3 : Int32) (l5 : Int32) (l6 : Nat) (l7 : Int32) (m : ml_M), fL_book_228 l0 l3 l5 l6 l7 m = some (rv, rm) → ml_V E "LostRoomLaw" cL_book 9 false m 228 [(0, ml_r l0), (3, ml_i l3), (5, ml_i l5), (6, ml_r l6), (7, ml_i l7)] [] := by
  intro l0 l3 l5 l6 l7 m h
  unfold fL_book_228 at h
  exact ml_iconst dL_book_228 kc_i0 <| ml_istore (lv' := [(8, ml_i (0 : Int32)), (0, ml_r l0), (3, ml_i l3), (5, ml_i l5), (6, ml_r l6), (7, ml_i l7)]) dL_book_229 (ml_hn hL rfl) rfl <| ml_V.sub [1, 2, 3, 4, 5, 0] rfl (vL_book_231 hL hr  ml_fu _ _ _ _ _ _ _ h)
def fL_book_136 : Nat → Nat → Int32 → Nat → Int32 → Nat → Int32 → Int32 → ml_M → Option (Int32 × ml_M)
  | 0, _, _, _, _, _, _, _, _ => none
  | fu + 1, l0, l3, l4, l5, l6, l7, l8, m =>
    if l3 ≤ l8 then
    fL_book_228 l0 l3 l5 l6 l7 m
    else
    ml_b2 (fL_put l0 l7 (107 : Int32) m) fun r410 m411 =>
    fL_book_157 (fL_book_136 fu) ml_fu l0 l3 l4 l5 l6 r410 l8 (1000 : Int32) m411
theorem vL_book_136 {E : ml_E} (hL : ml_eL E = 10) {rv : Int32} {rm : ml_M} (hr : ∀ (pc pc' : Nat) (lv : List (Nat × ml_X)), ml_d cL_book pc .ireturn 1 pc' → (rv = 0 ∨ rv = 1) → ml_V E "LostRoomLaw" cL_book 9 false rm pc lv [ml_i rv]) : ∀ (fu : Nat) (l0 : Nat) (l3 : Int32) (l4 : Nat) (l5 : Int32) (l6 : Nat) (l7 : Int32) (l8 : Int32) (m : ml_M), fL_book_136 fu l0 l3 l4 l5 l6 l7 l8 m = some (rv, rm) → ml_V E "LostRoomLaw" cL_book 9 false m 136 [(0, ml_r l0), (3, ml_i l3), (4, ml_r l4), (5, ml_i l5), (6, ml_r l6), (7, ml_i l7), (8, ml_i l8)] [] := by
  intro fu
  induction fu with
  | zero => intro l0 l3 l4 l5 l6 l7 l8 m h; exact ml_none h
  | succ fu ih =>
    intro l0 l3 l4 l5 l6 l7 l8 m h
    have hk136 := ih
    unfold fL_book_136 at h
    exact ml_iload dL_book_136 6 rfl <| ml_iload_n dL_book_138 1 rfl <| ml_icmp_ge dL_book_139 h (fun _ h => ml_V.sub [0, 1, 3, 4, 5] rfl (vL_book_228 hL hr  _ _ _ _ _ _ h)) (fun _ h => ml_aload_n dL_book_142 0 rfl <| ml_iload dL_book_143 5 rfl <| ml_bipush dL_book_145 kc_b107 <| ml_b2_of h fun r410 m411 hv409 h => ml_callS dL_book_147 wm_44 wb_13 (sL_put hv409) rfl (Nat.le_of_ble_eq_true rfl) (Nat.le_of_ble_eq_true rfl) rfl <| ml_istore (lv' := [(7, ml_i r410), (0, ml_r l0), (3, ml_i l3), (4, ml_r l4), (5, ml_i l5), (6, ml_r l6), (8, ml_i l8)]) dL_book_150 (ml_hn hL rfl) rfl <| ml_sipush dL_book_152 kc_s1000 <| ml_istore (lv' := [(9, ml_i (1000 : Int32)), (7, ml_i r410), (0, ml_r l0), (3, ml_i l3), (4, ml_r l4), (5, ml_i l5), (6, ml_r l6), (8, ml_i l8)]) dL_book_155 (ml_hn hL rfl) rfl <| ml_V.sub [2, 3, 4, 5, 6, 1, 7, 0] rfl (vL_book_157 hL hr hk136 ml_fu _ _ _ _ _ _ _ _ _ h))
def fL_book_133 (l0 : Nat) (l3 : Int32) (l4 : Nat) (l5 : Int32) (l6 : Nat) (l7 : Int32) (m : ml_M) : Option (Int32 × ml_M) :=
    fL_book_136 ml_fu l0 l3 l4 l5 l6 l7 (0 : Int32) m
theorem vL_book_133 {E : ml_E} (hL : ml_eL E = 10) {rv : Int32} {rm : ml_M} (hr : ∀ (pc pc' : Nat) (lv : List (Nat × ml_X)), ml_d cL_book pc .ireturn 1 pc' → (rv = 0 ∨ rv = 1) → ml_V E "LostRoomLaw" cL_book 9 false rm pc lv [ml_i rv]) : ∀ (l0 : Nat) (l3 : Int32) (l4 : Nat) (l5 : Int32) (l6 : Nat) (l7 : Int32) (m : ml_M), fL_book_133 l0 l3 l4 l5 l6 l7 m = some (rv, rm) → ml_V E "LostRoomLaw" cL_book 9 false m 133 [(0, ml_r l0), (3, ml_i l3), (4, ml_r l4), (5, ml_i l5), (6, ml_r l6), (7, ml_i l7)] [] := by
  intro l0 l3 l4 l5 l6 l7 m h
  unfold fL_book_133 at h
  exact ml_iconst dL_book_133 kc_i0 <| ml_istore (lv' := [(8, ml_i (0 : Int32)), (0, ml_r l0), (3, ml_i l3), (4, ml_r l4), (5, ml_i l5), (6, ml_r l6), (7, ml_i l7)]) dL_book_134 (ml_hn hL rfl) rfl <| ml_V.sub [1, 2, 3, 4, 5, 6, 0] rfl (vL_book_136 hL hr  ml_fu _ _ _ _ _ _ _ _ h)
def fL_book_20 : Nat → Nat → Int32 → Nat → Int32 → Nat → Int32 → Nat → Int32 → Int32 → ml_M → Option (Int32 × ml_M)
  | 0, _, _, _, _, _, _, _, _, _, _ => none
  | fu + 1, l0, l1, l2, l3, l4, l5, l6, l7, l8, m =>
    if l1 ≤ l8 then
    fL_book_133 l0 l3 l4 l5 l6 l7 m
    else
    ml_b2 (fL_put l0 l7 (108 : Int32) m) fun r413 m414 =>
    if ml_in m414 l2 20 ((5 : Int32) * l8) then
    ml_b2 (fL_number l0 r413 (ml_I m414 l2 ((5 : Int32) * l8).toNatClampNeg) m414) fun r417 m418 =>
    ml_b2 (fL_put l0 r417 (45 : Int32) m418) fun r420 m421 =>
    if ml_in m421 l2 20 (((5 : Int32) * l8) + (1 : Int32)) then
    ml_b2 (fL_number l0 r420 (ml_I m421 l2 (((5 : Int32) * l8) + (1 : Int32)).toNatClampNeg) m421) fun r424 m425 =>
    fL_book_67 (fL_book_20 fu) ml_fu l0 l1 l2 l3 l4 l5 l6 r424 l8 (2 : Int32) m425
    else none
    else none
theorem vL_book_20 {E : ml_E} (hL : ml_eL E = 10) {rv : Int32} {rm : ml_M} (hr : ∀ (pc pc' : Nat) (lv : List (Nat × ml_X)), ml_d cL_book pc .ireturn 1 pc' → (rv = 0 ∨ rv = 1) → ml_V E "LostRoomLaw" cL_book 9 false rm pc lv [ml_i rv]) : ∀ (fu : Nat) (l0 : Nat) (l1 : Int32) (l2 : Nat) (l3 : Int32) (l4 : Nat) (l5 : Int32) (l6 : Nat) (l7 : Int32) (l8 : Int32) (m : ml_M), fL_book_20 fu l0 l1 l2 l3 l4 l5 l6 l7 l8 m = some (rv, rm) → ml_V E "LostRoomLaw" cL_book 9 false m 20 [(0, ml_r l0), (1, ml_i l1), (2, ml_r l2), (3, ml_i l3), (4, ml_r l4), (5, ml_i l5), (6, ml_r l6), (7, ml_i l7), (8, ml_i l8)] [] := by
  intro fu
  induction fu with
  | zero => intro l0 l1 l2 l3 l4 l5 l6 l7 l8 m h; exact ml_none h
  | succ fu ih =>
    intro l0 l1 l2 l3 l4 l5 l6 l7 l8 m h
    have hk20 := ih
    unfold fL_book_20 at h
    exact ml_iload dL_book_20 8 rfl <| ml_iload_n dL_book_22 1 rfl <| ml_icmp_ge dL_book_23 h (fun _ h => ml_V.sub [0, 3, 4, 5, 6, 7] rfl (vL_book_133 hL hr  _ _ _ _ _ _ _ h)) (fun _ h => ml_aload_n dL_book_26 0 rfl <| ml_aload_n dL_book_27 0 rfl <| ml_aload_n dL_book_28 0 rfl <| ml_aload_n dL_book_29 0 rfl <| ml_iload dL_book_30 7 rfl <| ml_bipush dL_book_32 kc_b108 <| ml_b2_of h fun r413 m414 hv412 h => ml_callS dL_book_34 wm_44 wb_13 (sL_put hv412) rfl (Nat.le_of_ble_eq_true rfl) (Nat.le_of_ble_eq_true rfl) rfl <| ml_aload_n dL_book_37 2 rfl <| ml_iconst dL_book_38 kc_i5 <| ml_iload dL_book_39 8 rfl <| ml_imul dL_book_41 <| ml_ck_of h fun hi415 h => ml_iald dL_book_42 hi415 <| ml_b2_of h fun r417 m418 hv416 h => ml_callS dL_book_43 wm_138 wb_75 (sL_number hv416) rfl (Nat.le_of_ble_eq_true rfl) (Nat.le_of_ble_eq_true rfl) rfl <| ml_bipush dL_book_46 kc_b45 <| ml_b2_of h fun r420 m421 hv419 h => ml_callS dL_book_48 wm_44 wb_13 (sL_put hv419) rfl (Nat.le_of_ble_eq_true rfl) (Nat.le_of_ble_eq_true rfl) rfl <| ml_aload_n dL_book_51 2 rfl <| ml_iconst dL_book_52 kc_i5 <| ml_iload dL_book_53 8 rfl <| ml_imul dL_book_55 <| ml_iconst dL_book_56 kc_i1 <| ml_iadd dL_book_57 <| ml_ck_of h fun hi422 h => ml_iald dL_book_58 hi422 <| ml_b2_of h fun r424 m425 hv423 h => ml_callS dL_book_59 wm_138 wb_75 (sL_number hv423) rfl (Nat.le_of_ble_eq_true rfl) (Nat.le_of_ble_eq_true rfl) rfl <| ml_istore (lv' := [(7, ml_i r424), (0, ml_r l0), (1, ml_i l1), (2, ml_r l2), (3, ml_i l3), (4, ml_r l4), (5, ml_i l5), (6, ml_r l6), (8, ml_i l8)]) dL_book_62 (ml_hn hL rfl) rfl <| ml_iconst dL_book_64 kc_i2 <| ml_istore (lv' := [(9, ml_i (2 : Int32)), (7, ml_i r424), (0, ml_r l0), (1, ml_i l1), (2, ml_r l2), (3, ml_i l3), (4, ml_r l4), (5, ml_i l5), (6, ml_r l6), (8, ml_i l8)]) dL_book_65 (ml_hn hL rfl) rfl <| ml_V.sub [2, 3, 4, 5, 6, 7, 8, 1, 9, 0] rfl (vL_book_67 hL hr hk20 ml_fu _ _ _ _ _ _ _ _ _ _ _ h))
def fL_book (l0 : Nat) (l1 : Int32) (l2 : Nat) (l3 : Int32) (l4 : Nat) (l5 : Int32) (l6 : Nat) (m : ml_M) : Option (Int32 × ml_M) :=
    if (ml_K m l0).1 = 10 then
    ml_b2 (fX10_text l0 (3 : Int32) (120 : Int32) m) fun r428 m429 =>
    if r428 = (120 : Int32) then
    fL_book_20 ml_fu l0 l1 l2 l3 l4 l5 l6 (0 : Int32) (0 : Int32) m429
    else
    some ((0 : Int32), m429)
    else none
theorem wL_book_0 {E : ml_E} (hL : ml_eL E = 10) {rv : Int32} {rm : ml_M} (hr : ∀ (pc pc' : Nat) (lv : List (Nat × ml_X)), ml_d cL_book pc .ireturn 1 pc' → (rv = 0 ∨ rv = 1) → ml_V E "LostRoomLaw" cL_book 9 false rm pc lv [ml_i rv]) : ∀ (l0 : Nat) (l1 : Int32) (l2 : Nat) (l3 : Int32) (l4 : Nat) (l5 : Int32) (l6 : Nat) (m : ml_M), fL_book l0 l1 l2 l3 l4 l5 l6 m = some (rv, rm) → ml_V E "LostRoomLaw" cL_book 9 false m 0 [(0, ml_r l0), (1, ml_i l1), (2, ml_r l2), (3, ml_i l3), (4, ml_r l4), (5, ml_i l5), (6, ml_r l6)] [] := by
  intro l0 l1 l2 l3 l4 l5 l6 m h
  unfold fL_book at h
  exact ml_aload_n dL_book_0 0 rfl <| ml_iconst dL_book_1 kc_i3 <| ml_bipush dL_book_2 kc_b120 <| ml_ck_of h fun hc427 h => ml_b2_of h fun r428 m429 hv426 h => ml_callV dL_book_4 wm_142 wb_76 hc427 (sX10_text hv426) rfl (Nat.le_of_ble_eq_true rfl) (Nat.le_of_ble_eq_true rfl) rfl <| ml_bipush dL_book_7 kc_b120 <| ml_icmp_eq dL_book_9 h (fun _ h => ml_iconst dL_book_14 kc_i0 <| ml_istore (lv' := [(7, ml_i (0 : Int32)), (0, ml_r l0), (1, ml_i l1), (2, ml_r l2), (3, ml_i l3), (4, ml_r l4), (5, ml_i l5), (6, ml_r l6)]) dL_book_15 (ml_hn hL rfl) rfl <| ml_iconst dL_book_17 kc_i0 <| ml_istore (lv' := [(8, ml_i (0 : Int32)), (7, ml_i (0 : Int32)), (0, ml_r l0), (1, ml_i l1), (2, ml_r l2), (3, ml_i l3), (4, ml_r l4), (5, ml_i l5), (6, ml_r l6)]) dL_book_18 (ml_hn hL rfl) rfl <| ml_V.sub [2, 3, 4, 5, 6, 7, 8, 1, 0] rfl (vL_book_20 hL hr  ml_fu _ _ _ _ _ _ _ _ _ _ h)) (fun _ h => ml_iconst dL_book_12 kc_i0 <| ml_rI (mk := ml_i) hr dL_book_13 (fun e => Or.inl e.symm) h)
theorem sL_book {l0 : Nat} {l1 : Int32} {l2 : Nat} {l3 : Int32} {l4 : Nat} {l5 : Int32} {l6 : Nat} {m : ml_M} {rv : Int32} {rm : ml_M} (h : fL_book l0 l1 l2 l3 l4 l5 l6 m = some (rv, rm)) : ml_Sn yL_book cL_book 10 (some .boolean) 9 [ml_r l0, ml_i l1, ml_r l2, ml_i l3, ml_r l4, ml_i l5, ml_r l6] m (some (ml_i rv)) rm :=
  ml_Sn_of (P := (rv = 0 ∨ rv = 1)) (ini := false) (by decide +kernel) (Nat.le_of_ble_eq_true rfl) (fun h => by cases h) (fun hz => ml_RkZ rv hz) fun E hL hr => wL_book_0 hL hr _ _ _ _ _ _ _ _ h
theorem dL_cell_0 : ml_d cL_cell 0 (.iload_n 1) 1 1 := ⟨by decide +kernel, rfl⟩
theorem dL_cell_1 : ml_d cL_cell 1 (.aload_n 0) 1 2 := ⟨by decide +kernel, rfl⟩
theorem dL_cell_2 : ml_d cL_cell 2 (.arraylength) 1 3 := ⟨by decide +kernel, rfl⟩
theorem dL_cell_3 : ml_j cL_cell 3 (.if_icmp .ge) 15 6 := ⟨12, by decide +kernel, by decide, rfl⟩
theorem dL_cell_6 : ml_d cL_cell 6 (.aload_n 0) 1 7 := ⟨by decide +kernel, rfl⟩
theorem dL_cell_7 : ml_d cL_cell 7 (.iload_n 1) 1 8 := ⟨by decide +kernel, rfl⟩
theorem dL_cell_8 : ml_d cL_cell 8 (.iaload) 1 9 := ⟨by decide +kernel, rfl⟩
theorem dL_cell_9 : ml_d cL_cell 9 (.ldc 7) 2 11 := ⟨by decide +kernel, rfl⟩
theorem dL_cell_11 : ml_d cL_cell 11 (.iand) 1 12 := ⟨by decide +kernel, rfl⟩
theorem dL_cell_12 : ml_j cL_cell 12 .goto 26 15 := ⟨14, by decide +kernel, by decide, rfl⟩
theorem dL_cell_15 : ml_d cL_cell 15 (.bipush 61) 2 17 := ⟨by decide +kernel, rfl⟩
theorem dL_cell_17 : ml_d cL_cell 17 (.iload_n 1) 1 18 := ⟨by decide +kernel, rfl⟩
theorem dL_cell_18 : ml_d cL_cell 18 (.imul) 1 19 := ⟨by decide +kernel, rfl⟩
theorem dL_cell_19 : ml_d cL_cell 19 (.bipush 7) 2 21 := ⟨by decide +kernel, rfl⟩
theorem dL_cell_21 : ml_d cL_cell 21 (.iadd) 1 22 := ⟨by decide +kernel, rfl⟩
theorem dL_cell_22 : ml_d cL_cell 22 (.iload_n 1) 1 23 := ⟨by decide +kernel, rfl⟩
theorem dL_cell_23 : ml_d cL_cell 23 (.iconst 3) 1 24 := ⟨by decide +kernel, rfl⟩
theorem dL_cell_24 : ml_d cL_cell 24 (.iadd) 1 25 := ⟨by decide +kernel, rfl⟩
theorem dL_cell_25 : ml_d cL_cell 25 (.imul) 1 26 := ⟨by decide +kernel, rfl⟩
theorem dL_cell_26 : ml_d cL_cell 26 (.ireturn) 1 27 := ⟨by decide +kernel, rfl⟩
def fL_cell (sl : Nat) (sx : Nat → Int32) (l1 : Int32) (m : ml_M) : Option Int32 :=
    if (Int32.ofNat sl) ≤ l1 then
    some ((((61 : Int32) * l1) + (7 : Int32)) * (l1 + (3 : Int32)))
    else
    if ¬ (l1 < 0 ∨ sl ≤ l1.toNatClampNeg) then
    some ((sx l1.toNatClampNeg) &&& (268435455 : Int32))
    else none
theorem wL_cell_0 {E : ml_E} (hL : ml_eL E = 2) {rv : Int32} {m : ml_M} (hr : ∀ (pc pc' : Nat) (lv : List (Nat × ml_X)), ml_d cL_cell pc .ireturn 1 pc' → True → ml_V E "LostRoomLaw" cL_cell 2 false m pc lv [ml_i rv]) : ∀ (l1 : Int32), fL_cell (ml_sl (ml_eG E)) (ml_sx (ml_eG E)) l1 m = some rv → ml_V E "LostRoomLaw" cL_cell 2 false m 0 [(0, ml_q (ml_sb (ml_eG E))), (1, ml_i l1)] [] := by
  intro l1 h
  unfold fL_cell at h
  exact ml_iload_n dL_cell_0 1 rfl <| ml_sload dL_cell_1 0 rfl <| ml_slen dL_cell_2 <| ml_icmp_ge dL_cell_3 h (fun _ h => ml_bipush dL_cell_15 kc_b61 <| ml_iload_n dL_cell_17 1 rfl <| ml_imul dL_cell_18 <| ml_bipush dL_cell_19 kc_b7 <| ml_iadd dL_cell_21 <| ml_iload_n dL_cell_22 1 rfl <| ml_iconst dL_cell_23 kc_i3 <| ml_iadd dL_cell_24 <| ml_imul dL_cell_25 <| ml_rp (mk := ml_i) hr dL_cell_26 (fun _ => trivial) h) (fun _ h => ml_sload dL_cell_6 0 rfl <| ml_iload_n dL_cell_7 1 rfl <| ml_ck_of h fun hi430 h => ml_sld dL_cell_8 hi430 <| ml_ldc dL_cell_9 wm_143 <| ml_iand dL_cell_11 <| ml_goto dL_cell_12 <| ml_rp (mk := ml_i) hr dL_cell_26 (fun _ => trivial) h)
theorem sL_cell {G : ml_G} {l1 : Int32} {m : ml_M} {rv : Int32} (h : fL_cell (ml_sl G) (ml_sx G) l1 m = some rv) : ml_SnG G yL_cell cL_cell 2 (some .int) 2 [ml_q (ml_sb G), ml_i l1] m (some (ml_i rv)) m :=
  ml_SnG_of (P := True) (ini := false) (by decide +kernel) (Nat.le_of_ble_eq_true rfl) (fun h => by cases h) (fun _ => ml_RkI rv) fun E hG hL hr => by subst hG; exact wL_cell_0 hL hr _ h
theorem dX10_ownAll_0 : ml_d cX10_ownAll 0 (.iconst 0) 1 1 := ⟨by decide +kernel, rfl⟩
theorem dX10_ownAll_1 : ml_d cX10_ownAll 1 (.istore_n 2) 1 2 := ⟨by decide +kernel, rfl⟩
theorem dX10_ownAll_2 : ml_d cX10_ownAll 2 (.iload_n 2) 1 3 := ⟨by decide +kernel, rfl⟩
theorem dX10_ownAll_3 : ml_d cX10_ownAll 3 (.aload_n 0) 1 4 := ⟨by decide +kernel, rfl⟩
theorem dX10_ownAll_4 : ml_d cX10_ownAll 4 (.getfield 118) 3 7 := ⟨by decide +kernel, rfl⟩
theorem dX10_ownAll_7 : ml_j cX10_ownAll 7 (.if_icmp .ge) 32 10 := ⟨25, by decide +kernel, by decide, rfl⟩
theorem dX10_ownAll_10 : ml_d cX10_ownAll 10 (.aload_n 0) 1 11 := ⟨by decide +kernel, rfl⟩
theorem dX10_ownAll_11 : ml_d cX10_ownAll 11 (.getfield 36) 3 14 := ⟨by decide +kernel, rfl⟩
theorem dX10_ownAll_14 : ml_d cX10_ownAll 14 (.iload_n 2) 1 15 := ⟨by decide +kernel, rfl⟩
theorem dX10_ownAll_15 : ml_d cX10_ownAll 15 (.aaload) 1 16 := ⟨by decide +kernel, rfl⟩
theorem dX10_ownAll_16 : ml_d cX10_ownAll 16 (.getfield 169) 3 19 := ⟨by decide +kernel, rfl⟩
theorem dX10_ownAll_19 : ml_d cX10_ownAll 19 (.iload_n 1) 1 20 := ⟨by decide +kernel, rfl⟩
theorem dX10_ownAll_20 : ml_d cX10_ownAll 20 (.iand) 1 21 := ⟨by decide +kernel, rfl⟩
theorem dX10_ownAll_21 : ml_j cX10_ownAll 21 (.ifCond .ne) 26 24 := ⟨5, by decide +kernel, by decide, rfl⟩
theorem dX10_ownAll_24 : ml_d cX10_ownAll 24 (.iconst 0) 1 25 := ⟨by decide +kernel, rfl⟩
theorem dX10_ownAll_25 : ml_d cX10_ownAll 25 (.ireturn) 1 26 := ⟨by decide +kernel, rfl⟩
theorem dX10_ownAll_26 : ml_d cX10_ownAll 26 (.iinc 2 1) 3 29 := ⟨by decide +kernel, rfl⟩
theorem dX10_ownAll_29 : ml_j cX10_ownAll 29 .goto 2 32 := ⟨(-27), by decide +kernel, by decide, rfl⟩
theorem dX10_ownAll_32 : ml_d cX10_ownAll 32 (.iconst 1) 1 33 := ⟨by decide +kernel, rfl⟩
theorem dX10_ownAll_33 : ml_d cX10_ownAll 33 (.ireturn) 1 34 := ⟨by decide +kernel, rfl⟩
def fX10_ownAll_2 : Nat → Nat → Int32 → Int32 → ml_M → Option Int32
  | 0, _, _, _, _ => none
  | fu + 1, l0, l1, l2, m =>
    if (ml_K m l0).1 = 10 then
    if (ml_I m l0 5) ≤ l2 then
    some (1 : Int32)
    else
    ml_let (ml_R m l0 4) fun a432 =>
    if ml_in m a432 29 l2 then
    ml_let (ml_R m a432 l2.toNatClampNeg) fun a434 =>
    if (ml_K m a434).1 = 8 then
    if ((ml_I m a434 5) &&& l1) = 0 then
    some (0 : Int32)
    else
    (fX10_ownAll_2 fu) l0 l1 (l2 + (1 : Int32)) m
    else none
    else none
    else none
theorem vX10_ownAll_2 {E : ml_E} (hL : ml_eL E = 3) {rv : Int32} {m : ml_M} (hr : ∀ (pc pc' : Nat) (lv : List (Nat × ml_X)), ml_d cX10_ownAll pc .ireturn 1 pc' → (rv = 0 ∨ rv = 1) → ml_V E "LostRoom" cX10_ownAll 2 false m pc lv [ml_i rv]) : ∀ (fu : Nat) (l0 : Nat) (l1 : Int32) (l2 : Int32), fX10_ownAll_2 fu l0 l1 l2 m = some rv → ml_V E "LostRoom" cX10_ownAll 2 false m 2 [(0, ml_r l0), (1, ml_i l1), (2, ml_i l2)] [] := by
  intro fu
  induction fu with
  | zero => intro l0 l1 l2 h; exact ml_none h
  | succ fu ih =>
    intro l0 l1 l2 h
    have hk2 := ih
    unfold fX10_ownAll_2 at h
    exact ml_iload_n dX10_ownAll_2 2 rfl <| ml_aload_n dX10_ownAll_3 0 rfl <| ml_ck_of h fun hc431 h => ml_getI dX10_ownAll_4 wb_77 hc431 <| ml_icmp_ge dX10_ownAll_7 h (fun _ h => ml_iconst dX10_ownAll_32 kc_i1 <| ml_rp (mk := ml_i) hr dX10_ownAll_33 (fun e => Or.inr e.symm) h) (fun _ h => ml_aload_n dX10_ownAll_10 0 rfl <| ml_getR dX10_ownAll_11 wb_78 hc431 <| ml_lx (mk := ml_r) h fun a432 h => ml_iload_n dX10_ownAll_14 2 rfl <| ml_ck_of h fun hi433 h => ml_aald (kd := 29) dX10_ownAll_15 (by decide) hi433 <| ml_lx (mk := ml_r) h fun a434 h => ml_ck_of h fun hc435 h => ml_getI dX10_ownAll_16 wb_79 hc435 <| ml_iload_n dX10_ownAll_19 1 rfl <| ml_iand dX10_ownAll_20 <| ml_if_ne dX10_ownAll_21 h (fun _ h => ml_iinc (lv' := [(2, ml_i (l2 + (1 : Int32))), (0, ml_r l0), (1, ml_i l1)]) dX10_ownAll_26 2 rfl (congrArg (l2 + ·) kc_i1) (ml_hn hL rfl) rfl <| ml_goto dX10_ownAll_29 <| ml_V.sub [1, 2, 0] rfl (hk2 _ _ _ h)) (fun _ h => ml_iconst dX10_ownAll_24 kc_i0 <| ml_rp (mk := ml_i) hr dX10_ownAll_25 (fun e => Or.inl e.symm) h))
def fX10_ownAll (l0 : Nat) (l1 : Int32) (m : ml_M) : Option Int32 :=
    fX10_ownAll_2 ml_fu l0 l1 (0 : Int32) m
theorem wX10_ownAll_0 {E : ml_E} (hL : ml_eL E = 3) {rv : Int32} {m : ml_M} (hr : ∀ (pc pc' : Nat) (lv : List (Nat × ml_X)), ml_d cX10_ownAll pc .ireturn 1 pc' → (rv = 0 ∨ rv = 1) → ml_V E "LostRoom" cX10_ownAll 2 false m pc lv [ml_i rv]) : ∀ (l0 : Nat) (l1 : Int32), fX10_ownAll l0 l1 m = some rv → ml_V E "LostRoom" cX10_ownAll 2 false m 0 [(0, ml_r l0), (1, ml_i l1)] [] := by
  intro l0 l1 h
  unfold fX10_ownAll at h
  exact ml_iconst dX10_ownAll_0 kc_i0 <| ml_istore_n (lv' := [(2, ml_i (0 : Int32)), (0, ml_r l0), (1, ml_i l1)]) dX10_ownAll_1 (ml_hn hL rfl) rfl <| ml_V.sub [1, 2, 0] rfl (vX10_ownAll_2 hL hr  ml_fu _ _ _ h)
theorem sX10_ownAll {l0 : Nat} {l1 : Int32} {m : ml_M} {rv : Int32} (h : fX10_ownAll l0 l1 m = some rv) : ml_Sn yX10_ownAll cX10_ownAll 3 (some .boolean) 2 [ml_r l0, ml_i l1] m (some (ml_i rv)) m :=
  ml_Sn_of (P := (rv = 0 ∨ rv = 1)) (ini := false) (by decide +kernel) (Nat.le_of_ble_eq_true rfl) (fun h => by cases h) (fun hz => ml_RkZ rv hz) fun E hL hr => wX10_ownAll_0 hL hr _ _ h
theorem dX10_fewest_0 : ml_d cX10_fewest 0 (.bipush (-9)) 2 2 := ⟨by decide +kernel, rfl⟩
theorem dX10_fewest_2 : ml_d cX10_fewest 2 (.istore_n 1) 1 3 := ⟨by decide +kernel, rfl⟩
theorem dX10_fewest_3 : ml_d cX10_fewest 3 (.iconst 0) 1 4 := ⟨by decide +kernel, rfl⟩
theorem dX10_fewest_4 : ml_d cX10_fewest 4 (.istore_n 2) 1 5 := ⟨by decide +kernel, rfl⟩
theorem dX10_fewest_5 : ml_d cX10_fewest 5 (.iload_n 2) 1 6 := ⟨by decide +kernel, rfl⟩
theorem dX10_fewest_6 : ml_d cX10_fewest 6 (.iconst 1) 1 7 := ⟨by decide +kernel, rfl⟩
theorem dX10_fewest_7 : ml_d cX10_fewest 7 (.aload_n 0) 1 8 := ⟨by decide +kernel, rfl⟩
theorem dX10_fewest_8 : ml_d cX10_fewest 8 (.getfield 26) 3 11 := ⟨by decide +kernel, rfl⟩
theorem dX10_fewest_11 : ml_d cX10_fewest 11 (.getfield 193) 3 14 := ⟨by decide +kernel, rfl⟩
theorem dX10_fewest_14 : ml_d cX10_fewest 14 (.ishl) 1 15 := ⟨by decide +kernel, rfl⟩
theorem dX10_fewest_15 : ml_j cX10_fewest 15 (.if_icmp .ge) 61 18 := ⟨46, by decide +kernel, by decide, rfl⟩
theorem dX10_fewest_18 : ml_d cX10_fewest 18 (.iload_n 1) 1 19 := ⟨by decide +kernel, rfl⟩
theorem dX10_fewest_19 : ml_d cX10_fewest 19 (.bipush (-9)) 2 21 := ⟨by decide +kernel, rfl⟩
theorem dX10_fewest_21 : ml_j cX10_fewest 21 (.if_icmp .eq) 35 24 := ⟨14, by decide +kernel, by decide, rfl⟩
theorem dX10_fewest_24 : ml_d cX10_fewest 24 (.iload_n 2) 1 25 := ⟨by decide +kernel, rfl⟩
theorem dX10_fewest_25 : ml_d cX10_fewest 25 (.invokestatic 196) 3 28 := ⟨by decide +kernel, rfl⟩
theorem dX10_fewest_28 : ml_d cX10_fewest 28 (.iload_n 1) 1 29 := ⟨by decide +kernel, rfl⟩
theorem dX10_fewest_29 : ml_d cX10_fewest 29 (.invokestatic 196) 3 32 := ⟨by decide +kernel, rfl⟩
theorem dX10_fewest_32 : ml_j cX10_fewest 32 (.if_icmp .ge) 39 35 := ⟨7, by decide +kernel, by decide, rfl⟩
theorem dX10_fewest_35 : ml_d cX10_fewest 35 (.iconst 1) 1 36 := ⟨by decide +kernel, rfl⟩
theorem dX10_fewest_36 : ml_j cX10_fewest 36 .goto 40 39 := ⟨4, by decide +kernel, by decide, rfl⟩
theorem dX10_fewest_39 : ml_d cX10_fewest 39 (.iconst 0) 1 40 := ⟨by decide +kernel, rfl⟩
theorem dX10_fewest_40 : ml_d cX10_fewest 40 (.istore_n 3) 1 41 := ⟨by decide +kernel, rfl⟩
theorem dX10_fewest_41 : ml_d cX10_fewest 41 (.iload_n 3) 1 42 := ⟨by decide +kernel, rfl⟩
theorem dX10_fewest_42 : ml_j cX10_fewest 42 (.ifCond .eq) 55 45 := ⟨13, by decide +kernel, by decide, rfl⟩
theorem dX10_fewest_45 : ml_d cX10_fewest 45 (.aload_n 0) 1 46 := ⟨by decide +kernel, rfl⟩
theorem dX10_fewest_46 : ml_d cX10_fewest 46 (.iload_n 2) 1 47 := ⟨by decide +kernel, rfl⟩
theorem dX10_fewest_47 : ml_d cX10_fewest 47 (.invokevirtual 200) 3 50 := ⟨by decide +kernel, rfl⟩
theorem dX10_fewest_50 : ml_j cX10_fewest 50 (.ifCond .eq) 55 53 := ⟨5, by decide +kernel, by decide, rfl⟩
theorem dX10_fewest_53 : ml_d cX10_fewest 53 (.iload_n 2) 1 54 := ⟨by decide +kernel, rfl⟩
theorem dX10_fewest_54 : ml_d cX10_fewest 54 (.istore_n 1) 1 55 := ⟨by decide +kernel, rfl⟩
theorem dX10_fewest_55 : ml_d cX10_fewest 55 (.iinc 2 1) 3 58 := ⟨by decide +kernel, rfl⟩
theorem dX10_fewest_58 : ml_j cX10_fewest 58 .goto 5 61 := ⟨(-53), by decide +kernel, by decide, rfl⟩
theorem dX10_fewest_61 : ml_d cX10_fewest 61 (.iload_n 1) 1 62 := ⟨by decide +kernel, rfl⟩
theorem dX10_fewest_62 : ml_d cX10_fewest 62 (.bipush (-9)) 2 64 := ⟨by decide +kernel, rfl⟩
theorem dX10_fewest_64 : ml_j cX10_fewest 64 (.if_icmp .ne) 73 67 := ⟨9, by decide +kernel, by decide, rfl⟩
theorem dX10_fewest_67 : ml_d cX10_fewest 67 (.aload_n 0) 1 68 := ⟨by decide +kernel, rfl⟩
theorem dX10_fewest_68 : ml_d cX10_fewest 68 (.iconst 4) 1 69 := ⟨by decide +kernel, rfl⟩
theorem dX10_fewest_69 : ml_d cX10_fewest 69 (.invokevirtual 86) 3 72 := ⟨by decide +kernel, rfl⟩
theorem dX10_fewest_72 : ml_d cX10_fewest 72 (.ireturn) 1 73 := ⟨by decide +kernel, rfl⟩
theorem dX10_fewest_73 : ml_d cX10_fewest 73 (.aload_n 0) 1 74 := ⟨by decide +kernel, rfl⟩
theorem dX10_fewest_74 : ml_d cX10_fewest 74 (.iload_n 1) 1 75 := ⟨by decide +kernel, rfl⟩
theorem dX10_fewest_75 : ml_d cX10_fewest 75 (.putfield 203) 3 78 := ⟨by decide +kernel, rfl⟩
theorem dX10_fewest_78 : ml_d cX10_fewest 78 (.iload_n 1) 1 79 := ⟨by decide +kernel, rfl⟩
theorem dX10_fewest_79 : ml_d cX10_fewest 79 (.invokestatic 196) 3 82 := ⟨by decide +kernel, rfl⟩
theorem dX10_fewest_82 : ml_d cX10_fewest 82 (.ireturn) 1 83 := ⟨by decide +kernel, rfl⟩
def fX10_fewest_55 (k5 : Nat → Int32 → Int32 → ml_M → Option (Int32 × ml_M)) (l0 : Nat) (l1 : Int32) (l2 : Int32) (m : ml_M) : Option (Int32 × ml_M) :=
    k5 l0 l1 (l2 + (1 : Int32)) m
theorem vX10_fewest_55 {E : ml_E} (hL : ml_eL E = 4) {rv : Int32} {rm : ml_M} (hr : ∀ (pc pc' : Nat) (lv : List (Nat × ml_X)), ml_d cX10_fewest pc .ireturn 1 pc' → True → ml_V E "LostRoom" cX10_fewest 3 false rm pc lv [ml_i rv]) {k5 : Nat → Int32 → Int32 → ml_M → Option (Int32 × ml_M)} (hk5 : ∀ (l0 : Nat) (l1 : Int32) (l2 : Int32) (m : ml_M), k5 l0 l1 l2 m = some (rv, rm) → ml_V E "LostRoom" cX10_fewest 3 false m 5 [(0, ml_r l0), (1, ml_i l1), (2, ml_i l2)] []) : ∀ (l0 : Nat) (l1 : Int32) (l2 : Int32) (m : ml_M), fX10_fewest_55 k5 l0 l1 l2 m = some (rv, rm) → ml_V E "LostRoom" cX10_fewest 3 false m 55 [(0, ml_r l0), (1, ml_i l1), (2, ml_i l2)] [] := by
  intro l0 l1 l2 m h
  unfold fX10_fewest_55 at h
  exact ml_iinc (lv' := [(2, ml_i (l2 + (1 : Int32))), (0, ml_r l0), (1, ml_i l1)]) dX10_fewest_55 2 rfl (congrArg (l2 + ·) kc_i1) (ml_hn hL rfl) rfl <| ml_goto dX10_fewest_58 <| ml_V.sub [1, 2, 0] rfl (hk5 _ _ _ _ h)
def fX10_fewest_40 (k5 : Nat → Int32 → Int32 → ml_M → Option (Int32 × ml_M)) (l0 : Nat) (l1 : Int32) (l2 : Int32) (t0 : Int32) (m : ml_M) : Option (Int32 × ml_M) :=
    if t0 = 0 then
    fX10_fewest_55 k5 l0 l1 l2 m
    else
    if (ml_K m l0).1 = 10 then
    ml_b1 (fX10_ownAll l0 l2 m) fun r438 =>
    if r438 = 0 then
    fX10_fewest_55 k5 l0 l1 l2 m
    else
    fX10_fewest_55 k5 l0 l2 l2 m
    else none
theorem vX10_fewest_40 {E : ml_E} (hL : ml_eL E = 4) {rv : Int32} {rm : ml_M} (hr : ∀ (pc pc' : Nat) (lv : List (Nat × ml_X)), ml_d cX10_fewest pc .ireturn 1 pc' → True → ml_V E "LostRoom" cX10_fewest 3 false rm pc lv [ml_i rv]) {k5 : Nat → Int32 → Int32 → ml_M → Option (Int32 × ml_M)} (hk5 : ∀ (l0 : Nat) (l1 : Int32) (l2 : Int32) (m : ml_M), k5 l0 l1 l2 m = some (rv, rm) → ml_V E "LostRoom" cX10_fewest 3 false m 5 [(0, ml_r l0), (1, ml_i l1), (2, ml_i l2)] []) : ∀ (l0 : Nat) (l1 : Int32) (l2 : Int32) (t0 : Int32) (m : ml_M), fX10_fewest_40 k5 l0 l1 l2 t0 m = some (rv, rm) → ml_V E "LostRoom" cX10_fewest 3 false m 40 [(0, ml_r l0), (1, ml_i l1), (2, ml_i l2)] [ml_i t0] := by
  intro l0 l1 l2 t0 m h
  unfold fX10_fewest_40 at h
  exact ml_istore_n (lv' := [(3, ml_i t0), (0, ml_r l0), (1, ml_i l1), (2, ml_i l2)]) dX10_fewest_40 (ml_hn hL rfl) rfl <| ml_iload_n dX10_fewest_41 0 rfl <| ml_if_eq dX10_fewest_42 h (fun _ h => ml_V.sub [1, 2, 3] rfl (vX10_fewest_55 hL hr hk5 _ _ _ _ h)) (fun _ h => ml_aload_n dX10_fewest_45 1 rfl <| ml_iload_n dX10_fewest_46 3 rfl <| ml_ck_of h fun hc437 h => ml_b1_of h fun r438 hv436 h => ml_callV dX10_fewest_47 wm_149 wb_80 hc437 (sX10_ownAll hv436) rfl (Nat.le_of_ble_eq_true rfl) (Nat.le_of_ble_eq_true rfl) rfl <| ml_if_eq dX10_fewest_50 h (fun _ h => ml_V.sub [1, 2, 3] rfl (vX10_fewest_55 hL hr hk5 _ _ _ _ h)) (fun _ h => ml_iload_n dX10_fewest_53 3 rfl <| ml_istore_n (lv' := [(1, ml_i l2), (3, ml_i t0), (0, ml_r l0), (2, ml_i l2)]) dX10_fewest_54 (ml_hn hL rfl) rfl <| ml_V.sub [2, 0, 3] rfl (vX10_fewest_55 hL hr hk5 _ _ _ _ h)))
def fX10_fewest_35 (k5 : Nat → Int32 → Int32 → ml_M → Option (Int32 × ml_M)) (l0 : Nat) (l1 : Int32) (l2 : Int32) (m : ml_M) : Option (Int32 × ml_M) :=
    fX10_fewest_40 k5 l0 l1 l2 (1 : Int32) m
theorem vX10_fewest_35 {E : ml_E} (hL : ml_eL E = 4) {rv : Int32} {rm : ml_M} (hr : ∀ (pc pc' : Nat) (lv : List (Nat × ml_X)), ml_d cX10_fewest pc .ireturn 1 pc' → True → ml_V E "LostRoom" cX10_fewest 3 false rm pc lv [ml_i rv]) {k5 : Nat → Int32 → Int32 → ml_M → Option (Int32 × ml_M)} (hk5 : ∀ (l0 : Nat) (l1 : Int32) (l2 : Int32) (m : ml_M), k5 l0 l1 l2 m = some (rv, rm) → ml_V E "LostRoom" cX10_fewest 3 false m 5 [(0, ml_r l0), (1, ml_i l1), (2, ml_i l2)] []) : ∀ (l0 : Nat) (l1 : Int32) (l2 : Int32) (m : ml_M), fX10_fewest_35 k5 l0 l1 l2 m = some (rv, rm) → ml_V E "LostRoom" cX10_fewest 3 false m 35 [(0, ml_r l0), (1, ml_i l1), (2, ml_i l2)] [] := by
  intro l0 l1 l2 m h
  unfold fX10_fewest_35 at h
  exact ml_iconst dX10_fewest_35 kc_i1 <| ml_goto dX10_fewest_36 <| ml_V.sub [0, 1, 2] rfl (vX10_fewest_40 hL hr hk5 _ _ _ _ _ h)
def fX10_fewest_61 (l0 : Nat) (l1 : Int32) (m : ml_M) : Option (Int32 × ml_M) :=
    if l1 = (-9 : Int32) then
    if (ml_K m l0).1 = 10 then
    ml_b2 (fX10_found l0 (4 : Int32) m) fun r446 m447 =>
    some (r446, m447)
    else none
    else
    if (ml_K m l0).1 = 10 then
    ml_let (ml_sI m l0 15 l1) fun m440 =>
    ml_b1 (fJ6_bitCount_0f7a4 l1 m440) fun r443 =>
    some (r443, m440)
    else none
theorem vX10_fewest_61 {E : ml_E} (hL : ml_eL E = 4) {rv : Int32} {rm : ml_M} (hr : ∀ (pc pc' : Nat) (lv : List (Nat × ml_X)), ml_d cX10_fewest pc .ireturn 1 pc' → True → ml_V E "LostRoom" cX10_fewest 3 false rm pc lv [ml_i rv]) : ∀ (l0 : Nat) (l1 : Int32) (m : ml_M), fX10_fewest_61 l0 l1 m = some (rv, rm) → ml_V E "LostRoom" cX10_fewest 3 false m 61 [(0, ml_r l0), (1, ml_i l1)] [] := by
  intro l0 l1 m h
  unfold fX10_fewest_61 at h
  exact ml_iload_n dX10_fewest_61 1 rfl <| ml_bipush dX10_fewest_62 kc_bm9 <| ml_icmp_ne dX10_fewest_64 h (fun _ h => ml_aload_n dX10_fewest_73 0 rfl <| ml_iload_n dX10_fewest_74 1 rfl <| ml_ck_of h fun hc439 h => ml_putI dX10_fewest_75 wb_81 hc439 <| ml_lt (m := m) rfl h fun m440 em441 h => ml_iload_n dX10_fewest_78 1 rfl <| ml_b1_of h fun r443 hv442 h => ml_callS dX10_fewest_79 wm_154 wb_82 (sJ6_bitCount_0f7a4 hv442) rfl (Nat.le_of_ble_eq_true rfl) (Nat.le_of_ble_eq_true rfl) rfl <| ml_rI (mk := ml_i) hr dX10_fewest_82 (fun _ => trivial) h) (fun _ h => ml_aload_n dX10_fewest_67 0 rfl <| ml_iconst dX10_fewest_68 kc_i4 <| ml_ck_of h fun hc445 h => ml_b2_of h fun r446 m447 hv444 h => ml_callV dX10_fewest_69 wm_36 wb_11 hc445 (sX10_found hv444) rfl (Nat.le_of_ble_eq_true rfl) (Nat.le_of_ble_eq_true rfl) rfl <| ml_rI (mk := ml_i) hr dX10_fewest_72 (fun _ => trivial) h)
def fX10_fewest_5 : Nat → Nat → Int32 → Int32 → ml_M → Option (Int32 × ml_M)
  | 0, _, _, _, _ => none
  | fu + 1, l0, l1, l2, m =>
    if (ml_K m l0).1 = 10 then
    ml_let (ml_R m l0 2) fun a449 =>
    if (ml_K m a449).1 = 1 then
    if ((1 : Int32) <<< ((ml_I m a449 2) &&& 31)) ≤ l2 then
    fX10_fewest_61 l0 l1 m
    else
    if l1 = (-9 : Int32) then
    fX10_fewest_35 (fX10_fewest_5 fu) l0 l1 l2 m
    else
    ml_b1 (fJ6_bitCount_0f7a4 l2 m) fun r452 =>
    ml_b1 (fJ6_bitCount_0f7a4 l1 m) fun r454 =>
    if r454 ≤ r452 then
    fX10_fewest_40 (fX10_fewest_5 fu) l0 l1 l2 (0 : Int32) m
    else
    fX10_fewest_35 (fX10_fewest_5 fu) l0 l1 l2 m
    else none
    else none
theorem vX10_fewest_5 {E : ml_E} (hL : ml_eL E = 4) {rv : Int32} {rm : ml_M} (hr : ∀ (pc pc' : Nat) (lv : List (Nat × ml_X)), ml_d cX10_fewest pc .ireturn 1 pc' → True → ml_V E "LostRoom" cX10_fewest 3 false rm pc lv [ml_i rv]) : ∀ (fu : Nat) (l0 : Nat) (l1 : Int32) (l2 : Int32) (m : ml_M), fX10_fewest_5 fu l0 l1 l2 m = some (rv, rm) → ml_V E "LostRoom" cX10_fewest 3 false m 5 [(0, ml_r l0), (1, ml_i l1), (2, ml_i l2)] [] := by
  intro fu
  induction fu with
  | zero => intro l0 l1 l2 m h; exact ml_none h
  | succ fu ih =>
    intro l0 l1 l2 m h
    have hk5 := ih
    unfold fX10_fewest_5 at h
    exact ml_iload_n dX10_fewest_5 2 rfl <| ml_iconst dX10_fewest_6 kc_i1 <| ml_aload_n dX10_fewest_7 0 rfl <| ml_ck_of h fun hc448 h => ml_getR dX10_fewest_8 wb_71 hc448 <| ml_lx (mk := ml_r) h fun a449 h => ml_ck_of h fun hc450 h => ml_getI dX10_fewest_11 wb_83 hc450 <| ml_ishl dX10_fewest_14 <| ml_icmp_ge dX10_fewest_15 h (fun _ h => ml_V.sub [0, 1] rfl (vX10_fewest_61 hL hr  _ _ _ h)) (fun _ h => ml_iload_n dX10_fewest_18 1 rfl <| ml_bipush dX10_fewest_19 kc_bm9 <| ml_icmp_eq dX10_fewest_21 h (fun _ h => ml_V.sub [0, 1, 2] rfl (vX10_fewest_35 hL hr hk5 _ _ _ _ h)) (fun _ h => ml_iload_n dX10_fewest_24 2 rfl <| ml_b1_of h fun r452 hv451 h => ml_callS dX10_fewest_25 wm_154 wb_82 (sJ6_bitCount_0f7a4 hv451) rfl (Nat.le_of_ble_eq_true rfl) (Nat.le_of_ble_eq_true rfl) rfl <| ml_iload_n dX10_fewest_28 1 rfl <| ml_b1_of h fun r454 hv453 h => ml_callS dX10_fewest_29 wm_154 wb_82 (sJ6_bitCount_0f7a4 hv453) rfl (Nat.le_of_ble_eq_true rfl) (Nat.le_of_ble_eq_true rfl) rfl <| ml_icmp_ge dX10_fewest_32 h (fun _ h => ml_iconst dX10_fewest_39 kc_i0 <| ml_V.sub [0, 1, 2] rfl (vX10_fewest_40 hL hr hk5 _ _ _ _ _ h)) (fun _ h => ml_V.sub [0, 1, 2] rfl (vX10_fewest_35 hL hr hk5 _ _ _ _ h))))
def fX10_fewest (l0 : Nat) (m : ml_M) : Option (Int32 × ml_M) :=
    fX10_fewest_5 ml_fu l0 (-9 : Int32) (0 : Int32) m
theorem wX10_fewest_0 {E : ml_E} (hL : ml_eL E = 4) {rv : Int32} {rm : ml_M} (hr : ∀ (pc pc' : Nat) (lv : List (Nat × ml_X)), ml_d cX10_fewest pc .ireturn 1 pc' → True → ml_V E "LostRoom" cX10_fewest 3 false rm pc lv [ml_i rv]) : ∀ (l0 : Nat) (m : ml_M), fX10_fewest l0 m = some (rv, rm) → ml_V E "LostRoom" cX10_fewest 3 false m 0 [(0, ml_r l0)] [] := by
  intro l0 m h
  unfold fX10_fewest at h
  exact ml_bipush dX10_fewest_0 kc_bm9 <| ml_istore_n (lv' := [(1, ml_i (-9 : Int32)), (0, ml_r l0)]) dX10_fewest_2 (ml_hn hL rfl) rfl <| ml_iconst dX10_fewest_3 kc_i0 <| ml_istore_n (lv' := [(2, ml_i (0 : Int32)), (1, ml_i (-9 : Int32)), (0, ml_r l0)]) dX10_fewest_4 (ml_hn hL rfl) rfl <| ml_V.sub [2, 1, 0] rfl (vX10_fewest_5 hL hr  ml_fu _ _ _ _ h)
theorem sX10_fewest {l0 : Nat} {m : ml_M} {rv : Int32} {rm : ml_M} (h : fX10_fewest l0 m = some (rv, rm)) : ml_Sn yX10_fewest cX10_fewest 4 (some .int) 3 [ml_r l0] m (some (ml_i rv)) rm :=
  ml_Sn_of (P := True) (ini := false) (by decide +kernel) (Nat.le_of_ble_eq_true rfl) (fun h => by cases h) (fun _ => ml_RkI rv) fun E hL hr => wX10_fewest_0 hL hr _ _ h
theorem dX10_asked_0 : ml_d cX10_asked 0 (.aload_n 0) 1 1 := ⟨by decide +kernel, rfl⟩
theorem dX10_asked_1 : ml_d cX10_asked 1 (.getfield 203) 3 4 := ⟨by decide +kernel, rfl⟩
theorem dX10_asked_4 : ml_d cX10_asked 4 (.ireturn) 1 5 := ⟨by decide +kernel, rfl⟩
def fX10_asked (l0 : Nat) (m : ml_M) : Option Int32 :=
    if (ml_K m l0).1 = 10 then
    some (ml_I m l0 15)
    else none
theorem wX10_asked_0 {E : ml_E} (hL : ml_eL E = 1) {rv : Int32} {m : ml_M} (hr : ∀ (pc pc' : Nat) (lv : List (Nat × ml_X)), ml_d cX10_asked pc .ireturn 1 pc' → True → ml_V E "LostRoom" cX10_asked 2 false m pc lv [ml_i rv]) : ∀ (l0 : Nat), fX10_asked l0 m = some rv → ml_V E "LostRoom" cX10_asked 2 false m 0 [(0, ml_r l0)] [] := by
  intro l0 h
  unfold fX10_asked at h
  exact ml_aload_n dX10_asked_0 0 rfl <| ml_ck_of h fun hc455 h => ml_getI dX10_asked_1 wb_84 hc455 <| ml_rp (mk := ml_i) hr dX10_asked_4 (fun _ => trivial) h
theorem sX10_asked {l0 : Nat} {m : ml_M} {rv : Int32} (h : fX10_asked l0 m = some rv) : ml_Sn yX10_asked cX10_asked 1 (some .int) 2 [ml_r l0] m (some (ml_i rv)) m :=
  ml_Sn_of (P := True) (ini := false) (by decide +kernel) (Nat.le_of_ble_eq_true rfl) (fun h => by cases h) (fun _ => ml_RkI rv) fun E hL hr => wX10_asked_0 hL hr _ h
theorem dX10_isThing_0 : ml_d cX10_isThing 0 (.iload_n 1) 1 1 := ⟨by decide +kernel, rfl⟩
theorem dX10_isThing_1 : ml_d cX10_isThing 1 (.iconst 0) 1 2 := ⟨by decide +kernel, rfl⟩
theorem dX10_isThing_2 : ml_d cX10_isThing 2 (.aload_n 0) 1 3 := ⟨by decide +kernel, rfl⟩
theorem dX10_isThing_3 : ml_d cX10_isThing 3 (.getfield 118) 3 6 := ⟨by decide +kernel, rfl⟩
theorem dX10_isThing_6 : ml_d cX10_isThing 6 (.iconst 1) 1 7 := ⟨by decide +kernel, rfl⟩
theorem dX10_isThing_7 : ml_d cX10_isThing 7 (.isub) 1 8 := ⟨by decide +kernel, rfl⟩
theorem dX10_isThing_8 : ml_d cX10_isThing 8 (.invokestatic 138) 3 11 := ⟨by decide +kernel, rfl⟩
theorem dX10_isThing_11 : ml_d cX10_isThing 11 (.ireturn) 1 12 := ⟨by decide +kernel, rfl⟩
def fX10_isThing (l0 : Nat) (l1 : Int32) (m : ml_M) : Option Int32 :=
    if (ml_K m l0).1 = 10 then
    ml_b1 (fX10_within l1 (0 : Int32) ((ml_I m l0 5) - (1 : Int32)) m) fun r458 =>
    if r458 = 0 ∨ r458 = 1 then some r458 else none
    else none
theorem wX10_isThing_0 {E : ml_E} (hL : ml_eL E = 2) {rv : Int32} {m : ml_M} (hr : ∀ (pc pc' : Nat) (lv : List (Nat × ml_X)), ml_d cX10_isThing pc .ireturn 1 pc' → (rv = 0 ∨ rv = 1) → ml_V E "LostRoom" cX10_isThing 3 false m pc lv [ml_i rv]) : ∀ (l0 : Nat) (l1 : Int32), fX10_isThing l0 l1 m = some rv → ml_V E "LostRoom" cX10_isThing 3 false m 0 [(0, ml_r l0), (1, ml_i l1)] [] := by
  intro l0 l1 h
  unfold fX10_isThing at h
  exact ml_iload_n dX10_isThing_0 1 rfl <| ml_iconst dX10_isThing_1 kc_i0 <| ml_aload_n dX10_isThing_2 0 rfl <| ml_ck_of h fun hc456 h => ml_getI dX10_isThing_3 wb_77 hc456 <| ml_iconst dX10_isThing_6 kc_i1 <| ml_isub dX10_isThing_7 <| ml_b1_of h fun r458 hv457 h => ml_callS dX10_isThing_8 wm_21 wb_4 (sX10_within hv457) rfl (Nat.le_of_ble_eq_true rfl) (Nat.le_of_ble_eq_true rfl) rfl <| ml_ck_of h fun hz459 h => ml_rp (mk := ml_i) hr dX10_isThing_11 (fun e => e ▸ hz459) h
theorem sX10_isThing {l0 : Nat} {l1 : Int32} {m : ml_M} {rv : Int32} (h : fX10_isThing l0 l1 m = some rv) : ml_Sn yX10_isThing cX10_isThing 2 (some .boolean) 3 [ml_r l0, ml_i l1] m (some (ml_i rv)) m :=
  ml_Sn_of (P := (rv = 0 ∨ rv = 1)) (ini := false) (by decide +kernel) (Nat.le_of_ble_eq_true rfl) (fun h => by cases h) (fun hz => ml_RkZ rv hz) fun E hL hr => wX10_isThing_0 hL hr _ _ h
theorem dX10_may_0 : ml_d cX10_may 0 (.aload_n 0) 1 1 := ⟨by decide +kernel, rfl⟩
theorem dX10_may_1 : ml_d cX10_may 1 (.iload_n 1) 1 2 := ⟨by decide +kernel, rfl⟩
theorem dX10_may_2 : ml_d cX10_may 2 (.invokevirtual 172) 3 5 := ⟨by decide +kernel, rfl⟩
theorem dX10_may_5 : ml_j cX10_may 5 (.ifCond .eq) 20 8 := ⟨15, by decide +kernel, by decide, rfl⟩
theorem dX10_may_8 : ml_d cX10_may 8 (.aload_n 0) 1 9 := ⟨by decide +kernel, rfl⟩
theorem dX10_may_9 : ml_d cX10_may 9 (.getfield 36) 3 12 := ⟨by decide +kernel, rfl⟩
theorem dX10_may_12 : ml_d cX10_may 12 (.iload_n 1) 1 13 := ⟨by decide +kernel, rfl⟩
theorem dX10_may_13 : ml_d cX10_may 13 (.aaload) 1 14 := ⟨by decide +kernel, rfl⟩
theorem dX10_may_14 : ml_d cX10_may 14 (.getfield 169) 3 17 := ⟨by decide +kernel, rfl⟩
theorem dX10_may_17 : ml_j cX10_may 17 .goto 21 20 := ⟨4, by decide +kernel, by decide, rfl⟩
theorem dX10_may_20 : ml_d cX10_may 20 (.iconst (-1)) 1 21 := ⟨by decide +kernel, rfl⟩
theorem dX10_may_21 : ml_d cX10_may 21 (.ireturn) 1 22 := ⟨by decide +kernel, rfl⟩
def fX10_may (l0 : Nat) (l1 : Int32) (m : ml_M) : Option Int32 :=
    if (ml_K m l0).1 = 10 then
    ml_b1 (fX10_isThing l0 l1 m) fun r462 =>
    if r462 = 0 then
    some (-1 : Int32)
    else
    ml_let (ml_R m l0 4) fun a463 =>
    if ml_in m a463 29 l1 then
    ml_let (ml_R m a463 l1.toNatClampNeg) fun a465 =>
    if (ml_K m a465).1 = 8 then
    some (ml_I m a465 5)
    else none
    else none
    else none
theorem wX10_may_0 {E : ml_E} (hL : ml_eL E = 2) {rv : Int32} {m : ml_M} (hr : ∀ (pc pc' : Nat) (lv : List (Nat × ml_X)), ml_d cX10_may pc .ireturn 1 pc' → True → ml_V E "LostRoom" cX10_may 4 false m pc lv [ml_i rv]) : ∀ (l0 : Nat) (l1 : Int32), fX10_may l0 l1 m = some rv → ml_V E "LostRoom" cX10_may 4 false m 0 [(0, ml_r l0), (1, ml_i l1)] [] := by
  intro l0 l1 h
  unfold fX10_may at h
  exact ml_aload_n dX10_may_0 0 rfl <| ml_iload_n dX10_may_1 1 rfl <| ml_ck_of h fun hc461 h => ml_b1_of h fun r462 hv460 h => ml_callV dX10_may_2 wm_159 wb_85 hc461 (sX10_isThing hv460) rfl (Nat.le_of_ble_eq_true rfl) (Nat.le_of_ble_eq_true rfl) rfl <| ml_if_eq dX10_may_5 h (fun _ h => ml_iconst dX10_may_20 kc_im1 <| ml_rp (mk := ml_i) hr dX10_may_21 (fun _ => trivial) h) (fun _ h => ml_aload_n dX10_may_8 0 rfl <| ml_getR dX10_may_9 wb_78 hc461 <| ml_lx (mk := ml_r) h fun a463 h => ml_iload_n dX10_may_12 1 rfl <| ml_ck_of h fun hi464 h => ml_aald (kd := 29) dX10_may_13 (by decide) hi464 <| ml_lx (mk := ml_r) h fun a465 h => ml_ck_of h fun hc466 h => ml_getI dX10_may_14 wb_79 hc466 <| ml_goto dX10_may_17 <| ml_rp (mk := ml_i) hr dX10_may_21 (fun _ => trivial) h)
theorem sX10_may {l0 : Nat} {l1 : Int32} {m : ml_M} {rv : Int32} (h : fX10_may l0 l1 m = some rv) : ml_Sn yX10_may cX10_may 2 (some .int) 4 [ml_r l0, ml_i l1] m (some (ml_i rv)) m :=
  ml_Sn_of (P := True) (ini := false) (by decide +kernel) (Nat.le_of_ble_eq_true rfl) (fun h => by cases h) (fun _ => ml_RkI rv) fun E hL hr => wX10_may_0 hL hr _ _ h
theorem dX10_fits_0 : ml_d cX10_fits 0 (.lconst 1) 1 1 := ⟨by decide +kernel, rfl⟩
theorem dX10_fits_1 : ml_d cX10_fits 1 (.lstore_n 1) 1 2 := ⟨by decide +kernel, rfl⟩
theorem dX10_fits_2 : ml_d cX10_fits 2 (.iconst 0) 1 3 := ⟨by decide +kernel, rfl⟩
theorem dX10_fits_3 : ml_d cX10_fits 3 (.istore_n 3) 1 4 := ⟨by decide +kernel, rfl⟩
theorem dX10_fits_4 : ml_d cX10_fits 4 (.iload_n 3) 1 5 := ⟨by decide +kernel, rfl⟩
theorem dX10_fits_5 : ml_d cX10_fits 5 (.aload_n 0) 1 6 := ⟨by decide +kernel, rfl⟩
theorem dX10_fits_6 : ml_d cX10_fits 6 (.getfield 118) 3 9 := ⟨by decide +kernel, rfl⟩
theorem dX10_fits_9 : ml_j cX10_fits 9 (.if_icmp .ge) 34 12 := ⟨25, by decide +kernel, by decide, rfl⟩
theorem dX10_fits_12 : ml_d cX10_fits 12 (.lload_n 1) 1 13 := ⟨by decide +kernel, rfl⟩
theorem dX10_fits_13 : ml_d cX10_fits 13 (.aload_n 0) 1 14 := ⟨by decide +kernel, rfl⟩
theorem dX10_fits_14 : ml_d cX10_fits 14 (.getfield 36) 3 17 := ⟨by decide +kernel, rfl⟩
theorem dX10_fits_17 : ml_d cX10_fits 17 (.iload_n 3) 1 18 := ⟨by decide +kernel, rfl⟩
theorem dX10_fits_18 : ml_d cX10_fits 18 (.aaload) 1 19 := ⟨by decide +kernel, rfl⟩
theorem dX10_fits_19 : ml_d cX10_fits 19 (.getfield 169) 3 22 := ⟨by decide +kernel, rfl⟩
theorem dX10_fits_22 : ml_d cX10_fits 22 (.invokestatic 196) 3 25 := ⟨by decide +kernel, rfl⟩
theorem dX10_fits_25 : ml_d cX10_fits 25 (.i2l) 1 26 := ⟨by decide +kernel, rfl⟩
theorem dX10_fits_26 : ml_d cX10_fits 26 (.lmul) 1 27 := ⟨by decide +kernel, rfl⟩
theorem dX10_fits_27 : ml_d cX10_fits 27 (.lstore_n 1) 1 28 := ⟨by decide +kernel, rfl⟩
theorem dX10_fits_28 : ml_d cX10_fits 28 (.iinc 3 1) 3 31 := ⟨by decide +kernel, rfl⟩
theorem dX10_fits_31 : ml_j cX10_fits 31 .goto 4 34 := ⟨(-27), by decide +kernel, by decide, rfl⟩
theorem dX10_fits_34 : ml_d cX10_fits 34 (.aload_n 0) 1 35 := ⟨by decide +kernel, rfl⟩
theorem dX10_fits_35 : ml_d cX10_fits 35 (.lload_n 1) 1 36 := ⟨by decide +kernel, rfl⟩
theorem dX10_fits_36 : ml_d cX10_fits 36 (.putfield 206) 3 39 := ⟨by decide +kernel, rfl⟩
theorem dX10_fits_39 : ml_d cX10_fits 39 (.lload_n 1) 1 40 := ⟨by decide +kernel, rfl⟩
theorem dX10_fits_40 : ml_d cX10_fits 40 (.lconst 0) 1 41 := ⟨by decide +kernel, rfl⟩
theorem dX10_fits_41 : ml_d cX10_fits 41 (.lcmp) 1 42 := ⟨by decide +kernel, rfl⟩
theorem dX10_fits_42 : ml_j cX10_fits 42 (.ifCond .ne) 49 45 := ⟨7, by decide +kernel, by decide, rfl⟩
theorem dX10_fits_45 : ml_d cX10_fits 45 (.iconst 0) 1 46 := ⟨by decide +kernel, rfl⟩
theorem dX10_fits_46 : ml_j cX10_fits 46 .goto 50 49 := ⟨4, by decide +kernel, by decide, rfl⟩
theorem dX10_fits_49 : ml_d cX10_fits 49 (.iconst 1) 1 50 := ⟨by decide +kernel, rfl⟩
theorem dX10_fits_50 : ml_d cX10_fits 50 (.ireturn) 1 51 := ⟨by decide +kernel, rfl⟩
def fX10_fits_34 (l0 : Nat) (l1 : Int64) (m : ml_M) : Option (Int32 × ml_M) :=
    if (ml_K m l0).1 = 10 then
    ml_let (ml_sJ m l0 16 l1) fun m468 =>
    if (lg_cmp l1 (0 : Int64)) = 0 then
    some ((0 : Int32), m468)
    else
    some ((1 : Int32), m468)
    else none
theorem vX10_fits_34 {E : ml_E} (hL : ml_eL E = 4) {rv : Int32} {rm : ml_M} (hr : ∀ (pc pc' : Nat) (lv : List (Nat × ml_X)), ml_d cX10_fits pc .ireturn 1 pc' → True → ml_V E "LostRoom" cX10_fits 3 false rm pc lv [ml_i rv]) : ∀ (l0 : Nat) (l1 : Int64) (m : ml_M), fX10_fits_34 l0 l1 m = some (rv, rm) → ml_V E "LostRoom" cX10_fits 3 false m 34 [(0, ml_r l0), (1, ml_l l1)] [] := by
  intro l0 l1 m h
  unfold fX10_fits_34 at h
  exact ml_aload_n dX10_fits_34 0 rfl <| ml_lload_n dX10_fits_35 1 rfl <| ml_ck_of h fun hc467 h => ml_putJ dX10_fits_36 wb_86 hc467 <| ml_lt (m := m) rfl h fun m468 em469 h => ml_lload_n dX10_fits_39 1 rfl <| ml_lconst dX10_fits_40 rfl <| ml_lcmp dX10_fits_41 <| ml_if_ne dX10_fits_42 h (fun _ h => ml_iconst dX10_fits_49 kc_i1 <| ml_rI (mk := ml_i) hr dX10_fits_50 (fun _ => trivial) h) (fun _ h => ml_iconst dX10_fits_45 kc_i0 <| ml_goto dX10_fits_46 <| ml_rI (mk := ml_i) hr dX10_fits_50 (fun _ => trivial) h)
def fX10_fits_4 : Nat → Nat → Int64 → Int32 → ml_M → Option (Int32 × ml_M)
  | 0, _, _, _, _ => none
  | fu + 1, l0, l1, l3, m =>
    if (ml_K m l0).1 = 10 then
    if (ml_I m l0 5) ≤ l3 then
    fX10_fits_34 l0 l1 m
    else
    ml_let (ml_R m l0 4) fun a471 =>
    if ml_in m a471 29 l3 then
    ml_let (ml_R m a471 l3.toNatClampNeg) fun a473 =>
    if (ml_K m a473).1 = 8 then
    ml_b1 (fJ6_bitCount_0f7a4 (ml_I m a473 5) m) fun r476 =>
    ml_let (l1 * r476.toInt64) fun x477 =>
    (fX10_fits_4 fu) l0 x477 (l3 + (1 : Int32)) m
    else none
    else none
    else none
theorem vX10_fits_4 {E : ml_E} (hL : ml_eL E = 4) {rv : Int32} {rm : ml_M} (hr : ∀ (pc pc' : Nat) (lv : List (Nat × ml_X)), ml_d cX10_fits pc .ireturn 1 pc' → True → ml_V E "LostRoom" cX10_fits 3 false rm pc lv [ml_i rv]) : ∀ (fu : Nat) (l0 : Nat) (l1 : Int64) (l3 : Int32) (m : ml_M), fX10_fits_4 fu l0 l1 l3 m = some (rv, rm) → ml_V E "LostRoom" cX10_fits 3 false m 4 [(0, ml_r l0), (1, ml_l l1), (3, ml_i l3)] [] := by
  intro fu
  induction fu with
  | zero => intro l0 l1 l3 m h; exact ml_none h
  | succ fu ih =>
    intro l0 l1 l3 m h
    have hk4 := ih
    unfold fX10_fits_4 at h
    exact ml_iload_n dX10_fits_4 2 rfl <| ml_aload_n dX10_fits_5 0 rfl <| ml_ck_of h fun hc470 h => ml_getI dX10_fits_6 wb_77 hc470 <| ml_icmp_ge dX10_fits_9 h (fun _ h => ml_V.sub [0, 1] rfl (vX10_fits_34 hL hr  _ _ _ h)) (fun _ h => ml_lload_n dX10_fits_12 1 rfl <| ml_aload_n dX10_fits_13 0 rfl <| ml_getR dX10_fits_14 wb_78 hc470 <| ml_lx (mk := ml_r) h fun a471 h => ml_iload_n dX10_fits_17 2 rfl <| ml_ck_of h fun hi472 h => ml_aald (kd := 29) dX10_fits_18 (by decide) hi472 <| ml_lx (mk := ml_r) h fun a473 h => ml_ck_of h fun hc474 h => ml_getI dX10_fits_19 wb_79 hc474 <| ml_b1_of h fun r476 hv475 h => ml_callS dX10_fits_22 wm_154 wb_82 (sJ6_bitCount_0f7a4 hv475) rfl (Nat.le_of_ble_eq_true rfl) (Nat.le_of_ble_eq_true rfl) rfl <| ml_i2l dX10_fits_25 <| ml_lmul dX10_fits_26 <| ml_lx (mk := ml_l) h fun x477 h => ml_lstore_n (lv' := [(1, ml_l x477), (0, ml_r l0), (3, ml_i l3)]) dX10_fits_27 (ml_hn hL rfl) rfl <| ml_iinc (lv' := [(3, ml_i (l3 + (1 : Int32))), (1, ml_l x477), (0, ml_r l0)]) dX10_fits_28 2 rfl (congrArg (l3 + ·) kc_i1) (ml_hn hL rfl) rfl <| ml_goto dX10_fits_31 <| ml_V.sub [2, 1, 0] rfl (hk4 _ _ _ _ h))
def fX10_fits (l0 : Nat) (m : ml_M) : Option (Int32 × ml_M) :=
    fX10_fits_4 ml_fu l0 (1 : Int64) (0 : Int32) m
theorem wX10_fits_0 {E : ml_E} (hL : ml_eL E = 4) {rv : Int32} {rm : ml_M} (hr : ∀ (pc pc' : Nat) (lv : List (Nat × ml_X)), ml_d cX10_fits pc .ireturn 1 pc' → True → ml_V E "LostRoom" cX10_fits 3 false rm pc lv [ml_i rv]) : ∀ (l0 : Nat) (m : ml_M), fX10_fits l0 m = some (rv, rm) → ml_V E "LostRoom" cX10_fits 3 false m 0 [(0, ml_r l0)] [] := by
  intro l0 m h
  unfold fX10_fits at h
  exact ml_lconst dX10_fits_0 rfl <| ml_lstore_n (lv' := [(1, ml_l (1 : Int64)), (0, ml_r l0)]) dX10_fits_1 (ml_hn hL rfl) rfl <| ml_iconst dX10_fits_2 kc_i0 <| ml_istore_n (lv' := [(3, ml_i (0 : Int32)), (1, ml_l (1 : Int64)), (0, ml_r l0)]) dX10_fits_3 (ml_hn hL rfl) rfl <| ml_V.sub [2, 1, 0] rfl (vX10_fits_4 hL hr  ml_fu _ _ _ _ h)
theorem sX10_fits {l0 : Nat} {m : ml_M} {rv : Int32} {rm : ml_M} (h : fX10_fits l0 m = some (rv, rm)) : ml_Sn yX10_fits cX10_fits 4 (some .int) 3 [ml_r l0] m (some (ml_i rv)) rm :=
  ml_Sn_of (P := True) (ini := false) (by decide +kernel) (Nat.le_of_ble_eq_true rfl) (fun h => by cases h) (fun _ => ml_RkI rv) fun E hL hr => wX10_fits_0 hL hr _ _ h
theorem dL_fewest_0 : ml_d cL_fewest 0 (.aload_n 0) 1 1 := ⟨by decide +kernel, rfl⟩
theorem dL_fewest_1 : ml_d cL_fewest 1 (.invokevirtual 79) 3 4 := ⟨by decide +kernel, rfl⟩
theorem dL_fewest_4 : ml_d cL_fewest 4 (.istore_n 2) 1 5 := ⟨by decide +kernel, rfl⟩
theorem dL_fewest_5 : ml_d cL_fewest 5 (.iload_n 2) 1 6 := ⟨by decide +kernel, rfl⟩
theorem dL_fewest_6 : ml_j cL_fewest 6 (.ifCond .lt) 16 9 := ⟨10, by decide +kernel, by decide, rfl⟩
theorem dL_fewest_9 : ml_d cL_fewest 9 (.aload_n 0) 1 10 := ⟨by decide +kernel, rfl⟩
theorem dL_fewest_10 : ml_d cL_fewest 10 (.invokevirtual 100) 3 13 := ⟨by decide +kernel, rfl⟩
theorem dL_fewest_13 : ml_j cL_fewest 13 .goto 17 16 := ⟨4, by decide +kernel, by decide, rfl⟩
theorem dL_fewest_16 : ml_d cL_fewest 16 (.iconst 0) 1 17 := ⟨by decide +kernel, rfl⟩
theorem dL_fewest_17 : ml_d cL_fewest 17 (.istore_n 3) 1 18 := ⟨by decide +kernel, rfl⟩
theorem dL_fewest_18 : ml_d cL_fewest 18 (.iconst 1) 1 19 := ⟨by decide +kernel, rfl⟩
theorem dL_fewest_19 : ml_d cL_fewest 19 (.istore 4) 2 21 := ⟨by decide +kernel, rfl⟩
theorem dL_fewest_21 : ml_d cL_fewest 21 (.iconst 0) 1 22 := ⟨by decide +kernel, rfl⟩
theorem dL_fewest_22 : ml_d cL_fewest 22 (.istore 5) 2 24 := ⟨by decide +kernel, rfl⟩
theorem dL_fewest_24 : ml_d cL_fewest 24 (.iload 5) 2 26 := ⟨by decide +kernel, rfl⟩
theorem dL_fewest_26 : ml_d cL_fewest 26 (.iload_n 1) 1 27 := ⟨by decide +kernel, rfl⟩
theorem dL_fewest_27 : ml_j cL_fewest 27 (.if_icmp .ge) 57 30 := ⟨30, by decide +kernel, by decide, rfl⟩
theorem dL_fewest_30 : ml_d cL_fewest 30 (.iload 4) 2 32 := ⟨by decide +kernel, rfl⟩
theorem dL_fewest_32 : ml_d cL_fewest 32 (.aload_n 0) 1 33 := ⟨by decide +kernel, rfl⟩
theorem dL_fewest_33 : ml_d cL_fewest 33 (.iload 5) 2 35 := ⟨by decide +kernel, rfl⟩
theorem dL_fewest_35 : ml_d cL_fewest 35 (.invokevirtual 60) 3 38 := ⟨by decide +kernel, rfl⟩
theorem dL_fewest_38 : ml_d cL_fewest 38 (.iload_n 3) 1 39 := ⟨by decide +kernel, rfl⟩
theorem dL_fewest_39 : ml_d cL_fewest 39 (.iand) 1 40 := ⟨by decide +kernel, rfl⟩
theorem dL_fewest_40 : ml_j cL_fewest 40 (.ifCond .eq) 47 43 := ⟨7, by decide +kernel, by decide, rfl⟩
theorem dL_fewest_43 : ml_d cL_fewest 43 (.iconst 1) 1 44 := ⟨by decide +kernel, rfl⟩
theorem dL_fewest_44 : ml_j cL_fewest 44 .goto 48 47 := ⟨4, by decide +kernel, by decide, rfl⟩
theorem dL_fewest_47 : ml_d cL_fewest 47 (.iconst 0) 1 48 := ⟨by decide +kernel, rfl⟩
theorem dL_fewest_48 : ml_d cL_fewest 48 (.iand) 1 49 := ⟨by decide +kernel, rfl⟩
theorem dL_fewest_49 : ml_d cL_fewest 49 (.istore 4) 2 51 := ⟨by decide +kernel, rfl⟩
theorem dL_fewest_51 : ml_d cL_fewest 51 (.iinc 5 1) 3 54 := ⟨by decide +kernel, rfl⟩
theorem dL_fewest_54 : ml_j cL_fewest 54 .goto 24 57 := ⟨(-30), by decide +kernel, by decide, rfl⟩
theorem dL_fewest_57 : ml_d cL_fewest 57 (.iload_n 2) 1 58 := ⟨by decide +kernel, rfl⟩
theorem dL_fewest_58 : ml_j cL_fewest 58 (.ifCond .ge) 76 61 := ⟨18, by decide +kernel, by decide, rfl⟩
theorem dL_fewest_61 : ml_d cL_fewest 61 (.aload_n 0) 1 62 := ⟨by decide +kernel, rfl⟩
theorem dL_fewest_62 : ml_d cL_fewest 62 (.invokevirtual 71) 3 65 := ⟨by decide +kernel, rfl⟩
theorem dL_fewest_65 : ml_j cL_fewest 65 (.ifCond .ne) 72 68 := ⟨7, by decide +kernel, by decide, rfl⟩
theorem dL_fewest_68 : ml_d cL_fewest 68 (.iconst 1) 1 69 := ⟨by decide +kernel, rfl⟩
theorem dL_fewest_69 : ml_j cL_fewest 69 .goto 102 72 := ⟨33, by decide +kernel, by decide, rfl⟩
theorem dL_fewest_72 : ml_d cL_fewest 72 (.iconst 0) 1 73 := ⟨by decide +kernel, rfl⟩
theorem dL_fewest_73 : ml_j cL_fewest 73 .goto 102 76 := ⟨29, by decide +kernel, by decide, rfl⟩
theorem dL_fewest_76 : ml_d cL_fewest 76 (.iload_n 3) 1 77 := ⟨by decide +kernel, rfl⟩
theorem dL_fewest_77 : ml_d cL_fewest 77 (.invokestatic 106) 3 80 := ⟨by decide +kernel, rfl⟩
theorem dL_fewest_80 : ml_d cL_fewest 80 (.iload_n 2) 1 81 := ⟨by decide +kernel, rfl⟩
theorem dL_fewest_81 : ml_j cL_fewest 81 (.if_icmp .ne) 101 84 := ⟨20, by decide +kernel, by decide, rfl⟩
theorem dL_fewest_84 : ml_d cL_fewest 84 (.iload 4) 2 86 := ⟨by decide +kernel, rfl⟩
theorem dL_fewest_86 : ml_j cL_fewest 86 (.ifCond .eq) 101 89 := ⟨15, by decide +kernel, by decide, rfl⟩
theorem dL_fewest_89 : ml_d cL_fewest 89 (.aload_n 0) 1 90 := ⟨by decide +kernel, rfl⟩
theorem dL_fewest_90 : ml_d cL_fewest 90 (.invokevirtual 71) 3 93 := ⟨by decide +kernel, rfl⟩
theorem dL_fewest_93 : ml_d cL_fewest 93 (.iconst 1) 1 94 := ⟨by decide +kernel, rfl⟩
theorem dL_fewest_94 : ml_j cL_fewest 94 (.if_icmp .ne) 101 97 := ⟨7, by decide +kernel, by decide, rfl⟩
theorem dL_fewest_97 : ml_d cL_fewest 97 (.iconst 1) 1 98 := ⟨by decide +kernel, rfl⟩
theorem dL_fewest_98 : ml_j cL_fewest 98 .goto 102 101 := ⟨4, by decide +kernel, by decide, rfl⟩
theorem dL_fewest_101 : ml_d cL_fewest 101 (.iconst 0) 1 102 := ⟨by decide +kernel, rfl⟩
theorem dL_fewest_102 : ml_d cL_fewest 102 (.ireturn) 1 103 := ⟨by decide +kernel, rfl⟩
def fL_fewest_48 (k24 : Nat → Int32 → Int32 → Int32 → Int32 → Int32 → ml_M → Option (Int32 × ml_M)) (l0 : Nat) (l1 : Int32) (l2 : Int32) (l3 : Int32) (l5 : Int32) (t0 : Int32) (t1 : Int32) (m : ml_M) : Option (Int32 × ml_M) :=
    ml_let (t1 &&& t0) fun x478 =>
    k24 l0 l1 l2 l3 x478 (l5 + (1 : Int32)) m
theorem vL_fewest_48 {E : ml_E} (hL : ml_eL E = 6) {rv : Int32} {rm : ml_M} (hr : ∀ (pc pc' : Nat) (lv : List (Nat × ml_X)), ml_d cL_fewest pc .ireturn 1 pc' → (rv = 0 ∨ rv = 1) → ml_V E "LostRoomLaw" cL_fewest 5 false rm pc lv [ml_i rv]) {k24 : Nat → Int32 → Int32 → Int32 → Int32 → Int32 → ml_M → Option (Int32 × ml_M)} (hk24 : ∀ (l0 : Nat) (l1 : Int32) (l2 : Int32) (l3 : Int32) (l4 : Int32) (l5 : Int32) (m : ml_M), k24 l0 l1 l2 l3 l4 l5 m = some (rv, rm) → ml_V E "LostRoomLaw" cL_fewest 5 false m 24 [(0, ml_r l0), (1, ml_i l1), (2, ml_i l2), (3, ml_i l3), (4, ml_i l4), (5, ml_i l5)] []) : ∀ (l0 : Nat) (l1 : Int32) (l2 : Int32) (l3 : Int32) (l5 : Int32) (t0 : Int32) (t1 : Int32) (m : ml_M), fL_fewest_48 k24 l0 l1 l2 l3 l5 t0 t1 m = some (rv, rm) → ml_V E "LostRoomLaw" cL_fewest 5 false m 48 [(0, ml_r l0), (1, ml_i l1), (2, ml_i l2), (3, ml_i l3), (5, ml_i l5)] [ml_i t0, ml_i t1] := by
  intro l0 l1 l2 l3 l5 t0 t1 m h
  unfold fL_fewest_48 at h
  exact ml_iand dL_fewest_48 <| ml_lx (mk := ml_i) h fun x478 h => ml_istore (lv' := [(4, ml_i x478), (0, ml_r l0), (1, ml_i l1), (2, ml_i l2), (3, ml_i l3), (5, ml_i l5)]) dL_fewest_49 (ml_hn hL rfl) rfl <| ml_iinc (lv' := [(5, ml_i (l5 + (1 : Int32))), (4, ml_i x478), (0, ml_r l0), (1, ml_i l1), (2, ml_i l2), (3, ml_i l3)]) dL_fewest_51 5 rfl (congrArg (l5 + ·) kc_i1) (ml_hn hL rfl) rfl <| ml_goto dL_fewest_54 <| ml_V.sub [2, 3, 4, 5, 1, 0] rfl (hk24 _ _ _ _ _ _ _ h)
def fL_fewest_57 (l0 : Nat) (l2 : Int32) (l3 : Int32) (l4 : Int32) (m : ml_M) : Option (Int32 × ml_M) :=
    if 0 ≤ l2 then
    ml_b1 (fL_bits l3 m) fun r480 =>
    if r480 = l2 then
    if l4 = 0 then
    some ((0 : Int32), m)
    else
    if (ml_K m l0).1 = 10 then
    ml_b2 (fX10_fits l0 m) fun r483 m484 =>
    if r483 = (1 : Int32) then
    some ((1 : Int32), m484)
    else
    some ((0 : Int32), m484)
    else none
    else
    some ((0 : Int32), m)
    else
    if (ml_K m l0).1 = 10 then
    ml_b2 (fX10_fits l0 m) fun r487 m488 =>
    if r487 = 0 then
    some ((1 : Int32), m488)
    else
    some ((0 : Int32), m488)
    else none
theorem vL_fewest_57 {E : ml_E} (hL : ml_eL E = 6) {rv : Int32} {rm : ml_M} (hr : ∀ (pc pc' : Nat) (lv : List (Nat × ml_X)), ml_d cL_fewest pc .ireturn 1 pc' → (rv = 0 ∨ rv = 1) → ml_V E "LostRoomLaw" cL_fewest 5 false rm pc lv [ml_i rv]) : ∀ (l0 : Nat) (l2 : Int32) (l3 : Int32) (l4 : Int32) (m : ml_M), fL_fewest_57 l0 l2 l3 l4 m = some (rv, rm) → ml_V E "LostRoomLaw" cL_fewest 5 false m 57 [(0, ml_r l0), (2, ml_i l2), (3, ml_i l3), (4, ml_i l4)] [] := by
  intro l0 l2 l3 l4 m h
  unfold fL_fewest_57 at h
  exact ml_iload_n dL_fewest_57 1 rfl <| ml_if_ge dL_fewest_58 h (fun _ h => ml_iload_n dL_fewest_76 2 rfl <| ml_b1_of h fun r480 hv479 h => ml_callS dL_fewest_77 wm_163 wb_87 (sL_bits hv479) rfl (Nat.le_of_ble_eq_true rfl) (Nat.le_of_ble_eq_true rfl) rfl <| ml_iload_n dL_fewest_80 1 rfl <| ml_icmp_ne dL_fewest_81 h (fun _ h => ml_iconst dL_fewest_101 kc_i0 <| ml_rI (mk := ml_i) hr dL_fewest_102 (fun e => Or.inl e.symm) h) (fun _ h => ml_iload dL_fewest_84 3 rfl <| ml_if_eq dL_fewest_86 h (fun _ h => ml_iconst dL_fewest_101 kc_i0 <| ml_rI (mk := ml_i) hr dL_fewest_102 (fun e => Or.inl e.symm) h) (fun _ h => ml_aload_n dL_fewest_89 0 rfl <| ml_ck_of h fun hc482 h => ml_b2_of h fun r483 m484 hv481 h => ml_callV dL_fewest_90 wm_167 wb_88 hc482 (sX10_fits hv481) rfl (Nat.le_of_ble_eq_true rfl) (Nat.le_of_ble_eq_true rfl) rfl <| ml_iconst dL_fewest_93 kc_i1 <| ml_icmp_ne dL_fewest_94 h (fun _ h => ml_iconst dL_fewest_101 kc_i0 <| ml_rI (mk := ml_i) hr dL_fewest_102 (fun e => Or.inl e.symm) h) (fun _ h => ml_iconst dL_fewest_97 kc_i1 <| ml_goto dL_fewest_98 <| ml_rI (mk := ml_i) hr dL_fewest_102 (fun e => Or.inr e.symm) h)))) (fun _ h => ml_aload_n dL_fewest_61 0 rfl <| ml_ck_of h fun hc486 h => ml_b2_of h fun r487 m488 hv485 h => ml_callV dL_fewest_62 wm_167 wb_88 hc486 (sX10_fits hv485) rfl (Nat.le_of_ble_eq_true rfl) (Nat.le_of_ble_eq_true rfl) rfl <| ml_if_ne dL_fewest_65 h (fun _ h => ml_iconst dL_fewest_72 kc_i0 <| ml_goto dL_fewest_73 <| ml_rI (mk := ml_i) hr dL_fewest_102 (fun e => Or.inl e.symm) h) (fun _ h => ml_iconst dL_fewest_68 kc_i1 <| ml_goto dL_fewest_69 <| ml_rI (mk := ml_i) hr dL_fewest_102 (fun e => Or.inr e.symm) h))
def fL_fewest_24 : Nat → Nat → Int32 → Int32 → Int32 → Int32 → Int32 → ml_M → Option (Int32 × ml_M)
  | 0, _, _, _, _, _, _, _ => none
  | fu + 1, l0, l1, l2, l3, l4, l5, m =>
    if l1 ≤ l5 then
    fL_fewest_57 l0 l2 l3 l4 m
    else
    if (ml_K m l0).1 = 10 then
    ml_b1 (fX10_may l0 l5 m) fun r491 =>
    if (r491 &&& l3) = 0 then
    fL_fewest_48 (fL_fewest_24 fu) l0 l1 l2 l3 l5 (0 : Int32) l4 m
    else
    fL_fewest_48 (fL_fewest_24 fu) l0 l1 l2 l3 l5 (1 : Int32) l4 m
    else none
theorem vL_fewest_24 {E : ml_E} (hL : ml_eL E = 6) {rv : Int32} {rm : ml_M} (hr : ∀ (pc pc' : Nat) (lv : List (Nat × ml_X)), ml_d cL_fewest pc .ireturn 1 pc' → (rv = 0 ∨ rv = 1) → ml_V E "LostRoomLaw" cL_fewest 5 false rm pc lv [ml_i rv]) : ∀ (fu : Nat) (l0 : Nat) (l1 : Int32) (l2 : Int32) (l3 : Int32) (l4 : Int32) (l5 : Int32) (m : ml_M), fL_fewest_24 fu l0 l1 l2 l3 l4 l5 m = some (rv, rm) → ml_V E "LostRoomLaw" cL_fewest 5 false m 24 [(0, ml_r l0), (1, ml_i l1), (2, ml_i l2), (3, ml_i l3), (4, ml_i l4), (5, ml_i l5)] [] := by
  intro fu
  induction fu with
  | zero => intro l0 l1 l2 l3 l4 l5 m h; exact ml_none h
  | succ fu ih =>
    intro l0 l1 l2 l3 l4 l5 m h
    have hk24 := ih
    unfold fL_fewest_24 at h
    exact ml_iload dL_fewest_24 5 rfl <| ml_iload_n dL_fewest_26 1 rfl <| ml_icmp_ge dL_fewest_27 h (fun _ h => ml_V.sub [0, 2, 3, 4] rfl (vL_fewest_57 hL hr  _ _ _ _ _ h)) (fun _ h => ml_iload dL_fewest_30 4 rfl <| ml_aload_n dL_fewest_32 0 rfl <| ml_iload dL_fewest_33 5 rfl <| ml_ck_of h fun hc490 h => ml_b1_of h fun r491 hv489 h => ml_callV dL_fewest_35 wm_171 wb_89 hc490 (sX10_may hv489) rfl (Nat.le_of_ble_eq_true rfl) (Nat.le_of_ble_eq_true rfl) rfl <| ml_iload_n dL_fewest_38 3 rfl <| ml_iand dL_fewest_39 <| ml_if_eq dL_fewest_40 h (fun _ h => ml_iconst dL_fewest_47 kc_i0 <| ml_V.sub [0, 1, 2, 3, 5] rfl (vL_fewest_48 hL hr hk24 _ _ _ _ _ _ _ _ h)) (fun _ h => ml_iconst dL_fewest_43 kc_i1 <| ml_goto dL_fewest_44 <| ml_V.sub [0, 1, 2, 3, 5] rfl (vL_fewest_48 hL hr hk24 _ _ _ _ _ _ _ _ h)))
def fL_fewest_17 (l0 : Nat) (l1 : Int32) (l2 : Int32) (t0 : Int32) (m : ml_M) : Option (Int32 × ml_M) :=
    fL_fewest_24 ml_fu l0 l1 l2 t0 (1 : Int32) (0 : Int32) m
theorem vL_fewest_17 {E : ml_E} (hL : ml_eL E = 6) {rv : Int32} {rm : ml_M} (hr : ∀ (pc pc' : Nat) (lv : List (Nat × ml_X)), ml_d cL_fewest pc .ireturn 1 pc' → (rv = 0 ∨ rv = 1) → ml_V E "LostRoomLaw" cL_fewest 5 false rm pc lv [ml_i rv]) : ∀ (l0 : Nat) (l1 : Int32) (l2 : Int32) (t0 : Int32) (m : ml_M), fL_fewest_17 l0 l1 l2 t0 m = some (rv, rm) → ml_V E "LostRoomLaw" cL_fewest 5 false m 17 [(0, ml_r l0), (1, ml_i l1), (2, ml_i l2)] [ml_i t0] := by
  intro l0 l1 l2 t0 m h
  unfold fL_fewest_17 at h
  exact ml_istore_n (lv' := [(3, ml_i t0), (0, ml_r l0), (1, ml_i l1), (2, ml_i l2)]) dL_fewest_17 (ml_hn hL rfl) rfl <| ml_iconst dL_fewest_18 kc_i1 <| ml_istore (lv' := [(4, ml_i (1 : Int32)), (3, ml_i t0), (0, ml_r l0), (1, ml_i l1), (2, ml_i l2)]) dL_fewest_19 (ml_hn hL rfl) rfl <| ml_iconst dL_fewest_21 kc_i0 <| ml_istore (lv' := [(5, ml_i (0 : Int32)), (4, ml_i (1 : Int32)), (3, ml_i t0), (0, ml_r l0), (1, ml_i l1), (2, ml_i l2)]) dL_fewest_22 (ml_hn hL rfl) rfl <| ml_V.sub [3, 4, 5, 2, 1, 0] rfl (vL_fewest_24 hL hr  ml_fu _ _ _ _ _ _ _ h)
def fL_fewest (l0 : Nat) (l1 : Int32) (m : ml_M) : Option (Int32 × ml_M) :=
    if (ml_K m l0).1 = 10 then
    ml_b2 (fX10_fewest l0 m) fun r494 m495 =>
    if r494 < 0 then
    fL_fewest_17 l0 l1 r494 (0 : Int32) m495
    else
    if (ml_K m495 l0).1 = 10 then
    ml_b1 (fX10_asked l0 m495) fun r498 =>
    fL_fewest_17 l0 l1 r494 r498 m495
    else none
    else none
theorem wL_fewest_0 {E : ml_E} (hL : ml_eL E = 6) {rv : Int32} {rm : ml_M} (hr : ∀ (pc pc' : Nat) (lv : List (Nat × ml_X)), ml_d cL_fewest pc .ireturn 1 pc' → (rv = 0 ∨ rv = 1) → ml_V E "LostRoomLaw" cL_fewest 5 false rm pc lv [ml_i rv]) : ∀ (l0 : Nat) (l1 : Int32) (m : ml_M), fL_fewest l0 l1 m = some (rv, rm) → ml_V E "LostRoomLaw" cL_fewest 5 false m 0 [(0, ml_r l0), (1, ml_i l1)] [] := by
  intro l0 l1 m h
  unfold fL_fewest at h
  exact ml_aload_n dL_fewest_0 0 rfl <| ml_ck_of h fun hc493 h => ml_b2_of h fun r494 m495 hv492 h => ml_callV dL_fewest_1 wm_175 wb_90 hc493 (sX10_fewest hv492) rfl (Nat.le_of_ble_eq_true rfl) (Nat.le_of_ble_eq_true rfl) rfl <| ml_istore_n (lv' := [(2, ml_i r494), (0, ml_r l0), (1, ml_i l1)]) dL_fewest_4 (ml_hn hL rfl) rfl <| ml_iload_n dL_fewest_5 0 rfl <| ml_if_lt dL_fewest_6 h (fun _ h => ml_iconst dL_fewest_16 kc_i0 <| ml_V.sub [1, 2, 0] rfl (vL_fewest_17 hL hr  _ _ _ _ _ h)) (fun _ h => ml_aload_n dL_fewest_9 1 rfl <| ml_ck_of h fun hc497 h => ml_b1_of h fun r498 hv496 h => ml_callV dL_fewest_10 wm_179 wb_91 hc497 (sX10_asked hv496) rfl (Nat.le_of_ble_eq_true rfl) (Nat.le_of_ble_eq_true rfl) rfl <| ml_goto dL_fewest_13 <| ml_V.sub [1, 2, 0] rfl (vL_fewest_17 hL hr  _ _ _ _ _ h))
theorem sL_fewest {l0 : Nat} {l1 : Int32} {m : ml_M} {rv : Int32} {rm : ml_M} (h : fL_fewest l0 l1 m = some (rv, rm)) : ml_Sn yL_fewest cL_fewest 6 (some .boolean) 5 [ml_r l0, ml_i l1] m (some (ml_i rv)) rm :=
  ml_Sn_of (P := (rv = 0 ∨ rv = 1)) (ini := false) (by decide +kernel) (Nat.le_of_ble_eq_true rfl) (fun h => by cases h) (fun hz => ml_RkZ rv hz) fun E hL hr => wL_fewest_0 hL hr _ _ _ h
theorem dX7_init_0 : ml_d cX7_init 0 (.aload_n 0) 1 1 := ⟨by decide +kernel, rfl⟩
theorem dX7_init_1 : ml_d cX7_init 1 (.invokespecial 3) 3 4 := ⟨by decide +kernel, rfl⟩
theorem dX7_init_4 : ml_d cX7_init 4 (.aload_n 0) 1 5 := ⟨by decide +kernel, rfl⟩
theorem dX7_init_5 : ml_d cX7_init 5 (.iconst 1) 1 6 := ⟨by decide +kernel, rfl⟩
theorem dX7_init_6 : ml_d cX7_init 6 (.putfield 9) 3 9 := ⟨by decide +kernel, rfl⟩
theorem dX7_init_9 : ml_d cX7_init 9 (.aload_n 0) 1 10 := ⟨by decide +kernel, rfl⟩
theorem dX7_init_10 : ml_d cX7_init 10 (.bipush 8) 2 12 := ⟨by decide +kernel, rfl⟩
theorem dX7_init_12 : ml_d cX7_init 12 (.newarray .int) 2 14 := ⟨by decide +kernel, rfl⟩
theorem dX7_init_14 : ml_d cX7_init 14 (.putfield 15) 3 17 := ⟨by decide +kernel, rfl⟩
theorem dX7_init_17 : ml_d cX7_init 17 (.aload_n 0) 1 18 := ⟨by decide +kernel, rfl⟩
theorem dX7_init_18 : ml_d cX7_init 18 (.bipush 21) 2 20 := ⟨by decide +kernel, rfl⟩
theorem dX7_init_20 : ml_d cX7_init 20 (.newarray .int) 2 22 := ⟨by decide +kernel, rfl⟩
theorem dX7_init_22 : ml_d cX7_init 22 (.putfield 19) 3 25 := ⟨by decide +kernel, rfl⟩
theorem dX7_init_25 : ml_d cX7_init 25 (.aload_n 0) 1 26 := ⟨by decide +kernel, rfl⟩
theorem dX7_init_26 : ml_d cX7_init 26 (.sipush 1344) 3 29 := ⟨by decide +kernel, rfl⟩
theorem dX7_init_29 : ml_d cX7_init 29 (.newarray .int) 2 31 := ⟨by decide +kernel, rfl⟩
theorem dX7_init_31 : ml_d cX7_init 31 (.putfield 22) 3 34 := ⟨by decide +kernel, rfl⟩
theorem dX7_init_34 : ml_d cX7_init 34 (.aload_n 0) 1 35 := ⟨by decide +kernel, rfl⟩
theorem dX7_init_35 : ml_d cX7_init 35 (.bipush 64) 2 37 := ⟨by decide +kernel, rfl⟩
theorem dX7_init_37 : ml_d cX7_init 37 (.newarray .int) 2 39 := ⟨by decide +kernel, rfl⟩
theorem dX7_init_39 : ml_d cX7_init 39 (.putfield 25) 3 42 := ⟨by decide +kernel, rfl⟩
theorem dX7_init_42 : ml_d cX7_init 42 (.aload_n 0) 1 43 := ⟨by decide +kernel, rfl⟩
theorem dX7_init_43 : ml_d cX7_init 43 (.sipush 256) 3 46 := ⟨by decide +kernel, rfl⟩
theorem dX7_init_46 : ml_d cX7_init 46 (.newarray .boolean) 2 48 := ⟨by decide +kernel, rfl⟩
theorem dX7_init_48 : ml_d cX7_init 48 (.putfield 28) 3 51 := ⟨by decide +kernel, rfl⟩
theorem dX7_init_51 : ml_d cX7_init 51 (.aload_n 0) 1 52 := ⟨by decide +kernel, rfl⟩
theorem dX7_init_52 : ml_d cX7_init 52 (.bipush 8) 2 54 := ⟨by decide +kernel, rfl⟩
theorem dX7_init_54 : ml_d cX7_init 54 (.newarray .int) 2 56 := ⟨by decide +kernel, rfl⟩
theorem dX7_init_56 : ml_d cX7_init 56 (.putfield 32) 3 59 := ⟨by decide +kernel, rfl⟩
theorem dX7_init_59 : ml_d cX7_init 59 (.aload_n 0) 1 60 := ⟨by decide +kernel, rfl⟩
theorem dX7_init_60 : ml_d cX7_init 60 (.bipush 8) 2 62 := ⟨by decide +kernel, rfl⟩
theorem dX7_init_62 : ml_d cX7_init 62 (.newarray .int) 2 64 := ⟨by decide +kernel, rfl⟩
theorem dX7_init_64 : ml_d cX7_init 64 (.putfield 35) 3 67 := ⟨by decide +kernel, rfl⟩
theorem dX7_init_67 : ml_d cX7_init 67 (.aload_n 0) 1 68 := ⟨by decide +kernel, rfl⟩
theorem dX7_init_68 : ml_d cX7_init 68 (.bipush 8) 2 70 := ⟨by decide +kernel, rfl⟩
theorem dX7_init_70 : ml_d cX7_init 70 (.newarray .int) 2 72 := ⟨by decide +kernel, rfl⟩
theorem dX7_init_72 : ml_d cX7_init 72 (.putfield 38) 3 75 := ⟨by decide +kernel, rfl⟩
theorem dX7_init_75 : ml_d cX7_init 75 (.return_) 1 76 := ⟨by decide +kernel, rfl⟩
def fX7_init (l0 : Nat) (m : ml_M) : Option ml_M :=
    if l0 ≠ 0 then
    if (ml_K m l0).1 = 7 then
    ml_let (ml_sI m l0 0 (1 : Int32)) fun m501 =>
    ml_let (ml_n m501 + 1) fun a503 =>
    ml_let (ml_al m501 20 (8 : Int32).toNatClampNeg (8 : Int32).toNatClampNeg) fun m504 =>
    if (ml_K m504 l0).1 = 7 then
    ml_let (ml_sR m504 l0 2 a503) fun m508 =>
    ml_let (ml_n m508 + 1) fun a510 =>
    ml_let (ml_al m508 20 (21 : Int32).toNatClampNeg (21 : Int32).toNatClampNeg) fun m511 =>
    if (ml_K m511 l0).1 = 7 then
    ml_let (ml_sR m511 l0 3 a510) fun m515 =>
    ml_let (ml_n m515 + 1) fun a517 =>
    ml_let (ml_al m515 20 (1344 : Int32).toNatClampNeg (1344 : Int32).toNatClampNeg) fun m518 =>
    if (ml_K m518 l0).1 = 7 then
    ml_let (ml_sR m518 l0 4 a517) fun m522 =>
    ml_let (ml_n m522 + 1) fun a524 =>
    ml_let (ml_al m522 20 (64 : Int32).toNatClampNeg (64 : Int32).toNatClampNeg) fun m525 =>
    if (ml_K m525 l0).1 = 7 then
    ml_let (ml_sR m525 l0 8 a524) fun m529 =>
    ml_let (ml_n m529 + 1) fun a531 =>
    ml_let (ml_al m529 22 (256 : Int32).toNatClampNeg (256 : Int32).toNatClampNeg) fun m532 =>
    if (ml_K m532 l0).1 = 7 then
    ml_let (ml_sR m532 l0 9 a531) fun m536 =>
    ml_let (ml_n m536 + 1) fun a538 =>
    ml_let (ml_al m536 20 (8 : Int32).toNatClampNeg (8 : Int32).toNatClampNeg) fun m539 =>
    if (ml_K m539 l0).1 = 7 then
    ml_let (ml_sR m539 l0 10 a538) fun m543 =>
    ml_let (ml_n m543 + 1) fun a545 =>
    ml_let (ml_al m543 20 (8 : Int32).toNatClampNeg (8 : Int32).toNatClampNeg) fun m546 =>
    if (ml_K m546 l0).1 = 7 then
    ml_let (ml_sR m546 l0 11 a545) fun m550 =>
    ml_let (ml_n m550 + 1) fun a552 =>
    ml_let (ml_al m550 20 (8 : Int32).toNatClampNeg (8 : Int32).toNatClampNeg) fun m553 =>
    if (ml_K m553 l0).1 = 7 then
    ml_let (ml_sR m553 l0 12 a552) fun m557 =>
    some m557
    else none
    else none
    else none
    else none
    else none
    else none
    else none
    else none
    else none
    else none
theorem wX7_init_0 {E : ml_E} (hL : ml_eL E = 1) {rm : ml_M} (hr : ∀ (pc pc' : Nat) (lv : List (Nat × ml_X)), ml_d cX7_init pc .return_ 1 pc' → True → ml_V E "LostRoom$Sharings" cX7_init 2 true rm pc lv []) : ∀ (l0 : Nat) (m : ml_M), fX7_init l0 m = some rm → ml_V E "LostRoom$Sharings" cX7_init 2 true m 0 [(0, ml_r l0)] [] := by
  intro l0 m h
  unfold fX7_init at h
  exact ml_aload_n dX7_init_0 0 rfl <| ml_ck_of h fun hz499 h => ml_objInit dX7_init_1 wb_92 (Nat.le_of_ble_eq_true rfl) (Nat.le_of_ble_eq_true rfl) hz499 <| ml_aload_n dX7_init_4 0 rfl <| ml_iconst dX7_init_5 kc_i1 <| ml_ck_of h fun hc500 h => ml_putZ dX7_init_6 wb_93 hc500 (Or.inr rfl) <| ml_lt (m := m) rfl h fun m501 em502 h => ml_aload_n dX7_init_9 0 rfl <| ml_bipush dX7_init_10 kc_b8 <| ml_newAs (kd := 20) dX7_init_12 wb_0 (by decide) h fun a503 m504 hn505 hc506 h => ml_ck_of h fun hc507 h => ml_putR dX7_init_14 wb_94 hc507 <| ml_lt (m := m504) rfl h fun m508 em509 h => ml_aload_n dX7_init_17 0 rfl <| ml_bipush dX7_init_18 kc_b21 <| ml_newAs (kd := 20) dX7_init_20 wb_0 (by decide) h fun a510 m511 hn512 hc513 h => ml_ck_of h fun hc514 h => ml_putR dX7_init_22 wb_95 hc514 <| ml_lt (m := m511) rfl h fun m515 em516 h => ml_aload_n dX7_init_25 0 rfl <| ml_sipush dX7_init_26 kc_s1344 <| ml_newAs (kd := 20) dX7_init_29 wb_0 (by decide) h fun a517 m518 hn519 hc520 h => ml_ck_of h fun hc521 h => ml_putR dX7_init_31 wb_96 hc521 <| ml_lt (m := m518) rfl h fun m522 em523 h => ml_aload_n dX7_init_34 0 rfl <| ml_bipush dX7_init_35 kc_b64 <| ml_newAs (kd := 20) dX7_init_37 wb_0 (by decide) h fun a524 m525 hn526 hc527 h => ml_ck_of h fun hc528 h => ml_putR dX7_init_39 wb_97 hc528 <| ml_lt (m := m525) rfl h fun m529 em530 h => ml_aload_n dX7_init_42 0 rfl <| ml_sipush dX7_init_43 kc_s256 <| ml_newAs (kd := 22) dX7_init_46 wb_98 (by decide) h fun a531 m532 hn533 hc534 h => ml_ck_of h fun hc535 h => ml_putR dX7_init_48 wb_99 hc535 <| ml_lt (m := m532) rfl h fun m536 em537 h => ml_aload_n dX7_init_51 0 rfl <| ml_bipush dX7_init_52 kc_b8 <| ml_newAs (kd := 20) dX7_init_54 wb_0 (by decide) h fun a538 m539 hn540 hc541 h => ml_ck_of h fun hc542 h => ml_putR dX7_init_56 wb_100 hc542 <| ml_lt (m := m539) rfl h fun m543 em544 h => ml_aload_n dX7_init_59 0 rfl <| ml_bipush dX7_init_60 kc_b8 <| ml_newAs (kd := 20) dX7_init_62 wb_0 (by decide) h fun a545 m546 hn547 hc548 h => ml_ck_of h fun hc549 h => ml_putR dX7_init_64 wb_101 hc549 <| ml_lt (m := m546) rfl h fun m550 em551 h => ml_aload_n dX7_init_67 0 rfl <| ml_bipush dX7_init_68 kc_b8 <| ml_newAs (kd := 20) dX7_init_70 wb_0 (by decide) h fun a552 m553 hn554 hc555 h => ml_ck_of h fun hc556 h => ml_putR dX7_init_72 wb_102 hc556 <| ml_lt (m := m553) rfl h fun m557 em558 h => ml_rv hr dX7_init_75 trivial h
theorem sX7_init {l0 : Nat} {m : ml_M} {rm : ml_M} (h : fX7_init l0 m = some rm) : ml_Sn yX7_init cX7_init 1 none 2 [ml_r l0] m none rm :=
  ml_Sn_of (P := True) (ini := true) (by decide +kernel) (Nat.le_of_ble_eq_true rfl) (fun _ => rfl) (fun _ => ml_RkV) fun E hL hr => wX7_init_0 hL hr _ _ h
theorem dX4_init_0 : ml_d cX4_init 0 (.aload_n 0) 1 1 := ⟨by decide +kernel, rfl⟩
theorem dX4_init_1 : ml_d cX4_init 1 (.invokespecial 3) 3 4 := ⟨by decide +kernel, rfl⟩
theorem dX4_init_4 : ml_d cX4_init 4 (.aload_n 0) 1 5 := ⟨by decide +kernel, rfl⟩
theorem dX4_init_5 : ml_d cX4_init 5 (.iconst 1) 1 6 := ⟨by decide +kernel, rfl⟩
theorem dX4_init_6 : ml_d cX4_init 6 (.putfield 9) 3 9 := ⟨by decide +kernel, rfl⟩
theorem dX4_init_9 : ml_d cX4_init 9 (.aload_n 0) 1 10 := ⟨by decide +kernel, rfl⟩
theorem dX4_init_10 : ml_d cX4_init 10 (.bipush 10) 2 12 := ⟨by decide +kernel, rfl⟩
theorem dX4_init_12 : ml_d cX4_init 12 (.newarray .int) 2 14 := ⟨by decide +kernel, rfl⟩
theorem dX4_init_14 : ml_d cX4_init 14 (.putfield 15) 3 17 := ⟨by decide +kernel, rfl⟩
theorem dX4_init_17 : ml_d cX4_init 17 (.aload_n 0) 1 18 := ⟨by decide +kernel, rfl⟩
theorem dX4_init_18 : ml_d cX4_init 18 (.bipush 10) 2 20 := ⟨by decide +kernel, rfl⟩
theorem dX4_init_20 : ml_d cX4_init 20 (.newarray .int) 2 22 := ⟨by decide +kernel, rfl⟩
theorem dX4_init_22 : ml_d cX4_init 22 (.putfield 19) 3 25 := ⟨by decide +kernel, rfl⟩
theorem dX4_init_25 : ml_d cX4_init 25 (.aload_n 0) 1 26 := ⟨by decide +kernel, rfl⟩
theorem dX4_init_26 : ml_d cX4_init 26 (.sipush 10240) 3 29 := ⟨by decide +kernel, rfl⟩
theorem dX4_init_29 : ml_d cX4_init 29 (.newarray .int) 2 31 := ⟨by decide +kernel, rfl⟩
theorem dX4_init_31 : ml_d cX4_init 31 (.putfield 22) 3 34 := ⟨by decide +kernel, rfl⟩
theorem dX4_init_34 : ml_d cX4_init 34 (.aload_n 0) 1 35 := ⟨by decide +kernel, rfl⟩
theorem dX4_init_35 : ml_d cX4_init 35 (.sipush 10240) 3 38 := ⟨by decide +kernel, rfl⟩
theorem dX4_init_38 : ml_d cX4_init 38 (.newarray .int) 2 40 := ⟨by decide +kernel, rfl⟩
theorem dX4_init_40 : ml_d cX4_init 40 (.putfield 25) 3 43 := ⟨by decide +kernel, rfl⟩
theorem dX4_init_43 : ml_d cX4_init 43 (.return_) 1 44 := ⟨by decide +kernel, rfl⟩
def fX4_init (l0 : Nat) (m : ml_M) : Option ml_M :=
    if l0 ≠ 0 then
    if (ml_K m l0).1 = 4 then
    ml_let (ml_sI m l0 0 (1 : Int32)) fun m561 =>
    ml_let (ml_n m561 + 1) fun a563 =>
    ml_let (ml_al m561 20 (10 : Int32).toNatClampNeg (10 : Int32).toNatClampNeg) fun m564 =>
    if (ml_K m564 l0).1 = 4 then
    ml_let (ml_sR m564 l0 3 a563) fun m568 =>
    ml_let (ml_n m568 + 1) fun a570 =>
    ml_let (ml_al m568 20 (10 : Int32).toNatClampNeg (10 : Int32).toNatClampNeg) fun m571 =>
    if (ml_K m571 l0).1 = 4 then
    ml_let (ml_sR m571 l0 5 a570) fun m575 =>
    ml_let (ml_n m575 + 1) fun a577 =>
    ml_let (ml_al m575 20 (10240 : Int32).toNatClampNeg (10240 : Int32).toNatClampNeg) fun m578 =>
    if (ml_K m578 l0).1 = 4 then
    ml_let (ml_sR m578 l0 6 a577) fun m582 =>
    ml_let (ml_n m582 + 1) fun a584 =>
    ml_let (ml_al m582 20 (10240 : Int32).toNatClampNeg (10240 : Int32).toNatClampNeg) fun m585 =>
    if (ml_K m585 l0).1 = 4 then
    ml_let (ml_sR m585 l0 7 a584) fun m589 =>
    some m589
    else none
    else none
    else none
    else none
    else none
    else none
theorem wX4_init_0 {E : ml_E} (hL : ml_eL E = 1) {rm : ml_M} (hr : ∀ (pc pc' : Nat) (lv : List (Nat × ml_X)), ml_d cX4_init pc .return_ 1 pc' → True → ml_V E "LostRoom$Lays" cX4_init 2 true rm pc lv []) : ∀ (l0 : Nat) (m : ml_M), fX4_init l0 m = some rm → ml_V E "LostRoom$Lays" cX4_init 2 true m 0 [(0, ml_r l0)] [] := by
  intro l0 m h
  unfold fX4_init at h
  exact ml_aload_n dX4_init_0 0 rfl <| ml_ck_of h fun hz559 h => ml_objInit dX4_init_1 wb_103 (Nat.le_of_ble_eq_true rfl) (Nat.le_of_ble_eq_true rfl) hz559 <| ml_aload_n dX4_init_4 0 rfl <| ml_iconst dX4_init_5 kc_i1 <| ml_ck_of h fun hc560 h => ml_putZ dX4_init_6 wb_104 hc560 (Or.inr rfl) <| ml_lt (m := m) rfl h fun m561 em562 h => ml_aload_n dX4_init_9 0 rfl <| ml_bipush dX4_init_10 kc_b10 <| ml_newAs (kd := 20) dX4_init_12 wb_0 (by decide) h fun a563 m564 hn565 hc566 h => ml_ck_of h fun hc567 h => ml_putR dX4_init_14 wb_105 hc567 <| ml_lt (m := m564) rfl h fun m568 em569 h => ml_aload_n dX4_init_17 0 rfl <| ml_bipush dX4_init_18 kc_b10 <| ml_newAs (kd := 20) dX4_init_20 wb_0 (by decide) h fun a570 m571 hn572 hc573 h => ml_ck_of h fun hc574 h => ml_putR dX4_init_22 wb_106 hc574 <| ml_lt (m := m571) rfl h fun m575 em576 h => ml_aload_n dX4_init_25 0 rfl <| ml_sipush dX4_init_26 kc_s10240 <| ml_newAs (kd := 20) dX4_init_29 wb_0 (by decide) h fun a577 m578 hn579 hc580 h => ml_ck_of h fun hc581 h => ml_putR dX4_init_31 wb_107 hc581 <| ml_lt (m := m578) rfl h fun m582 em583 h => ml_aload_n dX4_init_34 0 rfl <| ml_sipush dX4_init_35 kc_s10240 <| ml_newAs (kd := 20) dX4_init_38 wb_0 (by decide) h fun a584 m585 hn586 hc587 h => ml_ck_of h fun hc588 h => ml_putR dX4_init_40 wb_108 hc588 <| ml_lt (m := m585) rfl h fun m589 em590 h => ml_rv hr dX4_init_43 trivial h
theorem sX4_init {l0 : Nat} {m : ml_M} {rm : ml_M} (h : fX4_init l0 m = some rm) : ml_Sn yX4_init cX4_init 1 none 2 [ml_r l0] m none rm :=
  ml_Sn_of (P := True) (ini := true) (by decide +kernel) (Nat.le_of_ble_eq_true rfl) (fun _ => rfl) (fun _ => ml_RkV) fun E hL hr => wX4_init_0 hL hr _ _ h
theorem dX3_init_0 : ml_d cX3_init 0 (.aload_n 0) 1 1 := ⟨by decide +kernel, rfl⟩
theorem dX3_init_1 : ml_d cX3_init 1 (.invokespecial 3) 3 4 := ⟨by decide +kernel, rfl⟩
theorem dX3_init_4 : ml_d cX3_init 4 (.aload_n 0) 1 5 := ⟨by decide +kernel, rfl⟩
theorem dX3_init_5 : ml_d cX3_init 5 (.bipush 10) 2 7 := ⟨by decide +kernel, rfl⟩
theorem dX3_init_7 : ml_d cX3_init 7 (.anewarray 9) 3 10 := ⟨by decide +kernel, rfl⟩
theorem dX3_init_10 : ml_d cX3_init 10 (.putfield 11) 3 13 := ⟨by decide +kernel, rfl⟩
theorem dX3_init_13 : ml_d cX3_init 13 (.aload_n 0) 1 14 := ⟨by decide +kernel, rfl⟩
theorem dX3_init_14 : ml_d cX3_init 14 (.bipush 10) 2 16 := ⟨by decide +kernel, rfl⟩
theorem dX3_init_16 : ml_d cX3_init 16 (.newarray .int) 2 18 := ⟨by decide +kernel, rfl⟩
theorem dX3_init_18 : ml_d cX3_init 18 (.putfield 17) 3 21 := ⟨by decide +kernel, rfl⟩
theorem dX3_init_21 : ml_d cX3_init 21 (.aload_n 0) 1 22 := ⟨by decide +kernel, rfl⟩
theorem dX3_init_22 : ml_d cX3_init 22 (.sipush 1024) 3 25 := ⟨by decide +kernel, rfl⟩
theorem dX3_init_25 : ml_d cX3_init 25 (.newarray .int) 2 27 := ⟨by decide +kernel, rfl⟩
theorem dX3_init_27 : ml_d cX3_init 27 (.putfield 21) 3 30 := ⟨by decide +kernel, rfl⟩
theorem dX3_init_30 : ml_d cX3_init 30 (.aload_n 0) 1 31 := ⟨by decide +kernel, rfl⟩
theorem dX3_init_31 : ml_d cX3_init 31 (.sipush 1024) 3 34 := ⟨by decide +kernel, rfl⟩
theorem dX3_init_34 : ml_d cX3_init 34 (.newarray .int) 2 36 := ⟨by decide +kernel, rfl⟩
theorem dX3_init_36 : ml_d cX3_init 36 (.putfield 24) 3 39 := ⟨by decide +kernel, rfl⟩
theorem dX3_init_39 : ml_d cX3_init 39 (.aload_n 0) 1 40 := ⟨by decide +kernel, rfl⟩
theorem dX3_init_40 : ml_d cX3_init 40 (.sipush 1024) 3 43 := ⟨by decide +kernel, rfl⟩
theorem dX3_init_43 : ml_d cX3_init 43 (.newarray .int) 2 45 := ⟨by decide +kernel, rfl⟩
theorem dX3_init_45 : ml_d cX3_init 45 (.putfield 27) 3 48 := ⟨by decide +kernel, rfl⟩
theorem dX3_init_48 : ml_d cX3_init 48 (.return_) 1 49 := ⟨by decide +kernel, rfl⟩
def fX3_init (l0 : Nat) (m : ml_M) : Option ml_M :=
    if l0 ≠ 0 then
    ml_let (ml_n m + 1) fun a592 =>
    ml_let (ml_al m 29 (10 : Int32).toNatClampNeg (10 : Int32).toNatClampNeg) fun m593 =>
    if (ml_K m593 l0).1 = 3 then
    ml_let (ml_sR m593 l0 0 a592) fun m597 =>
    ml_let (ml_n m597 + 1) fun a599 =>
    ml_let (ml_al m597 20 (10 : Int32).toNatClampNeg (10 : Int32).toNatClampNeg) fun m600 =>
    if (ml_K m600 l0).1 = 3 then
    ml_let (ml_sR m600 l0 2 a599) fun m604 =>
    ml_let (ml_n m604 + 1) fun a606 =>
    ml_let (ml_al m604 20 (1024 : Int32).toNatClampNeg (1024 : Int32).toNatClampNeg) fun m607 =>
    if (ml_K m607 l0).1 = 3 then
    ml_let (ml_sR m607 l0 3 a606) fun m611 =>
    ml_let (ml_n m611 + 1) fun a613 =>
    ml_let (ml_al m611 20 (1024 : Int32).toNatClampNeg (1024 : Int32).toNatClampNeg) fun m614 =>
    if (ml_K m614 l0).1 = 3 then
    ml_let (ml_sR m614 l0 4 a613) fun m618 =>
    ml_let (ml_n m618 + 1) fun a620 =>
    ml_let (ml_al m618 20 (1024 : Int32).toNatClampNeg (1024 : Int32).toNatClampNeg) fun m621 =>
    if (ml_K m621 l0).1 = 3 then
    ml_let (ml_sR m621 l0 5 a620) fun m625 =>
    some m625
    else none
    else none
    else none
    else none
    else none
    else none
theorem wX3_init_0 {E : ml_E} (hL : ml_eL E = 1) {rm : ml_M} (hr : ∀ (pc pc' : Nat) (lv : List (Nat × ml_X)), ml_d cX3_init pc .return_ 1 pc' → True → ml_V E "LostRoom$Journeys" cX3_init 2 true rm pc lv []) : ∀ (l0 : Nat) (m : ml_M), fX3_init l0 m = some rm → ml_V E "LostRoom$Journeys" cX3_init 2 true m 0 [(0, ml_r l0)] [] := by
  intro l0 m h
  unfold fX3_init at h
  exact ml_aload_n dX3_init_0 0 rfl <| ml_ck_of h fun hz591 h => ml_objInit dX3_init_1 wb_109 (Nat.le_of_ble_eq_true rfl) (Nat.le_of_ble_eq_true rfl) hz591 <| ml_aload_n dX3_init_4 0 rfl <| ml_bipush dX3_init_5 kc_b10 <| ml_newQs (c9 := "LostRoom$Thing") (kd := 29) dX3_init_7 wb_110 (by decide) h fun a592 m593 hn594 hc595 h => ml_ck_of h fun hc596 h => ml_putR dX3_init_10 wb_111 hc596 <| ml_lt (m := m593) rfl h fun m597 em598 h => ml_aload_n dX3_init_13 0 rfl <| ml_bipush dX3_init_14 kc_b10 <| ml_newAs (kd := 20) dX3_init_16 wb_0 (by decide) h fun a599 m600 hn601 hc602 h => ml_ck_of h fun hc603 h => ml_putR dX3_init_18 wb_112 hc603 <| ml_lt (m := m600) rfl h fun m604 em605 h => ml_aload_n dX3_init_21 0 rfl <| ml_sipush dX3_init_22 kc_s1024 <| ml_newAs (kd := 20) dX3_init_25 wb_0 (by decide) h fun a606 m607 hn608 hc609 h => ml_ck_of h fun hc610 h => ml_putR dX3_init_27 wb_113 hc610 <| ml_lt (m := m607) rfl h fun m611 em612 h => ml_aload_n dX3_init_30 0 rfl <| ml_sipush dX3_init_31 kc_s1024 <| ml_newAs (kd := 20) dX3_init_34 wb_0 (by decide) h fun a613 m614 hn615 hc616 h => ml_ck_of h fun hc617 h => ml_putR dX3_init_36 wb_114 hc617 <| ml_lt (m := m614) rfl h fun m618 em619 h => ml_aload_n dX3_init_39 0 rfl <| ml_sipush dX3_init_40 kc_s1024 <| ml_newAs (kd := 20) dX3_init_43 wb_0 (by decide) h fun a620 m621 hn622 hc623 h => ml_ck_of h fun hc624 h => ml_putR dX3_init_45 wb_115 hc624 <| ml_lt (m := m621) rfl h fun m625 em626 h => ml_rv hr dX3_init_48 trivial h
theorem sX3_init {l0 : Nat} {m : ml_M} {rm : ml_M} (h : fX3_init l0 m = some rm) : ml_Sn yX3_init cX3_init 1 none 2 [ml_r l0] m none rm :=
  ml_Sn_of (P := True) (ini := true) (by decide +kernel) (Nat.le_of_ble_eq_true rfl) (fun _ => rfl) (fun _ => ml_RkV) fun E hL hr => wX3_init_0 hL hr _ _ h
theorem dX10_init_0 : ml_d cX10_init 0 (.aload_n 0) 1 1 := ⟨by decide +kernel, rfl⟩
theorem dX10_init_1 : ml_d cX10_init 1 (.invokespecial 1) 3 4 := ⟨by decide +kernel, rfl⟩
theorem dX10_init_4 : ml_d cX10_init 4 (.aload_n 0) 1 5 := ⟨by decide +kernel, rfl⟩
theorem dX10_init_5 : ml_d cX10_init 5 (.bipush 6) 2 7 := ⟨by decide +kernel, rfl⟩
theorem dX10_init_7 : ml_d cX10_init 7 (.anewarray 9) 3 10 := ⟨by decide +kernel, rfl⟩
theorem dX10_init_10 : ml_d cX10_init 10 (.putfield 11) 3 13 := ⟨by decide +kernel, rfl⟩
theorem dX10_init_13 : ml_d cX10_init 13 (.aload_n 0) 1 14 := ⟨by decide +kernel, rfl⟩
theorem dX10_init_14 : ml_d cX10_init 14 (.iconst 4) 1 15 := ⟨by decide +kernel, rfl⟩
theorem dX10_init_15 : ml_d cX10_init 15 (.anewarray 15) 3 18 := ⟨by decide +kernel, rfl⟩
theorem dX10_init_18 : ml_d cX10_init 18 (.putfield 17) 3 21 := ⟨by decide +kernel, rfl⟩
theorem dX10_init_21 : ml_d cX10_init 21 (.aload_n 0) 1 22 := ⟨by decide +kernel, rfl⟩
theorem dX10_init_22 : ml_d cX10_init 22 (.new 21) 3 25 := ⟨by decide +kernel, rfl⟩
theorem dX10_init_25 : ml_d cX10_init 25 (.dup) 1 26 := ⟨by decide +kernel, rfl⟩
theorem dX10_init_26 : ml_d cX10_init 26 (.iconst 0) 1 27 := ⟨by decide +kernel, rfl⟩
theorem dX10_init_27 : ml_d cX10_init 27 (.newarray .byte) 2 29 := ⟨by decide +kernel, rfl⟩
theorem dX10_init_29 : ml_d cX10_init 29 (.invokespecial 23) 3 32 := ⟨by decide +kernel, rfl⟩
theorem dX10_init_32 : ml_d cX10_init 32 (.putfield 26) 3 35 := ⟨by decide +kernel, rfl⟩
theorem dX10_init_35 : ml_d cX10_init 35 (.aload_n 0) 1 36 := ⟨by decide +kernel, rfl⟩
theorem dX10_init_36 : ml_d cX10_init 36 (.iconst 1) 1 37 := ⟨by decide +kernel, rfl⟩
theorem dX10_init_37 : ml_d cX10_init 37 (.putfield 30) 3 40 := ⟨by decide +kernel, rfl⟩
theorem dX10_init_40 : ml_d cX10_init 40 (.aload_n 0) 1 41 := ⟨by decide +kernel, rfl⟩
theorem dX10_init_41 : ml_d cX10_init 41 (.bipush 20) 2 43 := ⟨by decide +kernel, rfl⟩
theorem dX10_init_43 : ml_d cX10_init 43 (.anewarray 34) 3 46 := ⟨by decide +kernel, rfl⟩
theorem dX10_init_46 : ml_d cX10_init 46 (.putfield 36) 3 49 := ⟨by decide +kernel, rfl⟩
theorem dX10_init_49 : ml_d cX10_init 49 (.aload_n 0) 1 50 := ⟨by decide +kernel, rfl⟩
theorem dX10_init_50 : ml_d cX10_init 50 (.bipush 8) 2 52 := ⟨by decide +kernel, rfl⟩
theorem dX10_init_52 : ml_d cX10_init 52 (.anewarray 40) 3 55 := ⟨by decide +kernel, rfl⟩
theorem dX10_init_55 : ml_d cX10_init 55 (.putfield 42) 3 58 := ⟨by decide +kernel, rfl⟩
theorem dX10_init_58 : ml_d cX10_init 58 (.aload_n 0) 1 59 := ⟨by decide +kernel, rfl⟩
theorem dX10_init_59 : ml_d cX10_init 59 (.bipush 10) 2 61 := ⟨by decide +kernel, rfl⟩
theorem dX10_init_61 : ml_d cX10_init 61 (.anewarray 46) 3 64 := ⟨by decide +kernel, rfl⟩
theorem dX10_init_64 : ml_d cX10_init 64 (.putfield 48) 3 67 := ⟨by decide +kernel, rfl⟩
theorem dX10_init_67 : ml_d cX10_init 67 (.aload_n 0) 1 68 := ⟨by decide +kernel, rfl⟩
theorem dX10_init_68 : ml_d cX10_init 68 (.bipush 8) 2 70 := ⟨by decide +kernel, rfl⟩
theorem dX10_init_70 : ml_d cX10_init 70 (.anewarray 52) 3 73 := ⟨by decide +kernel, rfl⟩
theorem dX10_init_73 : ml_d cX10_init 73 (.putfield 54) 3 76 := ⟨by decide +kernel, rfl⟩
theorem dX10_init_76 : ml_d cX10_init 76 (.aload_n 0) 1 77 := ⟨by decide +kernel, rfl⟩
theorem dX10_init_77 : ml_d cX10_init 77 (.new 58) 3 80 := ⟨by decide +kernel, rfl⟩
theorem dX10_init_80 : ml_d cX10_init 80 (.dup) 1 81 := ⟨by decide +kernel, rfl⟩
theorem dX10_init_81 : ml_d cX10_init 81 (.invokespecial 60) 3 84 := ⟨by decide +kernel, rfl⟩
theorem dX10_init_84 : ml_d cX10_init 84 (.putfield 61) 3 87 := ⟨by decide +kernel, rfl⟩
theorem dX10_init_87 : ml_d cX10_init 87 (.aload_n 0) 1 88 := ⟨by decide +kernel, rfl⟩
theorem dX10_init_88 : ml_d cX10_init 88 (.new 65) 3 91 := ⟨by decide +kernel, rfl⟩
theorem dX10_init_91 : ml_d cX10_init 91 (.dup) 1 92 := ⟨by decide +kernel, rfl⟩
theorem dX10_init_92 : ml_d cX10_init 92 (.invokespecial 67) 3 95 := ⟨by decide +kernel, rfl⟩
theorem dX10_init_95 : ml_d cX10_init 95 (.putfield 68) 3 98 := ⟨by decide +kernel, rfl⟩
theorem dX10_init_98 : ml_d cX10_init 98 (.aload_n 0) 1 99 := ⟨by decide +kernel, rfl⟩
theorem dX10_init_99 : ml_d cX10_init 99 (.new 72) 3 102 := ⟨by decide +kernel, rfl⟩
theorem dX10_init_102 : ml_d cX10_init 102 (.dup) 1 103 := ⟨by decide +kernel, rfl⟩
theorem dX10_init_103 : ml_d cX10_init 103 (.invokespecial 74) 3 106 := ⟨by decide +kernel, rfl⟩
theorem dX10_init_106 : ml_d cX10_init 106 (.putfield 75) 3 109 := ⟨by decide +kernel, rfl⟩
theorem dX10_init_109 : ml_d cX10_init 109 (.aload_n 0) 1 110 := ⟨by decide +kernel, rfl⟩
theorem dX10_init_110 : ml_d cX10_init 110 (.bipush 6) 2 112 := ⟨by decide +kernel, rfl⟩
theorem dX10_init_112 : ml_d cX10_init 112 (.newarray .int) 2 114 := ⟨by decide +kernel, rfl⟩
theorem dX10_init_114 : ml_d cX10_init 114 (.putfield 79) 3 117 := ⟨by decide +kernel, rfl⟩
theorem dX10_init_117 : ml_d cX10_init 117 (.return_) 1 118 := ⟨by decide +kernel, rfl⟩
def fX10_init (l0 : Nat) (m : ml_M) : Option ml_M :=
    if l0 ≠ 0 then
    ml_let (ml_n m + 1) fun a628 =>
    ml_let (ml_al m 23 (6 : Int32).toNatClampNeg (6 : Int32).toNatClampNeg) fun m629 =>
    if (ml_K m629 l0).1 = 10 then
    ml_let (ml_sR m629 l0 0 a628) fun m633 =>
    ml_let (ml_n m633 + 1) fun a635 =>
    ml_let (ml_al m633 24 (4 : Int32).toNatClampNeg (4 : Int32).toNatClampNeg) fun m636 =>
    if (ml_K m636 l0).1 = 10 then
    ml_let (ml_sR m636 l0 1 a635) fun m640 =>
    ml_let (ml_n m640 + 1) fun a642 =>
    ml_let (ml_al m640 1 0 8) fun m643 =>
    ml_let (ml_n m643 + 1) fun a646 =>
    ml_let (ml_al m643 21 (0 : Int32).toNatClampNeg (0 : Int32).toNatClampNeg) fun m647 =>
    ml_b1 (fX1_init a642 a646 m647) fun m651 =>
    if (ml_K m651 l0).1 = 10 then
    ml_let (ml_sR m651 l0 2 a642) fun m653 =>
    ml_let (ml_sI m653 l0 3 (1 : Int32)) fun m655 =>
    ml_let (ml_n m655 + 1) fun a657 =>
    ml_let (ml_al m655 29 (20 : Int32).toNatClampNeg (20 : Int32).toNatClampNeg) fun m658 =>
    if (ml_K m658 l0).1 = 10 then
    ml_let (ml_sR m658 l0 4 a657) fun m662 =>
    ml_let (ml_n m662 + 1) fun a664 =>
    ml_let (ml_al m662 27 (8 : Int32).toNatClampNeg (8 : Int32).toNatClampNeg) fun m665 =>
    if (ml_K m665 l0).1 = 10 then
    ml_let (ml_sR m665 l0 6 a664) fun m669 =>
    ml_let (ml_n m669 + 1) fun a671 =>
    ml_let (ml_al m669 25 (10 : Int32).toNatClampNeg (10 : Int32).toNatClampNeg) fun m672 =>
    if (ml_K m672 l0).1 = 10 then
    ml_let (ml_sR m672 l0 8 a671) fun m676 =>
    ml_let (ml_n m676 + 1) fun a678 =>
    ml_let (ml_al m676 26 (8 : Int32).toNatClampNeg (8 : Int32).toNatClampNeg) fun m679 =>
    if (ml_K m679 l0).1 = 10 then
    ml_let (ml_sR m679 l0 10 a678) fun m683 =>
    ml_let (ml_n m683 + 1) fun a685 =>
    ml_let (ml_al m683 7 0 13) fun m686 =>
    ml_b1 (fX7_init a685 m686) fun m690 =>
    if (ml_K m690 l0).1 = 10 then
    ml_let (ml_sR m690 l0 12 a685) fun m692 =>
    ml_let (ml_n m692 + 1) fun a694 =>
    ml_let (ml_al m692 4 0 8) fun m695 =>
    ml_b1 (fX4_init a694 m695) fun m699 =>
    if (ml_K m699 l0).1 = 10 then
    ml_let (ml_sR m699 l0 13 a694) fun m701 =>
    ml_let (ml_n m701 + 1) fun a703 =>
    ml_let (ml_al m701 3 0 6) fun m704 =>
    ml_b1 (fX3_init a703 m704) fun m708 =>
    if (ml_K m708 l0).1 = 10 then
    ml_let (ml_sR m708 l0 14 a703) fun m710 =>
    ml_let (ml_n m710 + 1) fun a712 =>
    ml_let (ml_al m710 20 (6 : Int32).toNatClampNeg (6 : Int32).toNatClampNeg) fun m713 =>
    if (ml_K m713 l0).1 = 10 then
    ml_let (ml_sR m713 l0 18 a712) fun m717 =>
    some m717
    else none
    else none
    else none
    else none
    else none
    else none
    else none
    else none
    else none
    else none
    else none
    else none
theorem wX10_init_0 {E : ml_E} (hL : ml_eL E = 1) {rm : ml_M} (hr : ∀ (pc pc' : Nat) (lv : List (Nat × ml_X)), ml_d cX10_init pc .return_ 1 pc' → True → ml_V E "LostRoom" cX10_init 3 true rm pc lv []) : ∀ (l0 : Nat) (m : ml_M), fX10_init l0 m = some rm → ml_V E "LostRoom" cX10_init 3 true m 0 [(0, ml_r l0)] [] := by
  intro l0 m h
  unfold fX10_init at h
  exact ml_aload_n dX10_init_0 0 rfl <| ml_ck_of h fun hz627 h => ml_objInit dX10_init_1 wb_116 (Nat.le_of_ble_eq_true rfl) (Nat.le_of_ble_eq_true rfl) hz627 <| ml_aload_n dX10_init_4 0 rfl <| ml_bipush dX10_init_5 kc_b6 <| ml_newQAs (t9 := .int) (kd := 23) dX10_init_7 wb_117 (by decide) h fun a628 m629 hn630 hc631 h => ml_ck_of h fun hc632 h => ml_putR dX10_init_10 wb_118 hc632 <| ml_lt (m := m629) rfl h fun m633 em634 h => ml_aload_n dX10_init_13 0 rfl <| ml_iconst dX10_init_14 kc_i4 <| ml_newQAs (t9 := .byte) (kd := 24) dX10_init_15 wb_119 (by decide) h fun a635 m636 hn637 hc638 h => ml_ck_of h fun hc639 h => ml_putR dX10_init_18 wb_120 hc639 <| ml_lt (m := m636) rfl h fun m640 em641 h => ml_aload_n dX10_init_21 0 rfl <| ml_newOs dX10_init_22 wb_58 h fun a642 m643 hn644 hc645 h => ml_dup dX10_init_25 rfl <| ml_iconst dX10_init_26 kc_i0 <| ml_newAs (kd := 21) dX10_init_27 wb_8 (by decide) h fun a646 m647 hn648 hc649 h => ml_b1_of h fun m651 hv650 h => ml_callI dX10_init_29 wm_112 wb_59 hn644 (sX1_init hv650) rfl (Nat.le_of_ble_eq_true rfl) (Nat.le_of_ble_eq_true rfl) rfl <| ml_ck_of h fun hc652 h => ml_putR dX10_init_32 wb_121 hc652 <| ml_lt (m := m651) rfl h fun m653 em654 h => ml_aload_n dX10_init_35 0 rfl <| ml_iconst dX10_init_36 kc_i1 <| ml_putI dX10_init_37 wb_122 (ml_kk em654 hc652) <| ml_lt (m := m653) rfl h fun m655 em656 h => ml_aload_n dX10_init_40 0 rfl <| ml_bipush dX10_init_41 kc_b20 <| ml_newQs (c9 := "LostRoom$Thing") (kd := 29) dX10_init_43 wb_123 (by decide) h fun a657 m658 hn659 hc660 h => ml_ck_of h fun hc661 h => ml_putR dX10_init_46 wb_124 hc661 <| ml_lt (m := m658) rfl h fun m662 em663 h => ml_aload_n dX10_init_49 0 rfl <| ml_bipush dX10_init_50 kc_b8 <| ml_newQs (c9 := "LostRoom$Line") (kd := 27) dX10_init_52 wb_125 (by decide) h fun a664 m665 hn666 hc667 h => ml_ck_of h fun hc668 h => ml_putR dX10_init_55 wb_126 hc668 <| ml_lt (m := m665) rfl h fun m669 em670 h => ml_aload_n dX10_init_58 0 rfl <| ml_bipush dX10_init_59 kc_b10 <| ml_newQs (c9 := "LostRoom$Bit") (kd := 25) dX10_init_61 wb_127 (by decide) h fun a671 m672 hn673 hc674 h => ml_ck_of h fun hc675 h => ml_putR dX10_init_64 wb_128 hc675 <| ml_lt (m := m672) rfl h fun m676 em677 h => ml_aload_n dX10_init_67 0 rfl <| ml_bipush dX10_init_68 kc_b8 <| ml_newQs (c9 := "LostRoom$Claim") (kd := 26) dX10_init_70 wb_129 (by decide) h fun a678 m679 hn680 hc681 h => ml_ck_of h fun hc682 h => ml_putR dX10_init_73 wb_130 hc682 <| ml_lt (m := m679) rfl h fun m683 em684 h => ml_aload_n dX10_init_76 0 rfl <| ml_newOs dX10_init_77 wb_131 h fun a685 m686 hn687 hc688 h => ml_dup dX10_init_80 rfl <| ml_b1_of h fun m690 hv689 h => ml_callIN (host := "LostRoom") dX10_init_81 (by decide) wb_132 hn687 (sX7_init hv689) rfl (Nat.le_of_ble_eq_true rfl) (Nat.le_of_ble_eq_true rfl) rfl <| ml_ck_of h fun hc691 h => ml_putR dX10_init_84 wb_133 hc691 <| ml_lt (m := m690) rfl h fun m692 em693 h => ml_aload_n dX10_init_87 0 rfl <| ml_newOs dX10_init_88 wb_134 h fun a694 m695 hn696 hc697 h => ml_dup dX10_init_91 rfl <| ml_b1_of h fun m699 hv698 h => ml_callIN (host := "LostRoom") dX10_init_92 (by decide) wb_135 hn696 (sX4_init hv698) rfl (Nat.le_of_ble_eq_true rfl) (Nat.le_of_ble_eq_true rfl) rfl <| ml_ck_of h fun hc700 h => ml_putR dX10_init_95 wb_136 hc700 <| ml_lt (m := m699) rfl h fun m701 em702 h => ml_aload_n dX10_init_98 0 rfl <| ml_newOs dX10_init_99 wb_137 h fun a703 m704 hn705 hc706 h => ml_dup dX10_init_102 rfl <| ml_b1_of h fun m708 hv707 h => ml_callIN (host := "LostRoom") dX10_init_103 (by decide) wb_138 hn705 (sX3_init hv707) rfl (Nat.le_of_ble_eq_true rfl) (Nat.le_of_ble_eq_true rfl) rfl <| ml_ck_of h fun hc709 h => ml_putR dX10_init_106 wb_139 hc709 <| ml_lt (m := m708) rfl h fun m710 em711 h => ml_aload_n dX10_init_109 0 rfl <| ml_bipush dX10_init_110 kc_b6 <| ml_newAs (kd := 20) dX10_init_112 wb_0 (by decide) h fun a712 m713 hn714 hc715 h => ml_ck_of h fun hc716 h => ml_putR dX10_init_114 wb_140 hc716 <| ml_lt (m := m713) rfl h fun m717 em718 h => ml_rv hr dX10_init_117 trivial h
theorem sX10_init {l0 : Nat} {m : ml_M} {rm : ml_M} (h : fX10_init l0 m = some rm) : ml_Sn yX10_init cX10_init 1 none 3 [ml_r l0] m none rm :=
  ml_Sn_of (P := True) (ini := true) (by decide +kernel) (Nat.le_of_ble_eq_true rfl) (fun _ => rfl) (fun _ => ml_RkV) fun E hL hr => wX10_init_0 hL hr _ _ h
theorem dL_numbers_0 : ml_d cL_numbers 0 (.iconst 0) 1 1 := ⟨by decide +kernel, rfl⟩
theorem dL_numbers_1 : ml_d cL_numbers 1 (.istore 8) 2 3 := ⟨by decide +kernel, rfl⟩
theorem dL_numbers_3 : ml_d cL_numbers 3 (.iload 8) 2 5 := ⟨by decide +kernel, rfl⟩
theorem dL_numbers_5 : ml_d cL_numbers 5 (.iload_n 2) 1 6 := ⟨by decide +kernel, rfl⟩
theorem dL_numbers_6 : ml_j cL_numbers 6 (.if_icmp .ge) 119 9 := ⟨113, by decide +kernel, by decide, rfl⟩
theorem dL_numbers_9 : ml_d cL_numbers 9 (.aload 5) 2 11 := ⟨by decide +kernel, rfl⟩
theorem dL_numbers_11 : ml_d cL_numbers 11 (.iconst 5) 1 12 := ⟨by decide +kernel, rfl⟩
theorem dL_numbers_12 : ml_d cL_numbers 12 (.iload 8) 2 14 := ⟨by decide +kernel, rfl⟩
theorem dL_numbers_14 : ml_d cL_numbers 14 (.imul) 1 15 := ⟨by decide +kernel, rfl⟩
theorem dL_numbers_15 : ml_d cL_numbers 15 (.aload_n 0) 1 16 := ⟨by decide +kernel, rfl⟩
theorem dL_numbers_16 : ml_d cL_numbers 16 (.iload_n 1) 1 17 := ⟨by decide +kernel, rfl⟩
theorem dL_numbers_17 : ml_d cL_numbers 17 (.iconst 5) 1 18 := ⟨by decide +kernel, rfl⟩
theorem dL_numbers_18 : ml_d cL_numbers 18 (.iload 8) 2 20 := ⟨by decide +kernel, rfl⟩
theorem dL_numbers_20 : ml_d cL_numbers 20 (.imul) 1 21 := ⟨by decide +kernel, rfl⟩
theorem dL_numbers_21 : ml_d cL_numbers 21 (.iadd) 1 22 := ⟨by decide +kernel, rfl⟩
theorem dL_numbers_22 : ml_d cL_numbers 22 (.invokestatic 19) 3 25 := ⟨by decide +kernel, rfl⟩
theorem dL_numbers_25 : ml_d cL_numbers 25 (.bipush 30) 2 27 := ⟨by decide +kernel, rfl⟩
theorem dL_numbers_27 : ml_d cL_numbers 27 (.irem) 1 28 := ⟨by decide +kernel, rfl⟩
theorem dL_numbers_28 : ml_d cL_numbers 28 (.iastore) 1 29 := ⟨by decide +kernel, rfl⟩
theorem dL_numbers_29 : ml_d cL_numbers 29 (.aload 5) 2 31 := ⟨by decide +kernel, rfl⟩
theorem dL_numbers_31 : ml_d cL_numbers 31 (.iconst 5) 1 32 := ⟨by decide +kernel, rfl⟩
theorem dL_numbers_32 : ml_d cL_numbers 32 (.iload 8) 2 34 := ⟨by decide +kernel, rfl⟩
theorem dL_numbers_34 : ml_d cL_numbers 34 (.imul) 1 35 := ⟨by decide +kernel, rfl⟩
theorem dL_numbers_35 : ml_d cL_numbers 35 (.iconst 1) 1 36 := ⟨by decide +kernel, rfl⟩
theorem dL_numbers_36 : ml_d cL_numbers 36 (.iadd) 1 37 := ⟨by decide +kernel, rfl⟩
theorem dL_numbers_37 : ml_d cL_numbers 37 (.aload 5) 2 39 := ⟨by decide +kernel, rfl⟩
theorem dL_numbers_39 : ml_d cL_numbers 39 (.iconst 5) 1 40 := ⟨by decide +kernel, rfl⟩
theorem dL_numbers_40 : ml_d cL_numbers 40 (.iload 8) 2 42 := ⟨by decide +kernel, rfl⟩
theorem dL_numbers_42 : ml_d cL_numbers 42 (.imul) 1 43 := ⟨by decide +kernel, rfl⟩
theorem dL_numbers_43 : ml_d cL_numbers 43 (.iaload) 1 44 := ⟨by decide +kernel, rfl⟩
theorem dL_numbers_44 : ml_d cL_numbers 44 (.aload_n 0) 1 45 := ⟨by decide +kernel, rfl⟩
theorem dL_numbers_45 : ml_d cL_numbers 45 (.iload_n 1) 1 46 := ⟨by decide +kernel, rfl⟩
theorem dL_numbers_46 : ml_d cL_numbers 46 (.iconst 5) 1 47 := ⟨by decide +kernel, rfl⟩
theorem dL_numbers_47 : ml_d cL_numbers 47 (.iload 8) 2 49 := ⟨by decide +kernel, rfl⟩
theorem dL_numbers_49 : ml_d cL_numbers 49 (.imul) 1 50 := ⟨by decide +kernel, rfl⟩
theorem dL_numbers_50 : ml_d cL_numbers 50 (.iadd) 1 51 := ⟨by decide +kernel, rfl⟩
theorem dL_numbers_51 : ml_d cL_numbers 51 (.iconst 1) 1 52 := ⟨by decide +kernel, rfl⟩
theorem dL_numbers_52 : ml_d cL_numbers 52 (.iadd) 1 53 := ⟨by decide +kernel, rfl⟩
theorem dL_numbers_53 : ml_d cL_numbers 53 (.invokestatic 19) 3 56 := ⟨by decide +kernel, rfl⟩
theorem dL_numbers_56 : ml_d cL_numbers 56 (.bipush 30) 2 58 := ⟨by decide +kernel, rfl⟩
theorem dL_numbers_58 : ml_d cL_numbers 58 (.irem) 1 59 := ⟨by decide +kernel, rfl⟩
theorem dL_numbers_59 : ml_d cL_numbers 59 (.iadd) 1 60 := ⟨by decide +kernel, rfl⟩
theorem dL_numbers_60 : ml_d cL_numbers 60 (.iastore) 1 61 := ⟨by decide +kernel, rfl⟩
theorem dL_numbers_61 : ml_d cL_numbers 61 (.iconst 2) 1 62 := ⟨by decide +kernel, rfl⟩
theorem dL_numbers_62 : ml_d cL_numbers 62 (.istore 9) 2 64 := ⟨by decide +kernel, rfl⟩
theorem dL_numbers_64 : ml_d cL_numbers 64 (.iload 9) 2 66 := ⟨by decide +kernel, rfl⟩
theorem dL_numbers_66 : ml_d cL_numbers 66 (.iconst 5) 1 67 := ⟨by decide +kernel, rfl⟩
theorem dL_numbers_67 : ml_j cL_numbers 67 (.if_icmp .ge) 113 70 := ⟨46, by decide +kernel, by decide, rfl⟩
theorem dL_numbers_70 : ml_d cL_numbers 70 (.aload 5) 2 72 := ⟨by decide +kernel, rfl⟩
theorem dL_numbers_72 : ml_d cL_numbers 72 (.iconst 5) 1 73 := ⟨by decide +kernel, rfl⟩
theorem dL_numbers_73 : ml_d cL_numbers 73 (.iload 8) 2 75 := ⟨by decide +kernel, rfl⟩
theorem dL_numbers_75 : ml_d cL_numbers 75 (.imul) 1 76 := ⟨by decide +kernel, rfl⟩
theorem dL_numbers_76 : ml_d cL_numbers 76 (.iload 9) 2 78 := ⟨by decide +kernel, rfl⟩
theorem dL_numbers_78 : ml_d cL_numbers 78 (.iadd) 1 79 := ⟨by decide +kernel, rfl⟩
theorem dL_numbers_79 : ml_d cL_numbers 79 (.iconst 1) 1 80 := ⟨by decide +kernel, rfl⟩
theorem dL_numbers_80 : ml_d cL_numbers 80 (.aload_n 0) 1 81 := ⟨by decide +kernel, rfl⟩
theorem dL_numbers_81 : ml_d cL_numbers 81 (.iload_n 1) 1 82 := ⟨by decide +kernel, rfl⟩
theorem dL_numbers_82 : ml_d cL_numbers 82 (.iconst 5) 1 83 := ⟨by decide +kernel, rfl⟩
theorem dL_numbers_83 : ml_d cL_numbers 83 (.iload 8) 2 85 := ⟨by decide +kernel, rfl⟩
theorem dL_numbers_85 : ml_d cL_numbers 85 (.imul) 1 86 := ⟨by decide +kernel, rfl⟩
theorem dL_numbers_86 : ml_d cL_numbers 86 (.iadd) 1 87 := ⟨by decide +kernel, rfl⟩
theorem dL_numbers_87 : ml_d cL_numbers 87 (.iload 9) 2 89 := ⟨by decide +kernel, rfl⟩
theorem dL_numbers_89 : ml_d cL_numbers 89 (.iadd) 1 90 := ⟨by decide +kernel, rfl⟩
theorem dL_numbers_90 : ml_d cL_numbers 90 (.invokestatic 19) 3 93 := ⟨by decide +kernel, rfl⟩
theorem dL_numbers_93 : ml_d cL_numbers 93 (.iload 9) 2 95 := ⟨by decide +kernel, rfl⟩
theorem dL_numbers_95 : ml_d cL_numbers 95 (.iconst 2) 1 96 := ⟨by decide +kernel, rfl⟩
theorem dL_numbers_96 : ml_j cL_numbers 96 (.if_icmp .ne) 103 99 := ⟨7, by decide +kernel, by decide, rfl⟩
theorem dL_numbers_99 : ml_d cL_numbers 99 (.iconst 5) 1 100 := ⟨by decide +kernel, rfl⟩
theorem dL_numbers_100 : ml_j cL_numbers 100 .goto 104 103 := ⟨4, by decide +kernel, by decide, rfl⟩
theorem dL_numbers_103 : ml_d cL_numbers 103 (.iconst 3) 1 104 := ⟨by decide +kernel, rfl⟩
theorem dL_numbers_104 : ml_d cL_numbers 104 (.irem) 1 105 := ⟨by decide +kernel, rfl⟩
theorem dL_numbers_105 : ml_d cL_numbers 105 (.iadd) 1 106 := ⟨by decide +kernel, rfl⟩
theorem dL_numbers_106 : ml_d cL_numbers 106 (.iastore) 1 107 := ⟨by decide +kernel, rfl⟩
theorem dL_numbers_107 : ml_d cL_numbers 107 (.iinc 9 1) 3 110 := ⟨by decide +kernel, rfl⟩
theorem dL_numbers_110 : ml_j cL_numbers 110 .goto 64 113 := ⟨(-46), by decide +kernel, by decide, rfl⟩
theorem dL_numbers_113 : ml_d cL_numbers 113 (.iinc 8 1) 3 116 := ⟨by decide +kernel, rfl⟩
theorem dL_numbers_116 : ml_j cL_numbers 116 .goto 3 119 := ⟨(-113), by decide +kernel, by decide, rfl⟩
theorem dL_numbers_119 : ml_d cL_numbers 119 (.iconst 0) 1 120 := ⟨by decide +kernel, rfl⟩
theorem dL_numbers_120 : ml_d cL_numbers 120 (.istore 8) 2 122 := ⟨by decide +kernel, rfl⟩
theorem dL_numbers_122 : ml_d cL_numbers 122 (.iload 8) 2 124 := ⟨by decide +kernel, rfl⟩
theorem dL_numbers_124 : ml_d cL_numbers 124 (.iload_n 3) 1 125 := ⟨by decide +kernel, rfl⟩
theorem dL_numbers_125 : ml_j cL_numbers 125 (.if_icmp .ge) 212 128 := ⟨87, by decide +kernel, by decide, rfl⟩
theorem dL_numbers_128 : ml_d cL_numbers 128 (.aload_n 0) 1 129 := ⟨by decide +kernel, rfl⟩
theorem dL_numbers_129 : ml_d cL_numbers 129 (.iload_n 1) 1 130 := ⟨by decide +kernel, rfl⟩
theorem dL_numbers_130 : ml_d cL_numbers 130 (.bipush 40) 2 132 := ⟨by decide +kernel, rfl⟩
theorem dL_numbers_132 : ml_d cL_numbers 132 (.iadd) 1 133 := ⟨by decide +kernel, rfl⟩
theorem dL_numbers_133 : ml_d cL_numbers 133 (.iload 8) 2 135 := ⟨by decide +kernel, rfl⟩
theorem dL_numbers_135 : ml_d cL_numbers 135 (.iadd) 1 136 := ⟨by decide +kernel, rfl⟩
theorem dL_numbers_136 : ml_d cL_numbers 136 (.invokestatic 19) 3 139 := ⟨by decide +kernel, rfl⟩
theorem dL_numbers_139 : ml_d cL_numbers 139 (.istore 9) 2 141 := ⟨by decide +kernel, rfl⟩
theorem dL_numbers_141 : ml_d cL_numbers 141 (.aload 6) 2 143 := ⟨by decide +kernel, rfl⟩
theorem dL_numbers_143 : ml_d cL_numbers 143 (.iconst 2) 1 144 := ⟨by decide +kernel, rfl⟩
theorem dL_numbers_144 : ml_d cL_numbers 144 (.iload 8) 2 146 := ⟨by decide +kernel, rfl⟩
theorem dL_numbers_146 : ml_d cL_numbers 146 (.imul) 1 147 := ⟨by decide +kernel, rfl⟩
theorem dL_numbers_147 : ml_d cL_numbers 147 (.sipush 1111) 3 150 := ⟨by decide +kernel, rfl⟩
theorem dL_numbers_150 : ml_d cL_numbers 150 (.iload 9) 2 152 := ⟨by decide +kernel, rfl⟩
theorem dL_numbers_152 : ml_d cL_numbers 152 (.iconst 5) 1 153 := ⟨by decide +kernel, rfl⟩
theorem dL_numbers_153 : ml_d cL_numbers 153 (.irem) 1 154 := ⟨by decide +kernel, rfl⟩
theorem dL_numbers_154 : ml_d cL_numbers 154 (.iadd) 1 155 := ⟨by decide +kernel, rfl⟩
theorem dL_numbers_155 : ml_d cL_numbers 155 (.bipush 10) 2 157 := ⟨by decide +kernel, rfl⟩
theorem dL_numbers_157 : ml_d cL_numbers 157 (.iload 9) 2 159 := ⟨by decide +kernel, rfl⟩
theorem dL_numbers_159 : ml_d cL_numbers 159 (.iconst 5) 1 160 := ⟨by decide +kernel, rfl⟩
theorem dL_numbers_160 : ml_d cL_numbers 160 (.idiv) 1 161 := ⟨by decide +kernel, rfl⟩
theorem dL_numbers_161 : ml_d cL_numbers 161 (.iconst 5) 1 162 := ⟨by decide +kernel, rfl⟩
theorem dL_numbers_162 : ml_d cL_numbers 162 (.irem) 1 163 := ⟨by decide +kernel, rfl⟩
theorem dL_numbers_163 : ml_d cL_numbers 163 (.imul) 1 164 := ⟨by decide +kernel, rfl⟩
theorem dL_numbers_164 : ml_d cL_numbers 164 (.iadd) 1 165 := ⟨by decide +kernel, rfl⟩
theorem dL_numbers_165 : ml_d cL_numbers 165 (.bipush 100) 2 167 := ⟨by decide +kernel, rfl⟩
theorem dL_numbers_167 : ml_d cL_numbers 167 (.iload 9) 2 169 := ⟨by decide +kernel, rfl⟩
theorem dL_numbers_169 : ml_d cL_numbers 169 (.bipush 25) 2 171 := ⟨by decide +kernel, rfl⟩
theorem dL_numbers_171 : ml_d cL_numbers 171 (.idiv) 1 172 := ⟨by decide +kernel, rfl⟩
theorem dL_numbers_172 : ml_d cL_numbers 172 (.iconst 2) 1 173 := ⟨by decide +kernel, rfl⟩
theorem dL_numbers_173 : ml_d cL_numbers 173 (.irem) 1 174 := ⟨by decide +kernel, rfl⟩
theorem dL_numbers_174 : ml_d cL_numbers 174 (.imul) 1 175 := ⟨by decide +kernel, rfl⟩
theorem dL_numbers_175 : ml_d cL_numbers 175 (.iadd) 1 176 := ⟨by decide +kernel, rfl⟩
theorem dL_numbers_176 : ml_d cL_numbers 176 (.sipush 1000) 3 179 := ⟨by decide +kernel, rfl⟩
theorem dL_numbers_179 : ml_d cL_numbers 179 (.iload 9) 2 181 := ⟨by decide +kernel, rfl⟩
theorem dL_numbers_181 : ml_d cL_numbers 181 (.bipush 50) 2 183 := ⟨by decide +kernel, rfl⟩
theorem dL_numbers_183 : ml_d cL_numbers 183 (.idiv) 1 184 := ⟨by decide +kernel, rfl⟩
theorem dL_numbers_184 : ml_d cL_numbers 184 (.iconst 2) 1 185 := ⟨by decide +kernel, rfl⟩
theorem dL_numbers_185 : ml_d cL_numbers 185 (.irem) 1 186 := ⟨by decide +kernel, rfl⟩
theorem dL_numbers_186 : ml_d cL_numbers 186 (.imul) 1 187 := ⟨by decide +kernel, rfl⟩
theorem dL_numbers_187 : ml_d cL_numbers 187 (.iadd) 1 188 := ⟨by decide +kernel, rfl⟩
theorem dL_numbers_188 : ml_d cL_numbers 188 (.iastore) 1 189 := ⟨by decide +kernel, rfl⟩
theorem dL_numbers_189 : ml_d cL_numbers 189 (.aload 6) 2 191 := ⟨by decide +kernel, rfl⟩
theorem dL_numbers_191 : ml_d cL_numbers 191 (.iconst 2) 1 192 := ⟨by decide +kernel, rfl⟩
theorem dL_numbers_192 : ml_d cL_numbers 192 (.iload 8) 2 194 := ⟨by decide +kernel, rfl⟩
theorem dL_numbers_194 : ml_d cL_numbers 194 (.imul) 1 195 := ⟨by decide +kernel, rfl⟩
theorem dL_numbers_195 : ml_d cL_numbers 195 (.iconst 1) 1 196 := ⟨by decide +kernel, rfl⟩
theorem dL_numbers_196 : ml_d cL_numbers 196 (.iadd) 1 197 := ⟨by decide +kernel, rfl⟩
theorem dL_numbers_197 : ml_d cL_numbers 197 (.iload 9) 2 199 := ⟨by decide +kernel, rfl⟩
theorem dL_numbers_199 : ml_d cL_numbers 199 (.bipush 100) 2 201 := ⟨by decide +kernel, rfl⟩
theorem dL_numbers_201 : ml_d cL_numbers 201 (.idiv) 1 202 := ⟨by decide +kernel, rfl⟩
theorem dL_numbers_202 : ml_d cL_numbers 202 (.bipush 10) 2 204 := ⟨by decide +kernel, rfl⟩
theorem dL_numbers_204 : ml_d cL_numbers 204 (.irem) 1 205 := ⟨by decide +kernel, rfl⟩
theorem dL_numbers_205 : ml_d cL_numbers 205 (.iastore) 1 206 := ⟨by decide +kernel, rfl⟩
theorem dL_numbers_206 : ml_d cL_numbers 206 (.iinc 8 1) 3 209 := ⟨by decide +kernel, rfl⟩
theorem dL_numbers_209 : ml_j cL_numbers 209 .goto 122 212 := ⟨(-87), by decide +kernel, by decide, rfl⟩
theorem dL_numbers_212 : ml_d cL_numbers 212 (.iconst 0) 1 213 := ⟨by decide +kernel, rfl⟩
theorem dL_numbers_213 : ml_d cL_numbers 213 (.istore 8) 2 215 := ⟨by decide +kernel, rfl⟩
theorem dL_numbers_215 : ml_d cL_numbers 215 (.iload 8) 2 217 := ⟨by decide +kernel, rfl⟩
theorem dL_numbers_217 : ml_d cL_numbers 217 (.iload 4) 2 219 := ⟨by decide +kernel, rfl⟩
theorem dL_numbers_219 : ml_j cL_numbers 219 (.if_icmp .ge) 282 222 := ⟨63, by decide +kernel, by decide, rfl⟩
theorem dL_numbers_222 : ml_d cL_numbers 222 (.aload_n 0) 1 223 := ⟨by decide +kernel, rfl⟩
theorem dL_numbers_223 : ml_d cL_numbers 223 (.iload_n 1) 1 224 := ⟨by decide +kernel, rfl⟩
theorem dL_numbers_224 : ml_d cL_numbers 224 (.bipush 50) 2 226 := ⟨by decide +kernel, rfl⟩
theorem dL_numbers_226 : ml_d cL_numbers 226 (.iadd) 1 227 := ⟨by decide +kernel, rfl⟩
theorem dL_numbers_227 : ml_d cL_numbers 227 (.iload 8) 2 229 := ⟨by decide +kernel, rfl⟩
theorem dL_numbers_229 : ml_d cL_numbers 229 (.iadd) 1 230 := ⟨by decide +kernel, rfl⟩
theorem dL_numbers_230 : ml_d cL_numbers 230 (.invokestatic 19) 3 233 := ⟨by decide +kernel, rfl⟩
theorem dL_numbers_233 : ml_d cL_numbers 233 (.istore 9) 2 235 := ⟨by decide +kernel, rfl⟩
theorem dL_numbers_235 : ml_d cL_numbers 235 (.aload 7) 2 237 := ⟨by decide +kernel, rfl⟩
theorem dL_numbers_237 : ml_d cL_numbers 237 (.iconst 2) 1 238 := ⟨by decide +kernel, rfl⟩
theorem dL_numbers_238 : ml_d cL_numbers 238 (.iload 8) 2 240 := ⟨by decide +kernel, rfl⟩
theorem dL_numbers_240 : ml_d cL_numbers 240 (.imul) 1 241 := ⟨by decide +kernel, rfl⟩
theorem dL_numbers_241 : ml_d cL_numbers 241 (.iload 9) 2 243 := ⟨by decide +kernel, rfl⟩
theorem dL_numbers_243 : ml_d cL_numbers 243 (.iload_n 3) 1 244 := ⟨by decide +kernel, rfl⟩
theorem dL_numbers_244 : ml_d cL_numbers 244 (.irem) 1 245 := ⟨by decide +kernel, rfl⟩
theorem dL_numbers_245 : ml_d cL_numbers 245 (.iastore) 1 246 := ⟨by decide +kernel, rfl⟩
theorem dL_numbers_246 : ml_d cL_numbers 246 (.aload 7) 2 248 := ⟨by decide +kernel, rfl⟩
theorem dL_numbers_248 : ml_d cL_numbers 248 (.iconst 2) 1 249 := ⟨by decide +kernel, rfl⟩
theorem dL_numbers_249 : ml_d cL_numbers 249 (.iload 8) 2 251 := ⟨by decide +kernel, rfl⟩
theorem dL_numbers_251 : ml_d cL_numbers 251 (.imul) 1 252 := ⟨by decide +kernel, rfl⟩
theorem dL_numbers_252 : ml_d cL_numbers 252 (.iconst 1) 1 253 := ⟨by decide +kernel, rfl⟩
theorem dL_numbers_253 : ml_d cL_numbers 253 (.iadd) 1 254 := ⟨by decide +kernel, rfl⟩
theorem dL_numbers_254 : ml_d cL_numbers 254 (.aload 7) 2 256 := ⟨by decide +kernel, rfl⟩
theorem dL_numbers_256 : ml_d cL_numbers 256 (.iconst 2) 1 257 := ⟨by decide +kernel, rfl⟩
theorem dL_numbers_257 : ml_d cL_numbers 257 (.iload 8) 2 259 := ⟨by decide +kernel, rfl⟩
theorem dL_numbers_259 : ml_d cL_numbers 259 (.imul) 1 260 := ⟨by decide +kernel, rfl⟩
theorem dL_numbers_260 : ml_d cL_numbers 260 (.iaload) 1 261 := ⟨by decide +kernel, rfl⟩
theorem dL_numbers_261 : ml_d cL_numbers 261 (.iconst 1) 1 262 := ⟨by decide +kernel, rfl⟩
theorem dL_numbers_262 : ml_d cL_numbers 262 (.iadd) 1 263 := ⟨by decide +kernel, rfl⟩
theorem dL_numbers_263 : ml_d cL_numbers 263 (.iload 9) 2 265 := ⟨by decide +kernel, rfl⟩
theorem dL_numbers_265 : ml_d cL_numbers 265 (.bipush 8) 2 267 := ⟨by decide +kernel, rfl⟩
theorem dL_numbers_267 : ml_d cL_numbers 267 (.idiv) 1 268 := ⟨by decide +kernel, rfl⟩
theorem dL_numbers_268 : ml_d cL_numbers 268 (.iload_n 3) 1 269 := ⟨by decide +kernel, rfl⟩
theorem dL_numbers_269 : ml_d cL_numbers 269 (.iconst 1) 1 270 := ⟨by decide +kernel, rfl⟩
theorem dL_numbers_270 : ml_d cL_numbers 270 (.isub) 1 271 := ⟨by decide +kernel, rfl⟩
theorem dL_numbers_271 : ml_d cL_numbers 271 (.irem) 1 272 := ⟨by decide +kernel, rfl⟩
theorem dL_numbers_272 : ml_d cL_numbers 272 (.iadd) 1 273 := ⟨by decide +kernel, rfl⟩
theorem dL_numbers_273 : ml_d cL_numbers 273 (.iload_n 3) 1 274 := ⟨by decide +kernel, rfl⟩
theorem dL_numbers_274 : ml_d cL_numbers 274 (.irem) 1 275 := ⟨by decide +kernel, rfl⟩
theorem dL_numbers_275 : ml_d cL_numbers 275 (.iastore) 1 276 := ⟨by decide +kernel, rfl⟩
theorem dL_numbers_276 : ml_d cL_numbers 276 (.iinc 8 1) 3 279 := ⟨by decide +kernel, rfl⟩
theorem dL_numbers_279 : ml_j cL_numbers 279 .goto 215 282 := ⟨(-64), by decide +kernel, by decide, rfl⟩
theorem dL_numbers_282 : ml_d cL_numbers 282 (.return_) 1 283 := ⟨by decide +kernel, rfl⟩
def fL_numbers_104 (sl : Nat) (sx : Nat → Int32) (k3 : Int32 → Int32 → Int32 → Int32 → Nat → Nat → Nat → Int32 → ml_M → Option ml_M) (k64 : Int32 → Int32 → Int32 → Int32 → Nat → Nat → Nat → Int32 → Int32 → ml_M → Option ml_M) (l1 : Int32) (l2 : Int32) (l3 : Int32) (l4 : Int32) (l5 : Nat) (l6 : Nat) (l7 : Nat) (l8 : Int32) (l9 : Int32) (t0 : Int32) (t1 : Int32) (t2 : Int32) (t3 : Int32) (t4 : Nat) (m : ml_M) : Option ml_M :=
    if ¬ t0 = 0 then
    if ml_in m t4 20 t3 then
    ml_let (ml_sI m t4 t3.toNatClampNeg (t2 + (t1 - t1 / t0 * t0))) fun m721 =>
    k64 l1 l2 l3 l4 l5 l6 l7 l8 (l9 + (1 : Int32)) m721
    else none
    else none
theorem vL_numbers_104 {E : ml_E} (hL : ml_eL E = 10) {rm : ml_M} (hr : ∀ (pc pc' : Nat) (lv : List (Nat × ml_X)), ml_d cL_numbers pc .return_ 1 pc' → True → ml_V E "LostRoomLaw" cL_numbers 3 false rm pc lv []) {k3 : Int32 → Int32 → Int32 → Int32 → Nat → Nat → Nat → Int32 → ml_M → Option ml_M} (hk3 : ∀ (l1 : Int32) (l2 : Int32) (l3 : Int32) (l4 : Int32) (l5 : Nat) (l6 : Nat) (l7 : Nat) (l8 : Int32) (m : ml_M), k3 l1 l2 l3 l4 l5 l6 l7 l8 m = some rm → ml_V E "LostRoomLaw" cL_numbers 3 false m 3 [(0, ml_q (ml_sb (ml_eG E))), (1, ml_i l1), (2, ml_i l2), (3, ml_i l3), (4, ml_i l4), (5, ml_r l5), (6, ml_r l6), (7, ml_r l7), (8, ml_i l8)] []) {k64 : Int32 → Int32 → Int32 → Int32 → Nat → Nat → Nat → Int32 → Int32 → ml_M → Option ml_M} (hk64 : ∀ (l1 : Int32) (l2 : Int32) (l3 : Int32) (l4 : Int32) (l5 : Nat) (l6 : Nat) (l7 : Nat) (l8 : Int32) (l9 : Int32) (m : ml_M), k64 l1 l2 l3 l4 l5 l6 l7 l8 l9 m = some rm → ml_V E "LostRoomLaw" cL_numbers 3 false m 64 [(0, ml_q (ml_sb (ml_eG E))), (1, ml_i l1), (2, ml_i l2), (3, ml_i l3), (4, ml_i l4), (5, ml_r l5), (6, ml_r l6), (7, ml_r l7), (8, ml_i l8), (9, ml_i l9)] []) : ∀ (l1 : Int32) (l2 : Int32) (l3 : Int32) (l4 : Int32) (l5 : Nat) (l6 : Nat) (l7 : Nat) (l8 : Int32) (l9 : Int32) (t0 : Int32) (t1 : Int32) (t2 : Int32) (t3 : Int32) (t4 : Nat) (m : ml_M), fL_numbers_104 (ml_sl (ml_eG E)) (ml_sx (ml_eG E)) k3 k64 l1 l2 l3 l4 l5 l6 l7 l8 l9 t0 t1 t2 t3 t4 m = some rm → ml_V E "LostRoomLaw" cL_numbers 3 false m 104 [(0, ml_q (ml_sb (ml_eG E))), (1, ml_i l1), (2, ml_i l2), (3, ml_i l3), (4, ml_i l4), (5, ml_r l5), (6, ml_r l6), (7, ml_r l7), (8, ml_i l8), (9, ml_i l9)] [ml_i t0, ml_i t1, ml_i t2, ml_i t3, ml_r t4] := by
  intro l1 l2 l3 l4 l5 l6 l7 l8 l9 t0 t1 t2 t3 t4 m h
  unfold fL_numbers_104 at h
  exact ml_ck_of h fun hz719 h => ml_irem dL_numbers_104 hz719 <| ml_iadd dL_numbers_105 <| ml_ck_of h fun hi720 h => ml_iast dL_numbers_106 hi720 <| ml_lt (m := m) rfl h fun m721 em722 h => ml_iinc (lv' := [(9, ml_i (l9 + (1 : Int32))), (0, ml_q (ml_sb (ml_eG E))), (1, ml_i l1), (2, ml_i l2), (3, ml_i l3), (4, ml_i l4), (5, ml_r l5), (6, ml_r l6), (7, ml_r l7), (8, ml_i l8)]) dL_numbers_107 9 rfl (congrArg (l9 + ·) kc_i1) (ml_hn hL rfl) rfl <| ml_goto dL_numbers_110 <| ml_V.sub [1, 2, 3, 4, 5, 6, 7, 8, 9, 0] rfl (hk64 _ _ _ _ _ _ _ _ _ _ h)
def fL_numbers_113 (sl : Nat) (sx : Nat → Int32) (k3 : Int32 → Int32 → Int32 → Int32 → Nat → Nat → Nat → Int32 → ml_M → Option ml_M) (l1 : Int32) (l2 : Int32) (l3 : Int32) (l4 : Int32) (l5 : Nat) (l6 : Nat) (l7 : Nat) (l8 : Int32) (m : ml_M) : Option ml_M :=
    k3 l1 l2 l3 l4 l5 l6 l7 (l8 + (1 : Int32)) m
theorem vL_numbers_113 {E : ml_E} (hL : ml_eL E = 10) {rm : ml_M} (hr : ∀ (pc pc' : Nat) (lv : List (Nat × ml_X)), ml_d cL_numbers pc .return_ 1 pc' → True → ml_V E "LostRoomLaw" cL_numbers 3 false rm pc lv []) {k3 : Int32 → Int32 → Int32 → Int32 → Nat → Nat → Nat → Int32 → ml_M → Option ml_M} (hk3 : ∀ (l1 : Int32) (l2 : Int32) (l3 : Int32) (l4 : Int32) (l5 : Nat) (l6 : Nat) (l7 : Nat) (l8 : Int32) (m : ml_M), k3 l1 l2 l3 l4 l5 l6 l7 l8 m = some rm → ml_V E "LostRoomLaw" cL_numbers 3 false m 3 [(0, ml_q (ml_sb (ml_eG E))), (1, ml_i l1), (2, ml_i l2), (3, ml_i l3), (4, ml_i l4), (5, ml_r l5), (6, ml_r l6), (7, ml_r l7), (8, ml_i l8)] []) : ∀ (l1 : Int32) (l2 : Int32) (l3 : Int32) (l4 : Int32) (l5 : Nat) (l6 : Nat) (l7 : Nat) (l8 : Int32) (m : ml_M), fL_numbers_113 (ml_sl (ml_eG E)) (ml_sx (ml_eG E)) k3 l1 l2 l3 l4 l5 l6 l7 l8 m = some rm → ml_V E "LostRoomLaw" cL_numbers 3 false m 113 [(0, ml_q (ml_sb (ml_eG E))), (1, ml_i l1), (2, ml_i l2), (3, ml_i l3), (4, ml_i l4), (5, ml_r l5), (6, ml_r l6), (7, ml_r l7), (8, ml_i l8)] [] := by
  intro l1 l2 l3 l4 l5 l6 l7 l8 m h
  unfold fL_numbers_113 at h
  exact ml_iinc (lv' := [(8, ml_i (l8 + (1 : Int32))), (0, ml_q (ml_sb (ml_eG E))), (1, ml_i l1), (2, ml_i l2), (3, ml_i l3), (4, ml_i l4), (5, ml_r l5), (6, ml_r l6), (7, ml_r l7)]) dL_numbers_113 8 rfl (congrArg (l8 + ·) kc_i1) (ml_hn hL rfl) rfl <| ml_goto dL_numbers_116 <| ml_V.sub [1, 2, 3, 4, 5, 6, 7, 8, 0] rfl (hk3 _ _ _ _ _ _ _ _ _ h)
def fL_numbers_64 (sl : Nat) (sx : Nat → Int32) (k3 : Int32 → Int32 → Int32 → Int32 → Nat → Nat → Nat → Int32 → ml_M → Option ml_M) : Nat → Int32 → Int32 → Int32 → Int32 → Nat → Nat → Nat → Int32 → Int32 → ml_M → Option ml_M
  | 0, _, _, _, _, _, _, _, _, _, _ => none
  | fu + 1, l1, l2, l3, l4, l5, l6, l7, l8, l9, m =>
    if (5 : Int32) ≤ l9 then
    fL_numbers_113 sl sx k3 l1 l2 l3 l4 l5 l6 l7 l8 m
    else
    ml_b1 (fL_cell sl sx ((l1 + ((5 : Int32) * l8)) + l9) m) fun r724 =>
    if l9 = (2 : Int32) then
    fL_numbers_104 sl sx k3 (fL_numbers_64 sl sx k3 fu) l1 l2 l3 l4 l5 l6 l7 l8 l9 (5 : Int32) r724 (1 : Int32) (((5 : Int32) * l8) + l9) l5 m
    else
    fL_numbers_104 sl sx k3 (fL_numbers_64 sl sx k3 fu) l1 l2 l3 l4 l5 l6 l7 l8 l9 (3 : Int32) r724 (1 : Int32) (((5 : Int32) * l8) + l9) l5 m
theorem vL_numbers_64 {E : ml_E} (hL : ml_eL E = 10) {rm : ml_M} (hr : ∀ (pc pc' : Nat) (lv : List (Nat × ml_X)), ml_d cL_numbers pc .return_ 1 pc' → True → ml_V E "LostRoomLaw" cL_numbers 3 false rm pc lv []) {k3 : Int32 → Int32 → Int32 → Int32 → Nat → Nat → Nat → Int32 → ml_M → Option ml_M} (hk3 : ∀ (l1 : Int32) (l2 : Int32) (l3 : Int32) (l4 : Int32) (l5 : Nat) (l6 : Nat) (l7 : Nat) (l8 : Int32) (m : ml_M), k3 l1 l2 l3 l4 l5 l6 l7 l8 m = some rm → ml_V E "LostRoomLaw" cL_numbers 3 false m 3 [(0, ml_q (ml_sb (ml_eG E))), (1, ml_i l1), (2, ml_i l2), (3, ml_i l3), (4, ml_i l4), (5, ml_r l5), (6, ml_r l6), (7, ml_r l7), (8, ml_i l8)] []) : ∀ (fu : Nat) (l1 : Int32) (l2 : Int32) (l3 : Int32) (l4 : Int32) (l5 : Nat) (l6 : Nat) (l7 : Nat) (l8 : Int32) (l9 : Int32) (m : ml_M), fL_numbers_64 (ml_sl (ml_eG E)) (ml_sx (ml_eG E)) k3 fu l1 l2 l3 l4 l5 l6 l7 l8 l9 m = some rm → ml_V E "LostRoomLaw" cL_numbers 3 false m 64 [(0, ml_q (ml_sb (ml_eG E))), (1, ml_i l1), (2, ml_i l2), (3, ml_i l3), (4, ml_i l4), (5, ml_r l5), (6, ml_r l6), (7, ml_r l7), (8, ml_i l8), (9, ml_i l9)] [] := by
  intro fu
  induction fu with
  | zero => intro l1 l2 l3 l4 l5 l6 l7 l8 l9 m h; exact ml_none h
  | succ fu ih =>
    intro l1 l2 l3 l4 l5 l6 l7 l8 l9 m h
    have hk64 := ih
    unfold fL_numbers_64 at h
    exact ml_iload dL_numbers_64 9 rfl <| ml_iconst dL_numbers_66 kc_i5 <| ml_icmp_ge dL_numbers_67 h (fun _ h => ml_V.sub [0, 1, 2, 3, 4, 5, 6, 7, 8] rfl (vL_numbers_113 hL hr hk3 _ _ _ _ _ _ _ _ _ h)) (fun _ h => ml_aload dL_numbers_70 5 rfl <| ml_iconst dL_numbers_72 kc_i5 <| ml_iload dL_numbers_73 8 rfl <| ml_imul dL_numbers_75 <| ml_iload dL_numbers_76 9 rfl <| ml_iadd dL_numbers_78 <| ml_iconst dL_numbers_79 kc_i1 <| ml_sload dL_numbers_80 0 rfl <| ml_iload_n dL_numbers_81 1 rfl <| ml_iconst dL_numbers_82 kc_i5 <| ml_iload dL_numbers_83 8 rfl <| ml_imul dL_numbers_85 <| ml_iadd dL_numbers_86 <| ml_iload dL_numbers_87 9 rfl <| ml_iadd dL_numbers_89 <| ml_b1_of h fun r724 hv723 h => ml_callSg dL_numbers_90 wm_234 wb_141 (sL_cell hv723) rfl (Nat.le_of_ble_eq_true rfl) (Nat.le_of_ble_eq_true rfl) rfl <| ml_iload dL_numbers_93 9 rfl <| ml_iconst dL_numbers_95 kc_i2 <| ml_icmp_ne dL_numbers_96 h (fun _ h => ml_iconst dL_numbers_103 kc_i3 <| ml_V.sub [0, 1, 2, 3, 4, 5, 6, 7, 8, 9] rfl (vL_numbers_104 hL hr hk3 hk64 _ _ _ _ _ _ _ _ _ _ _ _ _ _ _ h)) (fun _ h => ml_iconst dL_numbers_99 kc_i5 <| ml_goto dL_numbers_100 <| ml_V.sub [0, 1, 2, 3, 4, 5, 6, 7, 8, 9] rfl (vL_numbers_104 hL hr hk3 hk64 _ _ _ _ _ _ _ _ _ _ _ _ _ _ _ h)))
def fL_numbers_215 (sl : Nat) (sx : Nat → Int32) : Nat → Int32 → Int32 → Int32 → Nat → Int32 → ml_M → Option ml_M
  | 0, _, _, _, _, _, _ => none
  | fu + 1, l1, l3, l4, l7, l8, m =>
    if l4 ≤ l8 then
    some m
    else
    ml_b1 (fL_cell sl sx ((l1 + (50 : Int32)) + l8) m) fun r726 =>
    if ¬ l3 = 0 then
    if ml_in m l7 20 ((2 : Int32) * l8) then
    ml_let (ml_sI m l7 ((2 : Int32) * l8).toNatClampNeg (r726 - r726 / l3 * l3)) fun m729 =>
    if ml_in m729 l7 20 ((2 : Int32) * l8) then
    if ¬ (l3 - (1 : Int32)) = 0 then
    if ¬ l3 = 0 then
    if ml_in m729 l7 20 (((2 : Int32) * l8) + (1 : Int32)) then
    ml_let (ml_sI m729 l7 (((2 : Int32) * l8) + (1 : Int32)).toNatClampNeg ((((ml_I m729 l7 ((2 : Int32) * l8).toNatClampNeg) + (1 : Int32)) + ((r726 / (8 : Int32)) - (r726 / (8 : Int32)) / (l3 - (1 : Int32)) * (l3 - (1 : Int32)))) - (((ml_I m729 l7 ((2 : Int32) * l8).toNatClampNeg) + (1 : Int32)) + ((r726 / (8 : Int32)) - (r726 / (8 : Int32)) / (l3 - (1 : Int32)) * (l3 - (1 : Int32)))) / l3 * l3)) fun m735 =>
    (fL_numbers_215 sl sx fu) l1 l3 l4 l7 (l8 + (1 : Int32)) m735
    else none
    else none
    else none
    else none
    else none
    else none
theorem vL_numbers_215 {E : ml_E} (hL : ml_eL E = 10) {rm : ml_M} (hr : ∀ (pc pc' : Nat) (lv : List (Nat × ml_X)), ml_d cL_numbers pc .return_ 1 pc' → True → ml_V E "LostRoomLaw" cL_numbers 3 false rm pc lv []) : ∀ (fu : Nat) (l1 : Int32) (l3 : Int32) (l4 : Int32) (l7 : Nat) (l8 : Int32) (m : ml_M), fL_numbers_215 (ml_sl (ml_eG E)) (ml_sx (ml_eG E)) fu l1 l3 l4 l7 l8 m = some rm → ml_V E "LostRoomLaw" cL_numbers 3 false m 215 [(0, ml_q (ml_sb (ml_eG E))), (1, ml_i l1), (3, ml_i l3), (4, ml_i l4), (7, ml_r l7), (8, ml_i l8)] [] := by
  intro fu
  induction fu with
  | zero => intro l1 l3 l4 l7 l8 m h; exact ml_none h
  | succ fu ih =>
    intro l1 l3 l4 l7 l8 m h
    have hk215 := ih
    unfold fL_numbers_215 at h
    exact ml_iload dL_numbers_215 5 rfl <| ml_iload dL_numbers_217 3 rfl <| ml_icmp_ge dL_numbers_219 h (fun _ h => ml_rv hr dL_numbers_282 trivial h) (fun _ h => ml_sload dL_numbers_222 0 rfl <| ml_iload_n dL_numbers_223 1 rfl <| ml_bipush dL_numbers_224 kc_b50 <| ml_iadd dL_numbers_226 <| ml_iload dL_numbers_227 5 rfl <| ml_iadd dL_numbers_229 <| ml_b1_of h fun r726 hv725 h => ml_callSg dL_numbers_230 wm_234 wb_141 (sL_cell hv725) rfl (Nat.le_of_ble_eq_true rfl) (Nat.le_of_ble_eq_true rfl) rfl <| ml_istore (lv' := [(9, ml_i r726), (0, ml_q (ml_sb (ml_eG E))), (1, ml_i l1), (3, ml_i l3), (4, ml_i l4), (7, ml_r l7), (8, ml_i l8)]) dL_numbers_233 (ml_hn hL rfl) rfl <| ml_aload dL_numbers_235 5 rfl <| ml_iconst dL_numbers_237 kc_i2 <| ml_iload dL_numbers_238 6 rfl <| ml_imul dL_numbers_240 <| ml_iload dL_numbers_241 0 rfl <| ml_iload_n dL_numbers_243 3 rfl <| ml_ck_of h fun hz727 h => ml_irem dL_numbers_244 hz727 <| ml_ck_of h fun hi728 h => ml_iast dL_numbers_245 hi728 <| ml_lt (m := m) rfl h fun m729 em730 h => ml_aload dL_numbers_246 5 rfl <| ml_iconst dL_numbers_248 kc_i2 <| ml_iload dL_numbers_249 6 rfl <| ml_imul dL_numbers_251 <| ml_iconst dL_numbers_252 kc_i1 <| ml_iadd dL_numbers_253 <| ml_aload dL_numbers_254 5 rfl <| ml_iconst dL_numbers_256 kc_i2 <| ml_iload dL_numbers_257 6 rfl <| ml_imul dL_numbers_259 <| ml_ck_of h fun hi731 h => ml_iald dL_numbers_260 hi731 <| ml_iconst dL_numbers_261 kc_i1 <| ml_iadd dL_numbers_262 <| ml_iload dL_numbers_263 0 rfl <| ml_bipush dL_numbers_265 kc_b8 <| ml_idiv dL_numbers_267 (by decide) <| ml_iload_n dL_numbers_268 3 rfl <| ml_iconst dL_numbers_269 kc_i1 <| ml_isub dL_numbers_270 <| ml_ck_of h fun hz732 h => ml_irem dL_numbers_271 hz732 <| ml_iadd dL_numbers_272 <| ml_iload_n dL_numbers_273 3 rfl <| ml_ck_of h fun hz733 h => ml_irem dL_numbers_274 hz733 <| ml_ck_of h fun hi734 h => ml_iast dL_numbers_275 hi734 <| ml_lt (m := m729) rfl h fun m735 em736 h => ml_iinc (lv' := [(8, ml_i (l8 + (1 : Int32))), (9, ml_i r726), (0, ml_q (ml_sb (ml_eG E))), (1, ml_i l1), (3, ml_i l3), (4, ml_i l4), (7, ml_r l7)]) dL_numbers_276 6 rfl (congrArg (l8 + ·) kc_i1) (ml_hn hL rfl) rfl <| ml_goto dL_numbers_279 <| ml_V.sub [2, 3, 4, 5, 6, 0] rfl (hk215 _ _ _ _ _ _ h))
def fL_numbers_212 (sl : Nat) (sx : Nat → Int32) (l1 : Int32) (l3 : Int32) (l4 : Int32) (l7 : Nat) (m : ml_M) : Option ml_M :=
    fL_numbers_215 sl sx ml_fu l1 l3 l4 l7 (0 : Int32) m
theorem vL_numbers_212 {E : ml_E} (hL : ml_eL E = 10) {rm : ml_M} (hr : ∀ (pc pc' : Nat) (lv : List (Nat × ml_X)), ml_d cL_numbers pc .return_ 1 pc' → True → ml_V E "LostRoomLaw" cL_numbers 3 false rm pc lv []) : ∀ (l1 : Int32) (l3 : Int32) (l4 : Int32) (l7 : Nat) (m : ml_M), fL_numbers_212 (ml_sl (ml_eG E)) (ml_sx (ml_eG E)) l1 l3 l4 l7 m = some rm → ml_V E "LostRoomLaw" cL_numbers 3 false m 212 [(0, ml_q (ml_sb (ml_eG E))), (1, ml_i l1), (3, ml_i l3), (4, ml_i l4), (7, ml_r l7)] [] := by
  intro l1 l3 l4 l7 m h
  unfold fL_numbers_212 at h
  exact ml_iconst dL_numbers_212 kc_i0 <| ml_istore (lv' := [(8, ml_i (0 : Int32)), (0, ml_q (ml_sb (ml_eG E))), (1, ml_i l1), (3, ml_i l3), (4, ml_i l4), (7, ml_r l7)]) dL_numbers_213 (ml_hn hL rfl) rfl <| ml_V.sub [1, 2, 3, 4, 5, 0] rfl (vL_numbers_215 hL hr  ml_fu _ _ _ _ _ _ h)
def fL_numbers_122 (sl : Nat) (sx : Nat → Int32) : Nat → Int32 → Int32 → Int32 → Nat → Nat → Int32 → ml_M → Option ml_M
  | 0, _, _, _, _, _, _, _ => none
  | fu + 1, l1, l3, l4, l6, l7, l8, m =>
    if l3 ≤ l8 then
    fL_numbers_212 sl sx l1 l3 l4 l7 m
    else
    ml_b1 (fL_cell sl sx ((l1 + (40 : Int32)) + l8) m) fun r738 =>
    if ml_in m l6 20 ((2 : Int32) * l8) then
    ml_let (ml_sI m l6 ((2 : Int32) * l8).toNatClampNeg (((((1111 : Int32) + (r738 - r738 / (5 : Int32) * (5 : Int32))) + ((10 : Int32) * ((r738 / (5 : Int32)) - (r738 / (5 : Int32)) / (5 : Int32) * (5 : Int32)))) + ((100 : Int32) * ((r738 / (25 : Int32)) - (r738 / (25 : Int32)) / (2 : Int32) * (2 : Int32)))) + ((1000 : Int32) * ((r738 / (50 : Int32)) - (r738 / (50 : Int32)) / (2 : Int32) * (2 : Int32))))) fun m740 =>
    if ml_in m740 l6 20 (((2 : Int32) * l8) + (1 : Int32)) then
    ml_let (ml_sI m740 l6 (((2 : Int32) * l8) + (1 : Int32)).toNatClampNeg ((r738 / (100 : Int32)) - (r738 / (100 : Int32)) / (10 : Int32) * (10 : Int32))) fun m743 =>
    (fL_numbers_122 sl sx fu) l1 l3 l4 l6 l7 (l8 + (1 : Int32)) m743
    else none
    else none
theorem vL_numbers_122 {E : ml_E} (hL : ml_eL E = 10) {rm : ml_M} (hr : ∀ (pc pc' : Nat) (lv : List (Nat × ml_X)), ml_d cL_numbers pc .return_ 1 pc' → True → ml_V E "LostRoomLaw" cL_numbers 3 false rm pc lv []) : ∀ (fu : Nat) (l1 : Int32) (l3 : Int32) (l4 : Int32) (l6 : Nat) (l7 : Nat) (l8 : Int32) (m : ml_M), fL_numbers_122 (ml_sl (ml_eG E)) (ml_sx (ml_eG E)) fu l1 l3 l4 l6 l7 l8 m = some rm → ml_V E "LostRoomLaw" cL_numbers 3 false m 122 [(0, ml_q (ml_sb (ml_eG E))), (1, ml_i l1), (3, ml_i l3), (4, ml_i l4), (6, ml_r l6), (7, ml_r l7), (8, ml_i l8)] [] := by
  intro fu
  induction fu with
  | zero => intro l1 l3 l4 l6 l7 l8 m h; exact ml_none h
  | succ fu ih =>
    intro l1 l3 l4 l6 l7 l8 m h
    have hk122 := ih
    unfold fL_numbers_122 at h
    exact ml_iload dL_numbers_122 6 rfl <| ml_iload_n dL_numbers_124 2 rfl <| ml_icmp_ge dL_numbers_125 h (fun _ h => ml_V.sub [0, 1, 2, 3, 5] rfl (vL_numbers_212 hL hr  _ _ _ _ _ h)) (fun _ h => ml_sload dL_numbers_128 0 rfl <| ml_iload_n dL_numbers_129 1 rfl <| ml_bipush dL_numbers_130 kc_b40 <| ml_iadd dL_numbers_132 <| ml_iload dL_numbers_133 6 rfl <| ml_iadd dL_numbers_135 <| ml_b1_of h fun r738 hv737 h => ml_callSg dL_numbers_136 wm_234 wb_141 (sL_cell hv737) rfl (Nat.le_of_ble_eq_true rfl) (Nat.le_of_ble_eq_true rfl) rfl <| ml_istore (lv' := [(9, ml_i r738), (0, ml_q (ml_sb (ml_eG E))), (1, ml_i l1), (3, ml_i l3), (4, ml_i l4), (6, ml_r l6), (7, ml_r l7), (8, ml_i l8)]) dL_numbers_139 (ml_hn hL rfl) rfl <| ml_aload dL_numbers_141 5 rfl <| ml_iconst dL_numbers_143 kc_i2 <| ml_iload dL_numbers_144 7 rfl <| ml_imul dL_numbers_146 <| ml_sipush dL_numbers_147 kc_s1111 <| ml_iload dL_numbers_150 0 rfl <| ml_iconst dL_numbers_152 kc_i5 <| ml_irem dL_numbers_153 (by decide) <| ml_iadd dL_numbers_154 <| ml_bipush dL_numbers_155 kc_b10 <| ml_iload dL_numbers_157 0 rfl <| ml_iconst dL_numbers_159 kc_i5 <| ml_idiv dL_numbers_160 (by decide) <| ml_iconst dL_numbers_161 kc_i5 <| ml_irem dL_numbers_162 (by decide) <| ml_imul dL_numbers_163 <| ml_iadd dL_numbers_164 <| ml_bipush dL_numbers_165 kc_b100 <| ml_iload dL_numbers_167 0 rfl <| ml_bipush dL_numbers_169 kc_b25 <| ml_idiv dL_numbers_171 (by decide) <| ml_iconst dL_numbers_172 kc_i2 <| ml_irem dL_numbers_173 (by decide) <| ml_imul dL_numbers_174 <| ml_iadd dL_numbers_175 <| ml_sipush dL_numbers_176 kc_s1000 <| ml_iload dL_numbers_179 0 rfl <| ml_bipush dL_numbers_181 kc_b50 <| ml_idiv dL_numbers_183 (by decide) <| ml_iconst dL_numbers_184 kc_i2 <| ml_irem dL_numbers_185 (by decide) <| ml_imul dL_numbers_186 <| ml_iadd dL_numbers_187 <| ml_ck_of h fun hi739 h => ml_iast dL_numbers_188 hi739 <| ml_lt (m := m) rfl h fun m740 em741 h => ml_aload dL_numbers_189 5 rfl <| ml_iconst dL_numbers_191 kc_i2 <| ml_iload dL_numbers_192 7 rfl <| ml_imul dL_numbers_194 <| ml_iconst dL_numbers_195 kc_i1 <| ml_iadd dL_numbers_196 <| ml_iload dL_numbers_197 0 rfl <| ml_bipush dL_numbers_199 kc_b100 <| ml_idiv dL_numbers_201 (by decide) <| ml_bipush dL_numbers_202 kc_b10 <| ml_irem dL_numbers_204 (by decide) <| ml_ck_of h fun hi742 h => ml_iast dL_numbers_205 hi742 <| ml_lt (m := m740) rfl h fun m743 em744 h => ml_iinc (lv' := [(8, ml_i (l8 + (1 : Int32))), (9, ml_i r738), (0, ml_q (ml_sb (ml_eG E))), (1, ml_i l1), (3, ml_i l3), (4, ml_i l4), (6, ml_r l6), (7, ml_r l7)]) dL_numbers_206 7 rfl (congrArg (l8 + ·) kc_i1) (ml_hn hL rfl) rfl <| ml_goto dL_numbers_209 <| ml_V.sub [2, 3, 4, 5, 6, 7, 0] rfl (hk122 _ _ _ _ _ _ _ h))
def fL_numbers_119 (sl : Nat) (sx : Nat → Int32) (l1 : Int32) (l3 : Int32) (l4 : Int32) (l6 : Nat) (l7 : Nat) (m : ml_M) : Option ml_M :=
    fL_numbers_122 sl sx ml_fu l1 l3 l4 l6 l7 (0 : Int32) m
theorem vL_numbers_119 {E : ml_E} (hL : ml_eL E = 10) {rm : ml_M} (hr : ∀ (pc pc' : Nat) (lv : List (Nat × ml_X)), ml_d cL_numbers pc .return_ 1 pc' → True → ml_V E "LostRoomLaw" cL_numbers 3 false rm pc lv []) : ∀ (l1 : Int32) (l3 : Int32) (l4 : Int32) (l6 : Nat) (l7 : Nat) (m : ml_M), fL_numbers_119 (ml_sl (ml_eG E)) (ml_sx (ml_eG E)) l1 l3 l4 l6 l7 m = some rm → ml_V E "LostRoomLaw" cL_numbers 3 false m 119 [(0, ml_q (ml_sb (ml_eG E))), (1, ml_i l1), (3, ml_i l3), (4, ml_i l4), (6, ml_r l6), (7, ml_r l7)] [] := by
  intro l1 l3 l4 l6 l7 m h
  unfold fL_numbers_119 at h
  exact ml_iconst dL_numbers_119 kc_i0 <| ml_istore (lv' := [(8, ml_i (0 : Int32)), (0, ml_q (ml_sb (ml_eG E))), (1, ml_i l1), (3, ml_i l3), (4, ml_i l4), (6, ml_r l6), (7, ml_r l7)]) dL_numbers_120 (ml_hn hL rfl) rfl <| ml_V.sub [1, 2, 3, 4, 5, 6, 0] rfl (vL_numbers_122 hL hr  ml_fu _ _ _ _ _ _ _ h)
def fL_numbers_3 (sl : Nat) (sx : Nat → Int32) : Nat → Int32 → Int32 → Int32 → Int32 → Nat → Nat → Nat → Int32 → ml_M → Option ml_M
  | 0, _, _, _, _, _, _, _, _, _ => none
  | fu + 1, l1, l2, l3, l4, l5, l6, l7, l8, m =>
    if l2 ≤ l8 then
    fL_numbers_119 sl sx l1 l3 l4 l6 l7 m
    else
    ml_b1 (fL_cell sl sx (l1 + ((5 : Int32) * l8)) m) fun r746 =>
    if ml_in m l5 20 ((5 : Int32) * l8) then
    ml_let (ml_sI m l5 ((5 : Int32) * l8).toNatClampNeg (r746 - r746 / (30 : Int32) * (30 : Int32))) fun m748 =>
    if ml_in m748 l5 20 ((5 : Int32) * l8) then
    ml_b1 (fL_cell sl sx ((l1 + ((5 : Int32) * l8)) + (1 : Int32)) m748) fun r752 =>
    if ml_in m748 l5 20 (((5 : Int32) * l8) + (1 : Int32)) then
    ml_let (ml_sI m748 l5 (((5 : Int32) * l8) + (1 : Int32)).toNatClampNeg ((ml_I m748 l5 ((5 : Int32) * l8).toNatClampNeg) + (r752 - r752 / (30 : Int32) * (30 : Int32)))) fun m754 =>
    fL_numbers_64 sl sx (fL_numbers_3 sl sx fu) ml_fu l1 l2 l3 l4 l5 l6 l7 l8 (2 : Int32) m754
    else none
    else none
    else none
theorem vL_numbers_3 {E : ml_E} (hL : ml_eL E = 10) {rm : ml_M} (hr : ∀ (pc pc' : Nat) (lv : List (Nat × ml_X)), ml_d cL_numbers pc .return_ 1 pc' → True → ml_V E "LostRoomLaw" cL_numbers 3 false rm pc lv []) : ∀ (fu : Nat) (l1 : Int32) (l2 : Int32) (l3 : Int32) (l4 : Int32) (l5 : Nat) (l6 : Nat) (l7 : Nat) (l8 : Int32) (m : ml_M), fL_numbers_3 (ml_sl (ml_eG E)) (ml_sx (ml_eG E)) fu l1 l2 l3 l4 l5 l6 l7 l8 m = some rm → ml_V E "LostRoomLaw" cL_numbers 3 false m 3 [(0, ml_q (ml_sb (ml_eG E))), (1, ml_i l1), (2, ml_i l2), (3, ml_i l3), (4, ml_i l4), (5, ml_r l5), (6, ml_r l6), (7, ml_r l7), (8, ml_i l8)] [] := by
  intro fu
  induction fu with
  | zero => intro l1 l2 l3 l4 l5 l6 l7 l8 m h; exact ml_none h
  | succ fu ih =>
    intro l1 l2 l3 l4 l5 l6 l7 l8 m h
    have hk3 := ih
    unfold fL_numbers_3 at h
    exact ml_iload dL_numbers_3 8 rfl <| ml_iload_n dL_numbers_5 2 rfl <| ml_icmp_ge dL_numbers_6 h (fun _ h => ml_V.sub [0, 1, 3, 4, 6, 7] rfl (vL_numbers_119 hL hr  _ _ _ _ _ _ h)) (fun _ h => ml_aload dL_numbers_9 5 rfl <| ml_iconst dL_numbers_11 kc_i5 <| ml_iload dL_numbers_12 8 rfl <| ml_imul dL_numbers_14 <| ml_sload dL_numbers_15 0 rfl <| ml_iload_n dL_numbers_16 1 rfl <| ml_iconst dL_numbers_17 kc_i5 <| ml_iload dL_numbers_18 8 rfl <| ml_imul dL_numbers_20 <| ml_iadd dL_numbers_21 <| ml_b1_of h fun r746 hv745 h => ml_callSg dL_numbers_22 wm_234 wb_141 (sL_cell hv745) rfl (Nat.le_of_ble_eq_true rfl) (Nat.le_of_ble_eq_true rfl) rfl <| ml_bipush dL_numbers_25 kc_b30 <| ml_irem dL_numbers_27 (by decide) <| ml_ck_of h fun hi747 h => ml_iast dL_numbers_28 hi747 <| ml_lt (m := m) rfl h fun m748 em749 h => ml_aload dL_numbers_29 5 rfl <| ml_iconst dL_numbers_31 kc_i5 <| ml_iload dL_numbers_32 8 rfl <| ml_imul dL_numbers_34 <| ml_iconst dL_numbers_35 kc_i1 <| ml_iadd dL_numbers_36 <| ml_aload dL_numbers_37 5 rfl <| ml_iconst dL_numbers_39 kc_i5 <| ml_iload dL_numbers_40 8 rfl <| ml_imul dL_numbers_42 <| ml_ck_of h fun hi750 h => ml_iald dL_numbers_43 hi750 <| ml_sload dL_numbers_44 0 rfl <| ml_iload_n dL_numbers_45 1 rfl <| ml_iconst dL_numbers_46 kc_i5 <| ml_iload dL_numbers_47 8 rfl <| ml_imul dL_numbers_49 <| ml_iadd dL_numbers_50 <| ml_iconst dL_numbers_51 kc_i1 <| ml_iadd dL_numbers_52 <| ml_b1_of h fun r752 hv751 h => ml_callSg dL_numbers_53 wm_234 wb_141 (sL_cell hv751) rfl (Nat.le_of_ble_eq_true rfl) (Nat.le_of_ble_eq_true rfl) rfl <| ml_bipush dL_numbers_56 kc_b30 <| ml_irem dL_numbers_58 (by decide) <| ml_iadd dL_numbers_59 <| ml_ck_of h fun hi753 h => ml_iast dL_numbers_60 hi753 <| ml_lt (m := m748) rfl h fun m754 em755 h => ml_iconst dL_numbers_61 kc_i2 <| ml_istore (lv' := [(9, ml_i (2 : Int32)), (0, ml_q (ml_sb (ml_eG E))), (1, ml_i l1), (2, ml_i l2), (3, ml_i l3), (4, ml_i l4), (5, ml_r l5), (6, ml_r l6), (7, ml_r l7), (8, ml_i l8)]) dL_numbers_62 (ml_hn hL rfl) rfl <| ml_V.sub [1, 2, 3, 4, 5, 6, 7, 8, 9, 0] rfl (vL_numbers_64 hL hr hk3 ml_fu _ _ _ _ _ _ _ _ _ _ h))
def fL_numbers (sl : Nat) (sx : Nat → Int32) (l1 : Int32) (l2 : Int32) (l3 : Int32) (l4 : Int32) (l5 : Nat) (l6 : Nat) (l7 : Nat) (m : ml_M) : Option ml_M :=
    fL_numbers_3 sl sx ml_fu l1 l2 l3 l4 l5 l6 l7 (0 : Int32) m
theorem wL_numbers_0 {E : ml_E} (hL : ml_eL E = 10) {rm : ml_M} (hr : ∀ (pc pc' : Nat) (lv : List (Nat × ml_X)), ml_d cL_numbers pc .return_ 1 pc' → True → ml_V E "LostRoomLaw" cL_numbers 3 false rm pc lv []) : ∀ (l1 : Int32) (l2 : Int32) (l3 : Int32) (l4 : Int32) (l5 : Nat) (l6 : Nat) (l7 : Nat) (m : ml_M), fL_numbers (ml_sl (ml_eG E)) (ml_sx (ml_eG E)) l1 l2 l3 l4 l5 l6 l7 m = some rm → ml_V E "LostRoomLaw" cL_numbers 3 false m 0 [(0, ml_q (ml_sb (ml_eG E))), (1, ml_i l1), (2, ml_i l2), (3, ml_i l3), (4, ml_i l4), (5, ml_r l5), (6, ml_r l6), (7, ml_r l7)] [] := by
  intro l1 l2 l3 l4 l5 l6 l7 m h
  unfold fL_numbers at h
  exact ml_iconst dL_numbers_0 kc_i0 <| ml_istore (lv' := [(8, ml_i (0 : Int32)), (0, ml_q (ml_sb (ml_eG E))), (1, ml_i l1), (2, ml_i l2), (3, ml_i l3), (4, ml_i l4), (5, ml_r l5), (6, ml_r l6), (7, ml_r l7)]) dL_numbers_1 (ml_hn hL rfl) rfl <| ml_V.sub [1, 2, 3, 4, 5, 6, 7, 8, 0] rfl (vL_numbers_3 hL hr  ml_fu _ _ _ _ _ _ _ _ _ h)
theorem sL_numbers {G : ml_G} {l1 : Int32} {l2 : Int32} {l3 : Int32} {l4 : Int32} {l5 : Nat} {l6 : Nat} {l7 : Nat} {m : ml_M} {rm : ml_M} (h : fL_numbers (ml_sl G) (ml_sx G) l1 l2 l3 l4 l5 l6 l7 m = some rm) : ml_SnG G yL_numbers cL_numbers 10 none 3 [ml_q (ml_sb G), ml_i l1, ml_i l2, ml_i l3, ml_i l4, ml_r l5, ml_r l6, ml_r l7] m none rm :=
  ml_SnG_of (P := True) (ini := false) (by decide +kernel) (Nat.le_of_ble_eq_true rfl) (fun h => by cases h) (fun _ => ml_RkV) fun E hG hL hr => by subst hG; exact wL_numbers_0 hL hr _ _ _ _ _ _ _ _ h

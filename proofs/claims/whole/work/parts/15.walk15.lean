/-! printed by wip/whole/emit.py out of the claim's own listing -/
theorem dX1_readStanding_0 : ml_d cX1_readStanding 0 (.aload_n 0) 1 1 := ⟨by decide +kernel, rfl⟩
theorem dX1_readStanding_1 : ml_d cX1_readStanding 1 (.dup) 1 2 := ⟨by decide +kernel, rfl⟩
theorem dX1_readStanding_2 : ml_d cX1_readStanding 2 (.getfield 31) 3 5 := ⟨by decide +kernel, rfl⟩
theorem dX1_readStanding_5 : ml_d cX1_readStanding 5 (.iconst 1) 1 6 := ⟨by decide +kernel, rfl⟩
theorem dX1_readStanding_6 : ml_d cX1_readStanding 6 (.iadd) 1 7 := ⟨by decide +kernel, rfl⟩
theorem dX1_readStanding_7 : ml_d cX1_readStanding 7 (.putfield 31) 3 10 := ⟨by decide +kernel, rfl⟩
theorem dX1_readStanding_10 : ml_d cX1_readStanding 10 (.aload_n 0) 1 11 := ⟨by decide +kernel, rfl⟩
theorem dX1_readStanding_11 : ml_d cX1_readStanding 11 (.iconst 0) 1 12 := ⟨by decide +kernel, rfl⟩
theorem dX1_readStanding_12 : ml_d cX1_readStanding 12 (.aload_n 0) 1 13 := ⟨by decide +kernel, rfl⟩
theorem dX1_readStanding_13 : ml_d cX1_readStanding 13 (.getfield 44) 3 16 := ⟨by decide +kernel, rfl⟩
theorem dX1_readStanding_16 : ml_d cX1_readStanding 16 (.iconst 1) 1 17 := ⟨by decide +kernel, rfl⟩
theorem dX1_readStanding_17 : ml_d cX1_readStanding 17 (.isub) 1 18 := ⟨by decide +kernel, rfl⟩
theorem dX1_readStanding_18 : ml_d cX1_readStanding 18 (.invokevirtual 64) 3 21 := ⟨by decide +kernel, rfl⟩
theorem dX1_readStanding_21 : ml_d cX1_readStanding 21 (.istore_n 1) 1 22 := ⟨by decide +kernel, rfl⟩
theorem dX1_readStanding_22 : ml_d cX1_readStanding 22 (.aload_n 0) 1 23 := ⟨by decide +kernel, rfl⟩
theorem dX1_readStanding_23 : ml_d cX1_readStanding 23 (.bipush 47) 2 25 := ⟨by decide +kernel, rfl⟩
theorem dX1_readStanding_25 : ml_d cX1_readStanding 25 (.invokevirtual 60) 3 28 := ⟨by decide +kernel, rfl⟩
theorem dX1_readStanding_28 : ml_d cX1_readStanding 28 (.aload_n 0) 1 29 := ⟨by decide +kernel, rfl⟩
theorem dX1_readStanding_29 : ml_d cX1_readStanding 29 (.getfield 31) 3 32 := ⟨by decide +kernel, rfl⟩
theorem dX1_readStanding_32 : ml_d cX1_readStanding 32 (.istore_n 2) 1 33 := ⟨by decide +kernel, rfl⟩
theorem dX1_readStanding_33 : ml_d cX1_readStanding 33 (.aload_n 0) 1 34 := ⟨by decide +kernel, rfl⟩
theorem dX1_readStanding_34 : ml_d cX1_readStanding 34 (.iconst 0) 1 35 := ⟨by decide +kernel, rfl⟩
theorem dX1_readStanding_35 : ml_d cX1_readStanding 35 (.aload_n 0) 1 36 := ⟨by decide +kernel, rfl⟩
theorem dX1_readStanding_36 : ml_d cX1_readStanding 36 (.getfield 44) 3 39 := ⟨by decide +kernel, rfl⟩
theorem dX1_readStanding_39 : ml_d cX1_readStanding 39 (.iconst 1) 1 40 := ⟨by decide +kernel, rfl⟩
theorem dX1_readStanding_40 : ml_d cX1_readStanding 40 (.isub) 1 41 := ⟨by decide +kernel, rfl⟩
theorem dX1_readStanding_41 : ml_d cX1_readStanding 41 (.invokevirtual 64) 3 44 := ⟨by decide +kernel, rfl⟩
theorem dX1_readStanding_44 : ml_d cX1_readStanding 44 (.istore_n 3) 1 45 := ⟨by decide +kernel, rfl⟩
theorem dX1_readStanding_45 : ml_d cX1_readStanding 45 (.aload_n 0) 1 46 := ⟨by decide +kernel, rfl⟩
theorem dX1_readStanding_46 : ml_d cX1_readStanding 46 (.getfield 23) 3 49 := ⟨by decide +kernel, rfl⟩
theorem dX1_readStanding_49 : ml_d cX1_readStanding 49 (.bipush (-9)) 2 51 := ⟨by decide +kernel, rfl⟩
theorem dX1_readStanding_51 : ml_j cX1_readStanding 51 (.if_icmp .ne) 64 54 := ⟨13, by decide +kernel, by decide, rfl⟩
theorem dX1_readStanding_54 : ml_d cX1_readStanding 54 (.iload_n 3) 1 55 := ⟨by decide +kernel, rfl⟩
theorem dX1_readStanding_55 : ml_d cX1_readStanding 55 (.iload_n 1) 1 56 := ⟨by decide +kernel, rfl⟩
theorem dX1_readStanding_56 : ml_j cX1_readStanding 56 (.if_icmp .ne) 64 59 := ⟨8, by decide +kernel, by decide, rfl⟩
theorem dX1_readStanding_59 : ml_d cX1_readStanding 59 (.aload_n 0) 1 60 := ⟨by decide +kernel, rfl⟩
theorem dX1_readStanding_60 : ml_d cX1_readStanding 60 (.iload_n 2) 1 61 := ⟨by decide +kernel, rfl⟩
theorem dX1_readStanding_61 : ml_d cX1_readStanding 61 (.putfield 23) 3 64 := ⟨by decide +kernel, rfl⟩
theorem dX1_readStanding_64 : ml_d cX1_readStanding 64 (.aload_n 0) 1 65 := ⟨by decide +kernel, rfl⟩
theorem dX1_readStanding_65 : ml_d cX1_readStanding 65 (.getfield 23) 3 68 := ⟨by decide +kernel, rfl⟩
theorem dX1_readStanding_68 : ml_d cX1_readStanding 68 (.bipush (-9)) 2 70 := ⟨by decide +kernel, rfl⟩
theorem dX1_readStanding_70 : ml_j cX1_readStanding 70 (.if_icmp .eq) 74 73 := ⟨4, by decide +kernel, by decide, rfl⟩
theorem dX1_readStanding_73 : ml_d cX1_readStanding 73 (.return_) 1 74 := ⟨by decide +kernel, rfl⟩
theorem dX1_readStanding_74 : ml_d cX1_readStanding 74 (.aload_n 0) 1 75 := ⟨by decide +kernel, rfl⟩
theorem dX1_readStanding_75 : ml_d cX1_readStanding 75 (.dup) 1 76 := ⟨by decide +kernel, rfl⟩
theorem dX1_readStanding_76 : ml_d cX1_readStanding 76 (.getfield 50) 3 79 := ⟨by decide +kernel, rfl⟩
theorem dX1_readStanding_79 : ml_d cX1_readStanding 79 (.iconst 1) 1 80 := ⟨by decide +kernel, rfl⟩
theorem dX1_readStanding_80 : ml_d cX1_readStanding 80 (.iadd) 1 81 := ⟨by decide +kernel, rfl⟩
theorem dX1_readStanding_81 : ml_d cX1_readStanding 81 (.putfield 50) 3 84 := ⟨by decide +kernel, rfl⟩
theorem dX1_readStanding_84 : ml_d cX1_readStanding 84 (.aload_n 0) 1 85 := ⟨by decide +kernel, rfl⟩
theorem dX1_readStanding_85 : ml_d cX1_readStanding 85 (.getfield 19) 3 88 := ⟨by decide +kernel, rfl⟩
theorem dX1_readStanding_88 : ml_d cX1_readStanding 88 (.iload_n 1) 1 89 := ⟨by decide +kernel, rfl⟩
theorem dX1_readStanding_89 : ml_d cX1_readStanding 89 (.aaload) 1 90 := ⟨by decide +kernel, rfl⟩
theorem dX1_readStanding_90 : ml_d cX1_readStanding 90 (.dup) 1 91 := ⟨by decide +kernel, rfl⟩
theorem dX1_readStanding_91 : ml_d cX1_readStanding 91 (.getfield 74) 3 94 := ⟨by decide +kernel, rfl⟩
theorem dX1_readStanding_94 : ml_d cX1_readStanding 94 (.iconst 1) 1 95 := ⟨by decide +kernel, rfl⟩
theorem dX1_readStanding_95 : ml_d cX1_readStanding 95 (.iload_n 3) 1 96 := ⟨by decide +kernel, rfl⟩
theorem dX1_readStanding_96 : ml_d cX1_readStanding 96 (.ishl) 1 97 := ⟨by decide +kernel, rfl⟩
theorem dX1_readStanding_97 : ml_d cX1_readStanding 97 (.ior) 1 98 := ⟨by decide +kernel, rfl⟩
theorem dX1_readStanding_98 : ml_d cX1_readStanding 98 (.putfield 74) 3 101 := ⟨by decide +kernel, rfl⟩
theorem dX1_readStanding_101 : ml_d cX1_readStanding 101 (.aload_n 0) 1 102 := ⟨by decide +kernel, rfl⟩
theorem dX1_readStanding_102 : ml_d cX1_readStanding 102 (.getfield 19) 3 105 := ⟨by decide +kernel, rfl⟩
theorem dX1_readStanding_105 : ml_d cX1_readStanding 105 (.iload_n 3) 1 106 := ⟨by decide +kernel, rfl⟩
theorem dX1_readStanding_106 : ml_d cX1_readStanding 106 (.aaload) 1 107 := ⟨by decide +kernel, rfl⟩
theorem dX1_readStanding_107 : ml_d cX1_readStanding 107 (.dup) 1 108 := ⟨by decide +kernel, rfl⟩
theorem dX1_readStanding_108 : ml_d cX1_readStanding 108 (.getfield 77) 3 111 := ⟨by decide +kernel, rfl⟩
theorem dX1_readStanding_111 : ml_d cX1_readStanding 111 (.iconst 1) 1 112 := ⟨by decide +kernel, rfl⟩
theorem dX1_readStanding_112 : ml_d cX1_readStanding 112 (.iload_n 1) 1 113 := ⟨by decide +kernel, rfl⟩
theorem dX1_readStanding_113 : ml_d cX1_readStanding 113 (.ishl) 1 114 := ⟨by decide +kernel, rfl⟩
theorem dX1_readStanding_114 : ml_d cX1_readStanding 114 (.ior) 1 115 := ⟨by decide +kernel, rfl⟩
theorem dX1_readStanding_115 : ml_d cX1_readStanding 115 (.putfield 77) 3 118 := ⟨by decide +kernel, rfl⟩
theorem dX1_readStanding_118 : ml_d cX1_readStanding 118 (.return_) 1 119 := ⟨by decide +kernel, rfl⟩
def fX1_readStanding_64 (l0 : Nat) (l1 : Int32) (l3 : Int32) (m : ml_M) : Option ml_M :=
    if (ml_K m l0).1 = 1 then
    if (ml_I m l0 4) = (-9 : Int32) then
    ml_let (ml_sI m l0 5 ((ml_I m l0 5) + (1 : Int32))) fun m986 =>
    ml_let (ml_R m986 l0 1) fun a988 =>
    if ml_in m986 a988 30 l1 then
    ml_let (ml_R m986 a988 l1.toNatClampNeg) fun a990 =>
    if (ml_K m986 a990).1 = 9 then
    ml_let (ml_sI m986 a990 2 ((ml_I m986 a990 2) ||| ((1 : Int32) <<< (l3 &&& 31)))) fun m992 =>
    ml_let (ml_R m992 l0 1) fun a994 =>
    if ml_in m992 a994 30 l3 then
    ml_let (ml_R m992 a994 l3.toNatClampNeg) fun a996 =>
    if (ml_K m992 a996).1 = 9 then
    ml_let (ml_sI m992 a996 3 ((ml_I m992 a996 3) ||| ((1 : Int32) <<< (l1 &&& 31)))) fun m998 =>
    some m998
    else none
    else none
    else none
    else none
    else
    some m
    else none
theorem vX1_readStanding_64 {E : ml_E} (hL : ml_eL E = 4) {rm : ml_M} (hr : ∀ (pc pc' : Nat) (lv : List (Nat × ml_X)), ml_d cX1_readStanding pc .return_ 1 pc' → True → ml_V E "LostRoom$Book" cX1_readStanding 4 false rm pc lv []) : ∀ (l0 : Nat) (l1 : Int32) (l3 : Int32) (m : ml_M), fX1_readStanding_64 l0 l1 l3 m = some rm → ml_V E "LostRoom$Book" cX1_readStanding 4 false m 64 [(0, ml_r l0), (1, ml_i l1), (3, ml_i l3)] [] := by
  intro l0 l1 l3 m h
  unfold fX1_readStanding_64 at h
  exact ml_aload_n dX1_readStanding_64 0 rfl <| ml_ck_of h fun hc985 h => ml_getI dX1_readStanding_65 wb_121 hc985 <| ml_bipush dX1_readStanding_68 kc_bm9 <| ml_icmp_eq dX1_readStanding_70 h (fun _ h => ml_aload_n dX1_readStanding_74 0 rfl <| ml_dup dX1_readStanding_75 rfl <| ml_getI dX1_readStanding_76 wb_146 hc985 <| ml_iconst dX1_readStanding_79 kc_i1 <| ml_iadd dX1_readStanding_80 <| ml_putI dX1_readStanding_81 wb_147 hc985 <| ml_lt (m := m) rfl h fun m986 em987 h => ml_aload_n dX1_readStanding_84 0 rfl <| ml_getR dX1_readStanding_85 wb_141 (ml_kk em987 hc985) <| ml_lx (mk := ml_r) h fun a988 h => ml_iload_n dX1_readStanding_88 1 rfl <| ml_ck_of h fun hi989 h => ml_aald (kd := 30) dX1_readStanding_89 (by decide) hi989 <| ml_lx (mk := ml_r) h fun a990 h => ml_dup dX1_readStanding_90 rfl <| ml_ck_of h fun hc991 h => ml_getI dX1_readStanding_91 wb_148 hc991 <| ml_iconst dX1_readStanding_94 kc_i1 <| ml_iload_n dX1_readStanding_95 2 rfl <| ml_ishl dX1_readStanding_96 <| ml_ior dX1_readStanding_97 <| ml_putI dX1_readStanding_98 wb_149 hc991 <| ml_lt (m := m986) rfl h fun m992 em993 h => ml_aload_n dX1_readStanding_101 0 rfl <| ml_getR dX1_readStanding_102 wb_141 (ml_kk em993 (ml_kk em987 hc985)) <| ml_lx (mk := ml_r) h fun a994 h => ml_iload_n dX1_readStanding_105 2 rfl <| ml_ck_of h fun hi995 h => ml_aald (kd := 30) dX1_readStanding_106 (by decide) hi995 <| ml_lx (mk := ml_r) h fun a996 h => ml_dup dX1_readStanding_107 rfl <| ml_ck_of h fun hc997 h => ml_getI dX1_readStanding_108 wb_150 hc997 <| ml_iconst dX1_readStanding_111 kc_i1 <| ml_iload_n dX1_readStanding_112 1 rfl <| ml_ishl dX1_readStanding_113 <| ml_ior dX1_readStanding_114 <| ml_putI dX1_readStanding_115 wb_151 hc997 <| ml_lt (m := m992) rfl h fun m998 em999 h => ml_rv hr dX1_readStanding_118 trivial h) (fun _ h => ml_rv hr dX1_readStanding_73 trivial h)
def fX1_readStanding (l0 : Nat) (m : ml_M) : Option ml_M :=
    if (ml_K m l0).1 = 1 then
    ml_let (ml_sI m l0 7 ((ml_I m l0 7) + (1 : Int32))) fun m1001 =>
    ml_b2 (fX1_readFigure l0 (0 : Int32) ((ml_I m1001 l0 3) - (1 : Int32)) m1001) fun r1004 m1005 =>
    if (ml_K m1005 l0).1 = 1 then
    ml_b1 (fX1_readSign l0 (47 : Int32) m1005) fun m1008 =>
    if (ml_K m1008 l0).1 = 1 then
    ml_let (ml_I m1008 l0 7) fun x1010 =>
    ml_b2 (fX1_readFigure l0 (0 : Int32) ((ml_I m1008 l0 3) - (1 : Int32)) m1008) fun r1012 m1013 =>
    if (ml_K m1013 l0).1 = 1 then
    if (ml_I m1013 l0 4) = (-9 : Int32) then
    if r1012 = r1004 then
    ml_let (ml_sI m1013 l0 4 x1010) fun m1015 =>
    fX1_readStanding_64 l0 r1004 r1012 m1015
    else
    fX1_readStanding_64 l0 r1004 r1012 m1013
    else
    fX1_readStanding_64 l0 r1004 r1012 m1013
    else none
    else none
    else none
    else none
theorem wX1_readStanding_0 {E : ml_E} (hL : ml_eL E = 4) {rm : ml_M} (hr : ∀ (pc pc' : Nat) (lv : List (Nat × ml_X)), ml_d cX1_readStanding pc .return_ 1 pc' → True → ml_V E "LostRoom$Book" cX1_readStanding 4 false rm pc lv []) : ∀ (l0 : Nat) (m : ml_M), fX1_readStanding l0 m = some rm → ml_V E "LostRoom$Book" cX1_readStanding 4 false m 0 [(0, ml_r l0)] [] := by
  intro l0 m h
  unfold fX1_readStanding at h
  exact ml_aload_n dX1_readStanding_0 0 rfl <| ml_dup dX1_readStanding_1 rfl <| ml_ck_of h fun hc1000 h => ml_getI dX1_readStanding_2 wb_119 hc1000 <| ml_iconst dX1_readStanding_5 kc_i1 <| ml_iadd dX1_readStanding_6 <| ml_putI dX1_readStanding_7 wb_123 hc1000 <| ml_lt (m := m) rfl h fun m1001 em1002 h => ml_aload_n dX1_readStanding_10 0 rfl <| ml_iconst dX1_readStanding_11 kc_i0 <| ml_aload_n dX1_readStanding_12 0 rfl <| ml_getI dX1_readStanding_13 wb_142 (ml_kk em1002 hc1000) <| ml_iconst dX1_readStanding_16 kc_i1 <| ml_isub dX1_readStanding_17 <| ml_b2_of h fun r1004 m1005 hv1003 h => ml_callV dX1_readStanding_18 wm_177 wb_124 (ml_kk em1002 hc1000) (sX1_readFigure hv1003) rfl (Nat.le_of_ble_eq_true rfl) (Nat.le_of_ble_eq_true rfl) rfl <| ml_istore_n (lv' := [(1, ml_i r1004), (0, ml_r l0)]) dX1_readStanding_21 (ml_hn hL rfl) rfl <| ml_aload_n dX1_readStanding_22 1 rfl <| ml_bipush dX1_readStanding_23 kc_b47 <| ml_ck_of h fun hc1007 h => ml_b1_of h fun m1008 hv1006 h => ml_callV dX1_readStanding_25 wm_187 wb_131 hc1007 (sX1_readSign hv1006) rfl (Nat.le_of_ble_eq_true rfl) (Nat.le_of_ble_eq_true rfl) rfl <| ml_aload_n dX1_readStanding_28 1 rfl <| ml_ck_of h fun hc1009 h => ml_getI dX1_readStanding_29 wb_119 hc1009 <| ml_lx (mk := ml_i) h fun x1010 h => ml_istore_n (lv' := [(2, ml_i x1010), (1, ml_i r1004), (0, ml_r l0)]) dX1_readStanding_32 (ml_hn hL rfl) rfl <| ml_aload_n dX1_readStanding_33 2 rfl <| ml_iconst dX1_readStanding_34 kc_i0 <| ml_aload_n dX1_readStanding_35 2 rfl <| ml_getI dX1_readStanding_36 wb_142 hc1009 <| ml_iconst dX1_readStanding_39 kc_i1 <| ml_isub dX1_readStanding_40 <| ml_b2_of h fun r1012 m1013 hv1011 h => ml_callV dX1_readStanding_41 wm_177 wb_124 hc1009 (sX1_readFigure hv1011) rfl (Nat.le_of_ble_eq_true rfl) (Nat.le_of_ble_eq_true rfl) rfl <| ml_istore_n (lv' := [(3, ml_i r1012), (2, ml_i x1010), (1, ml_i r1004), (0, ml_r l0)]) dX1_readStanding_44 (ml_hn hL rfl) rfl <| ml_aload_n dX1_readStanding_45 3 rfl <| ml_ck_of h fun hc1014 h => ml_getI dX1_readStanding_46 wb_121 hc1014 <| ml_bipush dX1_readStanding_49 kc_bm9 <| ml_icmp_ne dX1_readStanding_51 h (fun _ h => ml_V.sub [3, 2, 0] rfl (vX1_readStanding_64 hL hr  _ _ _ _ h)) (fun _ h => ml_iload_n dX1_readStanding_54 0 rfl <| ml_iload_n dX1_readStanding_55 2 rfl <| ml_icmp_ne dX1_readStanding_56 h (fun _ h => ml_V.sub [3, 2, 0] rfl (vX1_readStanding_64 hL hr  _ _ _ _ h)) (fun _ h => ml_aload_n dX1_readStanding_59 3 rfl <| ml_iload_n dX1_readStanding_60 1 rfl <| ml_putI dX1_readStanding_61 wb_120 hc1014 <| ml_lt (m := m1013) rfl h fun m1015 em1016 h => ml_V.sub [3, 2, 0] rfl (vX1_readStanding_64 hL hr  _ _ _ _ h)))
theorem sX1_readStanding {l0 : Nat} {m : ml_M} {rm : ml_M} (h : fX1_readStanding l0 m = some rm) : ml_Sn yX1_readStanding cX1_readStanding 4 none 4 [ml_r l0] m none rm :=
  ml_Sn_of (P := True) (ini := false) (by decide +kernel) (Nat.le_of_ble_eq_true rfl) (fun h => by cases h) (fun _ => ml_RkV) fun E hL hr => wX1_readStanding_0 hL hr _ _ h
theorem dX1_readItem_0 : ml_d cX1_readItem 0 (.iload_n 1) 1 1 := ⟨by decide +kernel, rfl⟩
theorem dX1_readItem_1 : ml_d cX1_readItem 1 (.bipush 32) 2 3 := ⟨by decide +kernel, rfl⟩
theorem dX1_readItem_3 : ml_j cX1_readItem 3 (.if_icmp .ne) 19 6 := ⟨16, by decide +kernel, by decide, rfl⟩
theorem dX1_readItem_6 : ml_d cX1_readItem 6 (.aload_n 0) 1 7 := ⟨by decide +kernel, rfl⟩
theorem dX1_readItem_7 : ml_d cX1_readItem 7 (.dup) 1 8 := ⟨by decide +kernel, rfl⟩
theorem dX1_readItem_8 : ml_d cX1_readItem 8 (.getfield 31) 3 11 := ⟨by decide +kernel, rfl⟩
theorem dX1_readItem_11 : ml_d cX1_readItem 11 (.iconst 1) 1 12 := ⟨by decide +kernel, rfl⟩
theorem dX1_readItem_12 : ml_d cX1_readItem 12 (.iadd) 1 13 := ⟨by decide +kernel, rfl⟩
theorem dX1_readItem_13 : ml_d cX1_readItem 13 (.putfield 31) 3 16 := ⟨by decide +kernel, rfl⟩
theorem dX1_readItem_16 : ml_j cX1_readItem 16 .goto 93 19 := ⟨77, by decide +kernel, by decide, rfl⟩
theorem dX1_readItem_19 : ml_d cX1_readItem 19 (.iload_n 1) 1 20 := ⟨by decide +kernel, rfl⟩
theorem dX1_readItem_20 : ml_d cX1_readItem 20 (.bipush 108) 2 22 := ⟨by decide +kernel, rfl⟩
theorem dX1_readItem_22 : ml_j cX1_readItem 22 (.if_icmp .ne) 41 25 := ⟨19, by decide +kernel, by decide, rfl⟩
theorem dX1_readItem_25 : ml_d cX1_readItem 25 (.aload_n 0) 1 26 := ⟨by decide +kernel, rfl⟩
theorem dX1_readItem_26 : ml_d cX1_readItem 26 (.getfield 38) 3 29 := ⟨by decide +kernel, rfl⟩
theorem dX1_readItem_29 : ml_d cX1_readItem 29 (.bipush 8) 2 31 := ⟨by decide +kernel, rfl⟩
theorem dX1_readItem_31 : ml_j cX1_readItem 31 (.if_icmp .ge) 41 34 := ⟨10, by decide +kernel, by decide, rfl⟩
theorem dX1_readItem_34 : ml_d cX1_readItem 34 (.aload_n 0) 1 35 := ⟨by decide +kernel, rfl⟩
theorem dX1_readItem_35 : ml_d cX1_readItem 35 (.invokevirtual 41) 3 38 := ⟨by decide +kernel, rfl⟩
theorem dX1_readItem_38 : ml_j cX1_readItem 38 .goto 93 41 := ⟨55, by decide +kernel, by decide, rfl⟩
theorem dX1_readItem_41 : ml_d cX1_readItem 41 (.iload_n 1) 1 42 := ⟨by decide +kernel, rfl⟩
theorem dX1_readItem_42 : ml_d cX1_readItem 42 (.bipush 107) 2 44 := ⟨by decide +kernel, rfl⟩
theorem dX1_readItem_44 : ml_j cX1_readItem 44 (.if_icmp .ne) 63 47 := ⟨19, by decide +kernel, by decide, rfl⟩
theorem dX1_readItem_47 : ml_d cX1_readItem 47 (.aload_n 0) 1 48 := ⟨by decide +kernel, rfl⟩
theorem dX1_readItem_48 : ml_d cX1_readItem 48 (.getfield 44) 3 51 := ⟨by decide +kernel, rfl⟩
theorem dX1_readItem_51 : ml_d cX1_readItem 51 (.bipush 8) 2 53 := ⟨by decide +kernel, rfl⟩
theorem dX1_readItem_53 : ml_j cX1_readItem 53 (.if_icmp .ge) 63 56 := ⟨10, by decide +kernel, by decide, rfl⟩
theorem dX1_readItem_56 : ml_d cX1_readItem 56 (.aload_n 0) 1 57 := ⟨by decide +kernel, rfl⟩
theorem dX1_readItem_57 : ml_d cX1_readItem 57 (.invokevirtual 47) 3 60 := ⟨by decide +kernel, rfl⟩
theorem dX1_readItem_60 : ml_j cX1_readItem 60 .goto 93 63 := ⟨33, by decide +kernel, by decide, rfl⟩
theorem dX1_readItem_63 : ml_d cX1_readItem 63 (.iload_n 1) 1 64 := ⟨by decide +kernel, rfl⟩
theorem dX1_readItem_64 : ml_d cX1_readItem 64 (.bipush 117) 2 66 := ⟨by decide +kernel, rfl⟩
theorem dX1_readItem_66 : ml_j cX1_readItem 66 (.if_icmp .ne) 85 69 := ⟨19, by decide +kernel, by decide, rfl⟩
theorem dX1_readItem_69 : ml_d cX1_readItem 69 (.aload_n 0) 1 70 := ⟨by decide +kernel, rfl⟩
theorem dX1_readItem_70 : ml_d cX1_readItem 70 (.getfield 50) 3 73 := ⟨by decide +kernel, rfl⟩
theorem dX1_readItem_73 : ml_d cX1_readItem 73 (.bipush 12) 2 75 := ⟨by decide +kernel, rfl⟩
theorem dX1_readItem_75 : ml_j cX1_readItem 75 (.if_icmp .ge) 85 78 := ⟨10, by decide +kernel, by decide, rfl⟩
theorem dX1_readItem_78 : ml_d cX1_readItem 78 (.aload_n 0) 1 79 := ⟨by decide +kernel, rfl⟩
theorem dX1_readItem_79 : ml_d cX1_readItem 79 (.invokevirtual 53) 3 82 := ⟨by decide +kernel, rfl⟩
theorem dX1_readItem_82 : ml_j cX1_readItem 82 .goto 93 85 := ⟨11, by decide +kernel, by decide, rfl⟩
theorem dX1_readItem_85 : ml_d cX1_readItem 85 (.aload_n 0) 1 86 := ⟨by decide +kernel, rfl⟩
theorem dX1_readItem_86 : ml_d cX1_readItem 86 (.aload_n 0) 1 87 := ⟨by decide +kernel, rfl⟩
theorem dX1_readItem_87 : ml_d cX1_readItem 87 (.getfield 31) 3 90 := ⟨by decide +kernel, rfl⟩
theorem dX1_readItem_90 : ml_d cX1_readItem 90 (.putfield 23) 3 93 := ⟨by decide +kernel, rfl⟩
theorem dX1_readItem_93 : ml_d cX1_readItem 93 (.return_) 1 94 := ⟨by decide +kernel, rfl⟩
def fX1_readItem_85 (l0 : Nat) (m : ml_M) : Option ml_M :=
    if (ml_K m l0).1 = 1 then
    ml_let (ml_sI m l0 4 (ml_I m l0 7)) fun m1018 =>
    some m1018
    else none
theorem vX1_readItem_85 {E : ml_E} (hL : ml_eL E = 2) {rm : ml_M} (hr : ∀ (pc pc' : Nat) (lv : List (Nat × ml_X)), ml_d cX1_readItem pc .return_ 1 pc' → True → ml_V E "LostRoom$Book" cX1_readItem 6 false rm pc lv []) : ∀ (l0 : Nat) (m : ml_M), fX1_readItem_85 l0 m = some rm → ml_V E "LostRoom$Book" cX1_readItem 6 false m 85 [(0, ml_r l0)] [] := by
  intro l0 m h
  unfold fX1_readItem_85 at h
  exact ml_aload_n dX1_readItem_85 0 rfl <| ml_aload_n dX1_readItem_86 0 rfl <| ml_ck_of h fun hc1017 h => ml_getI dX1_readItem_87 wb_119 hc1017 <| ml_putI dX1_readItem_90 wb_120 hc1017 <| ml_lt (m := m) rfl h fun m1018 em1019 h => ml_rv hr dX1_readItem_93 trivial h
def fX1_readItem_63 (l0 : Nat) (l1 : Int32) (m : ml_M) : Option ml_M :=
    if l1 = (117 : Int32) then
    if (ml_K m l0).1 = 1 then
    if (12 : Int32) ≤ (ml_I m l0 5) then
    fX1_readItem_85 l0 m
    else
    ml_b1 (fX1_readStanding l0 m) fun m1022 =>
    some m1022
    else none
    else
    fX1_readItem_85 l0 m
theorem vX1_readItem_63 {E : ml_E} (hL : ml_eL E = 2) {rm : ml_M} (hr : ∀ (pc pc' : Nat) (lv : List (Nat × ml_X)), ml_d cX1_readItem pc .return_ 1 pc' → True → ml_V E "LostRoom$Book" cX1_readItem 6 false rm pc lv []) : ∀ (l0 : Nat) (l1 : Int32) (m : ml_M), fX1_readItem_63 l0 l1 m = some rm → ml_V E "LostRoom$Book" cX1_readItem 6 false m 63 [(0, ml_r l0), (1, ml_i l1)] [] := by
  intro l0 l1 m h
  unfold fX1_readItem_63 at h
  exact ml_iload_n dX1_readItem_63 1 rfl <| ml_bipush dX1_readItem_64 kc_b117 <| ml_icmp_ne dX1_readItem_66 h (fun _ h => ml_V.sub [0] rfl (vX1_readItem_85 hL hr  _ _ h)) (fun _ h => ml_aload_n dX1_readItem_69 0 rfl <| ml_ck_of h fun hc1020 h => ml_getI dX1_readItem_70 wb_146 hc1020 <| ml_bipush dX1_readItem_73 kc_b12 <| ml_icmp_ge dX1_readItem_75 h (fun _ h => ml_V.sub [0] rfl (vX1_readItem_85 hL hr  _ _ h)) (fun _ h => ml_aload_n dX1_readItem_78 0 rfl <| ml_b1_of h fun m1022 hv1021 h => ml_callV dX1_readItem_79 wm_213 wb_152 hc1020 (sX1_readStanding hv1021) rfl (Nat.le_of_ble_eq_true rfl) (Nat.le_of_ble_eq_true rfl) rfl <| ml_goto dX1_readItem_82 <| ml_rv hr dX1_readItem_93 trivial h))
def fX1_readItem_41 (l0 : Nat) (l1 : Int32) (m : ml_M) : Option ml_M :=
    if l1 = (107 : Int32) then
    if (ml_K m l0).1 = 1 then
    if (8 : Int32) ≤ (ml_I m l0 3) then
    fX1_readItem_63 l0 l1 m
    else
    ml_b1 (fX1_readTrunk l0 m) fun m1025 =>
    some m1025
    else none
    else
    fX1_readItem_63 l0 l1 m
theorem vX1_readItem_41 {E : ml_E} (hL : ml_eL E = 2) {rm : ml_M} (hr : ∀ (pc pc' : Nat) (lv : List (Nat × ml_X)), ml_d cX1_readItem pc .return_ 1 pc' → True → ml_V E "LostRoom$Book" cX1_readItem 6 false rm pc lv []) : ∀ (l0 : Nat) (l1 : Int32) (m : ml_M), fX1_readItem_41 l0 l1 m = some rm → ml_V E "LostRoom$Book" cX1_readItem 6 false m 41 [(0, ml_r l0), (1, ml_i l1)] [] := by
  intro l0 l1 m h
  unfold fX1_readItem_41 at h
  exact ml_iload_n dX1_readItem_41 1 rfl <| ml_bipush dX1_readItem_42 kc_b107 <| ml_icmp_ne dX1_readItem_44 h (fun _ h => ml_V.sub [0, 1] rfl (vX1_readItem_63 hL hr  _ _ _ h)) (fun _ h => ml_aload_n dX1_readItem_47 0 rfl <| ml_ck_of h fun hc1023 h => ml_getI dX1_readItem_48 wb_142 hc1023 <| ml_bipush dX1_readItem_51 kc_b8 <| ml_icmp_ge dX1_readItem_53 h (fun _ h => ml_V.sub [0, 1] rfl (vX1_readItem_63 hL hr  _ _ _ h)) (fun _ h => ml_aload_n dX1_readItem_56 0 rfl <| ml_b1_of h fun m1025 hv1024 h => ml_callV dX1_readItem_57 wm_217 wb_153 hc1023 (sX1_readTrunk hv1024) rfl (Nat.le_of_ble_eq_true rfl) (Nat.le_of_ble_eq_true rfl) rfl <| ml_goto dX1_readItem_60 <| ml_rv hr dX1_readItem_93 trivial h))
def fX1_readItem (l0 : Nat) (l1 : Int32) (m : ml_M) : Option ml_M :=
    if l1 = (32 : Int32) then
    if (ml_K m l0).1 = 1 then
    ml_let (ml_sI m l0 7 ((ml_I m l0 7) + (1 : Int32))) fun m1030 =>
    some m1030
    else none
    else
    if l1 = (108 : Int32) then
    if (ml_K m l0).1 = 1 then
    if (8 : Int32) ≤ (ml_I m l0 2) then
    fX1_readItem_41 l0 l1 m
    else
    ml_b1 (fX1_readLodger l0 m) fun m1028 =>
    some m1028
    else none
    else
    fX1_readItem_41 l0 l1 m
theorem wX1_readItem_0 {E : ml_E} (hL : ml_eL E = 2) {rm : ml_M} (hr : ∀ (pc pc' : Nat) (lv : List (Nat × ml_X)), ml_d cX1_readItem pc .return_ 1 pc' → True → ml_V E "LostRoom$Book" cX1_readItem 6 false rm pc lv []) : ∀ (l0 : Nat) (l1 : Int32) (m : ml_M), fX1_readItem l0 l1 m = some rm → ml_V E "LostRoom$Book" cX1_readItem 6 false m 0 [(0, ml_r l0), (1, ml_i l1)] [] := by
  intro l0 l1 m h
  unfold fX1_readItem at h
  exact ml_iload_n dX1_readItem_0 1 rfl <| ml_bipush dX1_readItem_1 kc_b32 <| ml_icmp_ne dX1_readItem_3 h (fun _ h => ml_iload_n dX1_readItem_19 1 rfl <| ml_bipush dX1_readItem_20 kc_b108 <| ml_icmp_ne dX1_readItem_22 h (fun _ h => ml_V.sub [0, 1] rfl (vX1_readItem_41 hL hr  _ _ _ h)) (fun _ h => ml_aload_n dX1_readItem_25 0 rfl <| ml_ck_of h fun hc1026 h => ml_getI dX1_readItem_26 wb_133 hc1026 <| ml_bipush dX1_readItem_29 kc_b8 <| ml_icmp_ge dX1_readItem_31 h (fun _ h => ml_V.sub [0, 1] rfl (vX1_readItem_41 hL hr  _ _ _ h)) (fun _ h => ml_aload_n dX1_readItem_34 0 rfl <| ml_b1_of h fun m1028 hv1027 h => ml_callV dX1_readItem_35 wm_221 wb_154 hc1026 (sX1_readLodger hv1027) rfl (Nat.le_of_ble_eq_true rfl) (Nat.le_of_ble_eq_true rfl) rfl <| ml_goto dX1_readItem_38 <| ml_rv hr dX1_readItem_93 trivial h))) (fun _ h => ml_aload_n dX1_readItem_6 0 rfl <| ml_dup dX1_readItem_7 rfl <| ml_ck_of h fun hc1029 h => ml_getI dX1_readItem_8 wb_119 hc1029 <| ml_iconst dX1_readItem_11 kc_i1 <| ml_iadd dX1_readItem_12 <| ml_putI dX1_readItem_13 wb_123 hc1029 <| ml_lt (m := m) rfl h fun m1030 em1031 h => ml_goto dX1_readItem_16 <| ml_rv hr dX1_readItem_93 trivial h)
theorem sX1_readItem {l0 : Nat} {l1 : Int32} {m : ml_M} {rm : ml_M} (h : fX1_readItem l0 l1 m = some rm) : ml_Sn yX1_readItem cX1_readItem 2 none 6 [ml_r l0, ml_i l1] m none rm :=
  ml_Sn_of (P := True) (ini := false) (by decide +kernel) (Nat.le_of_ble_eq_true rfl) (fun h => by cases h) (fun _ => ml_RkV) fun E hL hr => wX1_readItem_0 hL hr _ _ _ h
theorem dX1_read_0 : ml_d cX1_read 0 (.iconst 0) 1 1 := ⟨by decide +kernel, rfl⟩
theorem dX1_read_1 : ml_d cX1_read 1 (.istore_n 1) 1 2 := ⟨by decide +kernel, rfl⟩
theorem dX1_read_2 : ml_d cX1_read 2 (.iload_n 1) 1 3 := ⟨by decide +kernel, rfl⟩
theorem dX1_read_3 : ml_d cX1_read 3 (.aload_n 0) 1 4 := ⟨by decide +kernel, rfl⟩
theorem dX1_read_4 : ml_d cX1_read 4 (.getfield 27) 3 7 := ⟨by decide +kernel, rfl⟩
theorem dX1_read_7 : ml_d cX1_read 7 (.arraylength) 1 8 := ⟨by decide +kernel, rfl⟩
theorem dX1_read_8 : ml_j cX1_read 8 (.if_icmp .ge) 51 11 := ⟨43, by decide +kernel, by decide, rfl⟩
theorem dX1_read_11 : ml_d cX1_read 11 (.aload_n 0) 1 12 := ⟨by decide +kernel, rfl⟩
theorem dX1_read_12 : ml_d cX1_read 12 (.getfield 23) 3 15 := ⟨by decide +kernel, rfl⟩
theorem dX1_read_15 : ml_d cX1_read 15 (.bipush (-9)) 2 17 := ⟨by decide +kernel, rfl⟩
theorem dX1_read_17 : ml_j cX1_read 17 (.if_icmp .ne) 45 20 := ⟨28, by decide +kernel, by decide, rfl⟩
theorem dX1_read_20 : ml_d cX1_read 20 (.aload_n 0) 1 21 := ⟨by decide +kernel, rfl⟩
theorem dX1_read_21 : ml_d cX1_read 21 (.getfield 31) 3 24 := ⟨by decide +kernel, rfl⟩
theorem dX1_read_24 : ml_d cX1_read 24 (.aload_n 0) 1 25 := ⟨by decide +kernel, rfl⟩
theorem dX1_read_25 : ml_d cX1_read 25 (.getfield 27) 3 28 := ⟨by decide +kernel, rfl⟩
theorem dX1_read_28 : ml_d cX1_read 28 (.arraylength) 1 29 := ⟨by decide +kernel, rfl⟩
theorem dX1_read_29 : ml_j cX1_read 29 (.if_icmp .ge) 45 32 := ⟨16, by decide +kernel, by decide, rfl⟩
theorem dX1_read_32 : ml_d cX1_read 32 (.aload_n 0) 1 33 := ⟨by decide +kernel, rfl⟩
theorem dX1_read_33 : ml_d cX1_read 33 (.aload_n 0) 1 34 := ⟨by decide +kernel, rfl⟩
theorem dX1_read_34 : ml_d cX1_read 34 (.getfield 27) 3 37 := ⟨by decide +kernel, rfl⟩
theorem dX1_read_37 : ml_d cX1_read 37 (.aload_n 0) 1 38 := ⟨by decide +kernel, rfl⟩
theorem dX1_read_38 : ml_d cX1_read 38 (.getfield 31) 3 41 := ⟨by decide +kernel, rfl⟩
theorem dX1_read_41 : ml_d cX1_read 41 (.baload) 1 42 := ⟨by decide +kernel, rfl⟩
theorem dX1_read_42 : ml_d cX1_read 42 (.invokevirtual 34) 3 45 := ⟨by decide +kernel, rfl⟩
theorem dX1_read_45 : ml_d cX1_read 45 (.iinc 1 1) 3 48 := ⟨by decide +kernel, rfl⟩
theorem dX1_read_48 : ml_j cX1_read 48 .goto 2 51 := ⟨(-46), by decide +kernel, by decide, rfl⟩
theorem dX1_read_51 : ml_d cX1_read 51 (.return_) 1 52 := ⟨by decide +kernel, rfl⟩
def fX1_read_45 (k2 : Nat → Int32 → ml_M → Option ml_M) (l0 : Nat) (l1 : Int32) (m : ml_M) : Option ml_M :=
    k2 l0 (l1 + (1 : Int32)) m
theorem vX1_read_45 {E : ml_E} (hL : ml_eL E = 2) {rm : ml_M} (hr : ∀ (pc pc' : Nat) (lv : List (Nat × ml_X)), ml_d cX1_read pc .return_ 1 pc' → True → ml_V E "LostRoom$Book" cX1_read 7 false rm pc lv []) {k2 : Nat → Int32 → ml_M → Option ml_M} (hk2 : ∀ (l0 : Nat) (l1 : Int32) (m : ml_M), k2 l0 l1 m = some rm → ml_V E "LostRoom$Book" cX1_read 7 false m 2 [(0, ml_r l0), (1, ml_i l1)] []) : ∀ (l0 : Nat) (l1 : Int32) (m : ml_M), fX1_read_45 k2 l0 l1 m = some rm → ml_V E "LostRoom$Book" cX1_read 7 false m 45 [(0, ml_r l0), (1, ml_i l1)] [] := by
  intro l0 l1 m h
  unfold fX1_read_45 at h
  exact ml_iinc (lv' := [(1, ml_i (l1 + (1 : Int32))), (0, ml_r l0)]) dX1_read_45 1 rfl (congrArg (l1 + ·) kc_i1) (ml_hn hL rfl) rfl <| ml_goto dX1_read_48 <| ml_V.sub [1, 0] rfl (hk2 _ _ _ h)
def fX1_read_2 : Nat → Nat → Int32 → ml_M → Option ml_M
  | 0, _, _, _ => none
  | fu + 1, l0, l1, m =>
    if (ml_K m l0).1 = 1 then
    ml_let (ml_R m l0 6) fun a1033 =>
    if (ml_K m a1033).1 = 21 then
    if (Int32.ofNat (ml_K m a1033).2) ≤ l1 then
    some m
    else
    if (ml_I m l0 4) = (-9 : Int32) then
    ml_let (ml_R m l0 6) fun a1035 =>
    if (ml_K m a1035).1 = 21 then
    if (Int32.ofNat (ml_K m a1035).2) ≤ (ml_I m l0 7) then
    fX1_read_45 (fX1_read_2 fu) l0 l1 m
    else
    ml_let (ml_R m l0 6) fun a1037 =>
    if ml_in m a1037 21 (ml_I m l0 7) then
    ml_b1 (fX1_readItem l0 (ml_I m a1037 (ml_I m l0 7).toNatClampNeg) m) fun m1040 =>
    fX1_read_45 (fX1_read_2 fu) l0 l1 m1040
    else none
    else none
    else
    fX1_read_45 (fX1_read_2 fu) l0 l1 m
    else none
    else none
theorem vX1_read_2 {E : ml_E} (hL : ml_eL E = 2) {rm : ml_M} (hr : ∀ (pc pc' : Nat) (lv : List (Nat × ml_X)), ml_d cX1_read pc .return_ 1 pc' → True → ml_V E "LostRoom$Book" cX1_read 7 false rm pc lv []) : ∀ (fu : Nat) (l0 : Nat) (l1 : Int32) (m : ml_M), fX1_read_2 fu l0 l1 m = some rm → ml_V E "LostRoom$Book" cX1_read 7 false m 2 [(0, ml_r l0), (1, ml_i l1)] [] := by
  intro fu
  induction fu with
  | zero => intro l0 l1 m h; exact ml_none h
  | succ fu ih =>
    intro l0 l1 m h
    have hk2 := ih
    unfold fX1_read_2 at h
    exact ml_iload_n dX1_read_2 1 rfl <| ml_aload_n dX1_read_3 0 rfl <| ml_ck_of h fun hc1032 h => ml_getR dX1_read_4 wb_122 hc1032 <| ml_lx (mk := ml_r) h fun a1033 h => ml_ck_of h fun hc1034 h => ml_alen (kd := 21) dX1_read_7 (by decide) hc1034 <| ml_icmp_ge dX1_read_8 h (fun _ h => ml_rv hr dX1_read_51 trivial h) (fun _ h => ml_aload_n dX1_read_11 0 rfl <| ml_getI dX1_read_12 wb_121 hc1032 <| ml_bipush dX1_read_15 kc_bm9 <| ml_icmp_ne dX1_read_17 h (fun _ h => ml_V.sub [0, 1] rfl (vX1_read_45 hL hr hk2 _ _ _ h)) (fun _ h => ml_aload_n dX1_read_20 0 rfl <| ml_getI dX1_read_21 wb_119 hc1032 <| ml_aload_n dX1_read_24 0 rfl <| ml_getR dX1_read_25 wb_122 hc1032 <| ml_lx (mk := ml_r) h fun a1035 h => ml_ck_of h fun hc1036 h => ml_alen (kd := 21) dX1_read_28 (by decide) hc1036 <| ml_icmp_ge dX1_read_29 h (fun _ h => ml_V.sub [0, 1] rfl (vX1_read_45 hL hr hk2 _ _ _ h)) (fun _ h => ml_aload_n dX1_read_32 0 rfl <| ml_aload_n dX1_read_33 0 rfl <| ml_getR dX1_read_34 wb_122 hc1032 <| ml_lx (mk := ml_r) h fun a1037 h => ml_aload_n dX1_read_37 0 rfl <| ml_getI dX1_read_38 wb_119 hc1032 <| ml_ck_of h fun hi1038 h => ml_bald dX1_read_41 hi1038 <| ml_b1_of h fun m1040 hv1039 h => ml_callV dX1_read_42 wm_225 wb_155 hc1032 (sX1_readItem hv1039) rfl (Nat.le_of_ble_eq_true rfl) (Nat.le_of_ble_eq_true rfl) rfl <| ml_V.sub [0, 1] rfl (vX1_read_45 hL hr hk2 _ _ _ h))))
def fX1_read (l0 : Nat) (m : ml_M) : Option ml_M :=
    fX1_read_2 ml_fu l0 (0 : Int32) m
theorem wX1_read_0 {E : ml_E} (hL : ml_eL E = 2) {rm : ml_M} (hr : ∀ (pc pc' : Nat) (lv : List (Nat × ml_X)), ml_d cX1_read pc .return_ 1 pc' → True → ml_V E "LostRoom$Book" cX1_read 7 false rm pc lv []) : ∀ (l0 : Nat) (m : ml_M), fX1_read l0 m = some rm → ml_V E "LostRoom$Book" cX1_read 7 false m 0 [(0, ml_r l0)] [] := by
  intro l0 m h
  unfold fX1_read at h
  exact ml_iconst dX1_read_0 kc_i0 <| ml_istore_n (lv' := [(1, ml_i (0 : Int32)), (0, ml_r l0)]) dX1_read_1 (ml_hn hL rfl) rfl <| ml_V.sub [1, 0] rfl (vX1_read_2 hL hr  ml_fu _ _ _ h)
theorem sX1_read {l0 : Nat} {m : ml_M} {rm : ml_M} (h : fX1_read l0 m = some rm) : ml_Sn yX1_read cX1_read 2 none 7 [ml_r l0] m none rm :=
  ml_Sn_of (P := True) (ini := false) (by decide +kernel) (Nat.le_of_ble_eq_true rfl) (fun h => by cases h) (fun _ => ml_RkV) fun E hL hr => wX1_read_0 hL hr _ _ h
theorem dX10_fault_0 : ml_d cX10_fault 0 (.iload_n 1) 1 1 := ⟨by decide +kernel, rfl⟩
theorem dX10_fault_1 : ml_d cX10_fault 1 (.invokestatic 103) 3 4 := ⟨by decide +kernel, rfl⟩
theorem dX10_fault_4 : ml_j cX10_fault 4 (.ifCond .ne) 9 7 := ⟨5, by decide +kernel, by decide, rfl⟩
theorem dX10_fault_7 : ml_d cX10_fault 7 (.iconst (-1)) 1 8 := ⟨by decide +kernel, rfl⟩
theorem dX10_fault_8 : ml_d cX10_fault 8 (.ireturn) 1 9 := ⟨by decide +kernel, rfl⟩
theorem dX10_fault_9 : ml_d cX10_fault 9 (.aload_n 0) 1 10 := ⟨by decide +kernel, rfl⟩
theorem dX10_fault_10 : ml_d cX10_fault 10 (.getfield 17) 3 13 := ⟨by decide +kernel, rfl⟩
theorem dX10_fault_13 : ml_d cX10_fault 13 (.iload_n 1) 1 14 := ⟨by decide +kernel, rfl⟩
theorem dX10_fault_14 : ml_d cX10_fault 14 (.aaload) 1 15 := ⟨by decide +kernel, rfl⟩
theorem dX10_fault_15 : ml_d cX10_fault 15 (.astore_n 2) 1 16 := ⟨by decide +kernel, rfl⟩
theorem dX10_fault_16 : ml_d cX10_fault 16 (.aload_n 2) 1 17 := ⟨by decide +kernel, rfl⟩
theorem dX10_fault_17 : ml_j cX10_fault 17 .ifnonnull 26 20 := ⟨9, by decide +kernel, by decide, rfl⟩
theorem dX10_fault_20 : ml_d cX10_fault 20 (.aload_n 0) 1 21 := ⟨by decide +kernel, rfl⟩
theorem dX10_fault_21 : ml_d cX10_fault 21 (.iconst 1) 1 22 := ⟨by decide +kernel, rfl⟩
theorem dX10_fault_22 : ml_d cX10_fault 22 (.invokevirtual 86) 3 25 := ⟨by decide +kernel, rfl⟩
theorem dX10_fault_25 : ml_d cX10_fault 25 (.ireturn) 1 26 := ⟨by decide +kernel, rfl⟩
theorem dX10_fault_26 : ml_d cX10_fault 26 (.new 21) 3 29 := ⟨by decide +kernel, rfl⟩
theorem dX10_fault_29 : ml_d cX10_fault 29 (.dup) 1 30 := ⟨by decide +kernel, rfl⟩
theorem dX10_fault_30 : ml_d cX10_fault 30 (.aload_n 2) 1 31 := ⟨by decide +kernel, rfl⟩
theorem dX10_fault_31 : ml_d cX10_fault 31 (.invokespecial 23) 3 34 := ⟨by decide +kernel, rfl⟩
theorem dX10_fault_34 : ml_d cX10_fault 34 (.astore_n 3) 1 35 := ⟨by decide +kernel, rfl⟩
theorem dX10_fault_35 : ml_d cX10_fault 35 (.aload_n 3) 1 36 := ⟨by decide +kernel, rfl⟩
theorem dX10_fault_36 : ml_d cX10_fault 36 (.invokevirtual 112) 3 39 := ⟨by decide +kernel, rfl⟩
theorem dX10_fault_39 : ml_d cX10_fault 39 (.aload_n 3) 1 40 := ⟨by decide +kernel, rfl⟩
theorem dX10_fault_40 : ml_d cX10_fault 40 (.getfield 115) 3 43 := ⟨by decide +kernel, rfl⟩
theorem dX10_fault_43 : ml_d cX10_fault 43 (.ireturn) 1 44 := ⟨by decide +kernel, rfl⟩
def fX10_fault (l0 : Nat) (l1 : Int32) (m : ml_M) : Option (Int32 × ml_M) :=
    ml_b1 (fX10_isText l1 m) fun r1042 =>
    if r1042 = 0 then
    some ((-1 : Int32), m)
    else
    if (ml_K m l0).1 = 10 then
    ml_let (ml_R m l0 1) fun a1044 =>
    if ml_in m a1044 24 l1 then
    ml_let (ml_R m a1044 l1.toNatClampNeg) fun a1046 =>
    if a1046 = 0 then
    ml_b2 (fX10_found l0 (1 : Int32) m) fun r1058 m1059 =>
    some (r1058, m1059)
    else
    ml_let (ml_n m + 1) fun a1047 =>
    ml_let (ml_al m 1 0 8) fun m1048 =>
    ml_b1 (fX1_init a1047 a1046 m1048) fun m1052 =>
    if (ml_K m1052 a1047).1 = 1 then
    ml_b1 (fX1_read a1047 m1052) fun m1055 =>
    if (ml_K m1055 a1047).1 = 1 then
    some ((ml_I m1055 a1047 4), m1055)
    else none
    else none
    else none
    else none
theorem wX10_fault_0 {E : ml_E} (hL : ml_eL E = 4) {rv : Int32} {rm : ml_M} (hr : ∀ (pc pc' : Nat) (lv : List (Nat × ml_X)), ml_d cX10_fault pc .ireturn 1 pc' → True → ml_V E "LostRoom" cX10_fault 8 false rm pc lv [ml_i rv]) : ∀ (l0 : Nat) (l1 : Int32) (m : ml_M), fX10_fault l0 l1 m = some (rv, rm) → ml_V E "LostRoom" cX10_fault 8 false m 0 [(0, ml_r l0), (1, ml_i l1)] [] := by
  intro l0 l1 m h
  unfold fX10_fault at h
  exact ml_iload_n dX10_fault_0 1 rfl <| ml_b1_of h fun r1042 hv1041 h => ml_callS dX10_fault_1 wm_165 wb_114 (sX10_isText hv1041) rfl (Nat.le_of_ble_eq_true rfl) (Nat.le_of_ble_eq_true rfl) rfl <| ml_if_ne dX10_fault_4 h (fun _ h => ml_aload_n dX10_fault_9 0 rfl <| ml_ck_of h fun hc1043 h => ml_getR dX10_fault_10 wb_116 hc1043 <| ml_lx (mk := ml_r) h fun a1044 h => ml_iload_n dX10_fault_13 1 rfl <| ml_ck_of h fun hi1045 h => ml_aald (kd := 24) dX10_fault_14 (by decide) hi1045 <| ml_lx (mk := ml_r) h fun a1046 h => ml_astore_n (lv' := [(2, ml_r a1046), (0, ml_r l0), (1, ml_i l1)]) dX10_fault_15 (ml_hn hL rfl) rfl <| ml_aload_n dX10_fault_16 0 rfl <| ml_ifnonnull dX10_fault_17 h (fun _ h => ml_newOs dX10_fault_26 wb_40 h fun a1047 m1048 hn1049 hc1050 h => ml_dup dX10_fault_29 rfl <| ml_aload_n dX10_fault_30 0 rfl <| ml_b1_of h fun m1052 hv1051 h => ml_callI dX10_fault_31 wm_62 wb_42 hn1049 (sX1_init hv1051) rfl (Nat.le_of_ble_eq_true rfl) (Nat.le_of_ble_eq_true rfl) rfl <| ml_astore_n (lv' := [(3, ml_r a1047), (2, ml_r a1046), (0, ml_r l0), (1, ml_i l1)]) dX10_fault_34 (ml_hn hL rfl) rfl <| ml_aload_n dX10_fault_35 0 rfl <| ml_ck_of h fun hc1054 h => ml_b1_of h fun m1055 hv1053 h => ml_callV dX10_fault_36 wm_229 wb_156 hc1054 (sX1_read hv1053) rfl (Nat.le_of_ble_eq_true rfl) (Nat.le_of_ble_eq_true rfl) rfl <| ml_aload_n dX10_fault_39 0 rfl <| ml_ck_of h fun hc1056 h => ml_getI dX10_fault_40 wb_157 hc1056 <| ml_rI (mk := ml_i) hr dX10_fault_43 (fun _ => trivial) h) (fun _ h => ml_aload_n dX10_fault_20 1 rfl <| ml_iconst dX10_fault_21 kc_i1 <| ml_b2_of h fun r1058 m1059 hv1057 h => ml_callV dX10_fault_22 wm_132 wb_99 hc1043 (sX10_found hv1057) rfl (Nat.le_of_ble_eq_true rfl) (Nat.le_of_ble_eq_true rfl) rfl <| ml_rI (mk := ml_i) hr dX10_fault_25 (fun _ => trivial) h)) (fun _ h => ml_iconst dX10_fault_7 kc_im1 <| ml_rI (mk := ml_i) hr dX10_fault_8 (fun _ => trivial) h)
theorem sX10_fault {l0 : Nat} {l1 : Int32} {m : ml_M} {rv : Int32} {rm : ml_M} (h : fX10_fault l0 l1 m = some (rv, rm)) : ml_Sn yX10_fault cX10_fault 4 (some .int) 8 [ml_r l0, ml_i l1] m (some (ml_i rv)) rm :=
  ml_Sn_of (P := True) (ini := false) (by decide +kernel) (Nat.le_of_ble_eq_true rfl) (fun h => by cases h) (fun _ => ml_RkI rv) fun E hL hr => wX10_fault_0 hL hr _ _ _ h
theorem dX11_byteAt_0 : ml_d cX11_byteAt 0 (.iload_n 2) 1 1 := ⟨by decide +kernel, rfl⟩
theorem dX11_byteAt_1 : ml_d cX11_byteAt 1 (.aload_n 0) 1 2 := ⟨by decide +kernel, rfl⟩
theorem dX11_byteAt_2 : ml_d cX11_byteAt 2 (.getfield 22) 3 5 := ⟨by decide +kernel, rfl⟩
theorem dX11_byteAt_5 : ml_d cX11_byteAt 5 (.iload_n 1) 1 6 := ⟨by decide +kernel, rfl⟩
theorem dX11_byteAt_6 : ml_d cX11_byteAt 6 (.iaload) 1 7 := ⟨by decide +kernel, rfl⟩
theorem dX11_byteAt_7 : ml_j cX11_byteAt 7 (.if_icmp .ge) 24 10 := ⟨17, by decide +kernel, by decide, rfl⟩
theorem dX11_byteAt_10 : ml_d cX11_byteAt 10 (.aload_n 0) 1 11 := ⟨by decide +kernel, rfl⟩
theorem dX11_byteAt_11 : ml_d cX11_byteAt 11 (.getfield 25) 3 14 := ⟨by decide +kernel, rfl⟩
theorem dX11_byteAt_14 : ml_d cX11_byteAt 14 (.bipush 120) 2 16 := ⟨by decide +kernel, rfl⟩
theorem dX11_byteAt_16 : ml_d cX11_byteAt 16 (.iload_n 1) 1 17 := ⟨by decide +kernel, rfl⟩
theorem dX11_byteAt_17 : ml_d cX11_byteAt 17 (.imul) 1 18 := ⟨by decide +kernel, rfl⟩
theorem dX11_byteAt_18 : ml_d cX11_byteAt 18 (.iload_n 2) 1 19 := ⟨by decide +kernel, rfl⟩
theorem dX11_byteAt_19 : ml_d cX11_byteAt 19 (.iadd) 1 20 := ⟨by decide +kernel, rfl⟩
theorem dX11_byteAt_20 : ml_d cX11_byteAt 20 (.baload) 1 21 := ⟨by decide +kernel, rfl⟩
theorem dX11_byteAt_21 : ml_j cX11_byteAt 21 .goto 25 24 := ⟨4, by decide +kernel, by decide, rfl⟩
theorem dX11_byteAt_24 : ml_d cX11_byteAt 24 (.iconst 0) 1 25 := ⟨by decide +kernel, rfl⟩
theorem dX11_byteAt_25 : ml_d cX11_byteAt 25 (.ireturn) 1 26 := ⟨by decide +kernel, rfl⟩
def fX11_byteAt (l0 : Nat) (l1 : Int32) (l2 : Int32) (m : ml_M) : Option Int32 :=
    if (ml_K m l0).1 = 11 then
    ml_let (ml_R m l0 7) fun a1061 =>
    if ml_in m a1061 20 l1 then
    if (ml_I m a1061 l1.toNatClampNeg) ≤ l2 then
    some (0 : Int32)
    else
    ml_let (ml_R m l0 8) fun a1063 =>
    if ml_in m a1063 21 (((120 : Int32) * l1) + l2) then
    some (ml_I m a1063 (((120 : Int32) * l1) + l2).toNatClampNeg)
    else none
    else none
    else none
theorem wX11_byteAt_0 {E : ml_E} (hL : ml_eL E = 3) {rv : Int32} {m : ml_M} (hr : ∀ (pc pc' : Nat) (lv : List (Nat × ml_X)), ml_d cX11_byteAt pc .ireturn 1 pc' → True → ml_V E "LostRoomModel" cX11_byteAt 2 false m pc lv [ml_i rv]) : ∀ (l0 : Nat) (l1 : Int32) (l2 : Int32), fX11_byteAt l0 l1 l2 m = some rv → ml_V E "LostRoomModel" cX11_byteAt 2 false m 0 [(0, ml_r l0), (1, ml_i l1), (2, ml_i l2)] [] := by
  intro l0 l1 l2 h
  unfold fX11_byteAt at h
  exact ml_iload_n dX11_byteAt_0 2 rfl <| ml_aload_n dX11_byteAt_1 0 rfl <| ml_ck_of h fun hc1060 h => ml_getR dX11_byteAt_2 wb_63 hc1060 <| ml_lx (mk := ml_r) h fun a1061 h => ml_iload_n dX11_byteAt_5 1 rfl <| ml_ck_of h fun hi1062 h => ml_iald dX11_byteAt_6 hi1062 <| ml_icmp_ge dX11_byteAt_7 h (fun _ h => ml_iconst dX11_byteAt_24 kc_i0 <| ml_rp (mk := ml_i) hr dX11_byteAt_25 (fun _ => trivial) h) (fun _ h => ml_aload_n dX11_byteAt_10 0 rfl <| ml_getR dX11_byteAt_11 wb_117 hc1060 <| ml_lx (mk := ml_r) h fun a1063 h => ml_bipush dX11_byteAt_14 kc_b120 <| ml_iload_n dX11_byteAt_16 1 rfl <| ml_imul dX11_byteAt_17 <| ml_iload_n dX11_byteAt_18 2 rfl <| ml_iadd dX11_byteAt_19 <| ml_ck_of h fun hi1064 h => ml_bald dX11_byteAt_20 hi1064 <| ml_goto dX11_byteAt_21 <| ml_rp (mk := ml_i) hr dX11_byteAt_25 (fun _ => trivial) h)
theorem sX11_byteAt {l0 : Nat} {l1 : Int32} {l2 : Int32} {m : ml_M} {rv : Int32} (h : fX11_byteAt l0 l1 l2 m = some rv) : ml_Sn yX11_byteAt cX11_byteAt 3 (some .int) 2 [ml_r l0, ml_i l1, ml_i l2] m (some (ml_i rv)) m :=
  ml_Sn_of (P := True) (ini := false) (by decide +kernel) (Nat.le_of_ble_eq_true rfl) (fun h => by cases h) (fun _ => ml_RkI rv) fun E hL hr => wX11_byteAt_0 hL hr _ _ _ h
theorem dX11_year_0 : ml_d cX11_year 0 (.iconst 0) 1 1 := ⟨by decide +kernel, rfl⟩
theorem dX11_year_1 : ml_d cX11_year 1 (.istore_n 3) 1 2 := ⟨by decide +kernel, rfl⟩
theorem dX11_year_2 : ml_d cX11_year 2 (.iconst 0) 1 3 := ⟨by decide +kernel, rfl⟩
theorem dX11_year_3 : ml_d cX11_year 3 (.istore 4) 2 5 := ⟨by decide +kernel, rfl⟩
theorem dX11_year_5 : ml_d cX11_year 5 (.iload_n 3) 1 6 := ⟨by decide +kernel, rfl⟩
theorem dX11_year_6 : ml_d cX11_year 6 (.iconst 2) 1 7 := ⟨by decide +kernel, rfl⟩
theorem dX11_year_7 : ml_j cX11_year 7 (.if_icmp .ge) 65 10 := ⟨58, by decide +kernel, by decide, rfl⟩
theorem dX11_year_10 : ml_d cX11_year 10 (.aload_n 0) 1 11 := ⟨by decide +kernel, rfl⟩
theorem dX11_year_11 : ml_d cX11_year 11 (.iload_n 1) 1 12 := ⟨by decide +kernel, rfl⟩
theorem dX11_year_12 : ml_d cX11_year 12 (.aload_n 0) 1 13 := ⟨by decide +kernel, rfl⟩
theorem dX11_year_13 : ml_d cX11_year 13 (.getfield 129) 3 16 := ⟨by decide +kernel, rfl⟩
theorem dX11_year_16 : ml_d cX11_year 16 (.invokevirtual 132) 3 19 := ⟨by decide +kernel, rfl⟩
theorem dX11_year_19 : ml_d cX11_year 19 (.bipush 48) 2 21 := ⟨by decide +kernel, rfl⟩
theorem dX11_year_21 : ml_d cX11_year 21 (.bipush 57) 2 23 := ⟨by decide +kernel, rfl⟩
theorem dX11_year_23 : ml_d cX11_year 23 (.invokestatic 100) 3 26 := ⟨by decide +kernel, rfl⟩
theorem dX11_year_26 : ml_j cX11_year 26 (.ifCond .eq) 65 29 := ⟨39, by decide +kernel, by decide, rfl⟩
theorem dX11_year_29 : ml_d cX11_year 29 (.bipush 10) 2 31 := ⟨by decide +kernel, rfl⟩
theorem dX11_year_31 : ml_d cX11_year 31 (.iload 4) 2 33 := ⟨by decide +kernel, rfl⟩
theorem dX11_year_33 : ml_d cX11_year 33 (.imul) 1 34 := ⟨by decide +kernel, rfl⟩
theorem dX11_year_34 : ml_d cX11_year 34 (.aload_n 0) 1 35 := ⟨by decide +kernel, rfl⟩
theorem dX11_year_35 : ml_d cX11_year 35 (.iload_n 1) 1 36 := ⟨by decide +kernel, rfl⟩
theorem dX11_year_36 : ml_d cX11_year 36 (.aload_n 0) 1 37 := ⟨by decide +kernel, rfl⟩
theorem dX11_year_37 : ml_d cX11_year 37 (.getfield 129) 3 40 := ⟨by decide +kernel, rfl⟩
theorem dX11_year_40 : ml_d cX11_year 40 (.invokevirtual 132) 3 43 := ⟨by decide +kernel, rfl⟩
theorem dX11_year_43 : ml_d cX11_year 43 (.iadd) 1 44 := ⟨by decide +kernel, rfl⟩
theorem dX11_year_44 : ml_d cX11_year 44 (.bipush 48) 2 46 := ⟨by decide +kernel, rfl⟩
theorem dX11_year_46 : ml_d cX11_year 46 (.isub) 1 47 := ⟨by decide +kernel, rfl⟩
theorem dX11_year_47 : ml_d cX11_year 47 (.istore 4) 2 49 := ⟨by decide +kernel, rfl⟩
theorem dX11_year_49 : ml_d cX11_year 49 (.aload_n 0) 1 50 := ⟨by decide +kernel, rfl⟩
theorem dX11_year_50 : ml_d cX11_year 50 (.dup) 1 51 := ⟨by decide +kernel, rfl⟩
theorem dX11_year_51 : ml_d cX11_year 51 (.getfield 129) 3 54 := ⟨by decide +kernel, rfl⟩
theorem dX11_year_54 : ml_d cX11_year 54 (.iconst 1) 1 55 := ⟨by decide +kernel, rfl⟩
theorem dX11_year_55 : ml_d cX11_year 55 (.iadd) 1 56 := ⟨by decide +kernel, rfl⟩
theorem dX11_year_56 : ml_d cX11_year 56 (.putfield 129) 3 59 := ⟨by decide +kernel, rfl⟩
theorem dX11_year_59 : ml_d cX11_year 59 (.iinc 3 1) 3 62 := ⟨by decide +kernel, rfl⟩
theorem dX11_year_62 : ml_j cX11_year 62 .goto 5 65 := ⟨(-57), by decide +kernel, by decide, rfl⟩
theorem dX11_year_65 : ml_d cX11_year 65 (.aload_n 0) 1 66 := ⟨by decide +kernel, rfl⟩
theorem dX11_year_66 : ml_d cX11_year 66 (.iload 4) 2 68 := ⟨by decide +kernel, rfl⟩
theorem dX11_year_68 : ml_d cX11_year 68 (.putfield 135) 3 71 := ⟨by decide +kernel, rfl⟩
theorem dX11_year_71 : ml_d cX11_year 71 (.iload_n 3) 1 72 := ⟨by decide +kernel, rfl⟩
theorem dX11_year_72 : ml_j cX11_year 72 (.ifCond .le) 85 75 := ⟨13, by decide +kernel, by decide, rfl⟩
theorem dX11_year_75 : ml_d cX11_year 75 (.iload 4) 2 77 := ⟨by decide +kernel, rfl⟩
theorem dX11_year_77 : ml_d cX11_year 77 (.iload_n 2) 1 78 := ⟨by decide +kernel, rfl⟩
theorem dX11_year_78 : ml_j cX11_year 78 (.if_icmp .lt) 85 81 := ⟨7, by decide +kernel, by decide, rfl⟩
theorem dX11_year_81 : ml_d cX11_year 81 (.iconst 1) 1 82 := ⟨by decide +kernel, rfl⟩
theorem dX11_year_82 : ml_j cX11_year 82 .goto 86 85 := ⟨4, by decide +kernel, by decide, rfl⟩
theorem dX11_year_85 : ml_d cX11_year 85 (.iconst 0) 1 86 := ⟨by decide +kernel, rfl⟩
theorem dX11_year_86 : ml_d cX11_year 86 (.ireturn) 1 87 := ⟨by decide +kernel, rfl⟩
def fX11_year_65 (l0 : Nat) (l2 : Int32) (l3 : Int32) (l4 : Int32) (m : ml_M) : Option (Int32 × ml_M) :=
    if (ml_K m l0).1 = 11 then
    ml_let (ml_sI m l0 16 l4) fun m1066 =>
    if l3 ≤ 0 then
    some ((0 : Int32), m1066)
    else
    if l4 < l2 then
    some ((0 : Int32), m1066)
    else
    some ((1 : Int32), m1066)
    else none
theorem vX11_year_65 {E : ml_E} (hL : ml_eL E = 5) {rv : Int32} {rm : ml_M} (hr : ∀ (pc pc' : Nat) (lv : List (Nat × ml_X)), ml_d cX11_year pc .ireturn 1 pc' → (rv = 0 ∨ rv = 1) → ml_V E "LostRoomModel" cX11_year 3 false rm pc lv [ml_i rv]) : ∀ (l0 : Nat) (l2 : Int32) (l3 : Int32) (l4 : Int32) (m : ml_M), fX11_year_65 l0 l2 l3 l4 m = some (rv, rm) → ml_V E "LostRoomModel" cX11_year 3 false m 65 [(0, ml_r l0), (2, ml_i l2), (3, ml_i l3), (4, ml_i l4)] [] := by
  intro l0 l2 l3 l4 m h
  unfold fX11_year_65 at h
  exact ml_aload_n dX11_year_65 0 rfl <| ml_iload dX11_year_66 3 rfl <| ml_ck_of h fun hc1065 h => ml_putI dX11_year_68 wb_158 hc1065 <| ml_lt (m := m) rfl h fun m1066 em1067 h => ml_iload_n dX11_year_71 2 rfl <| ml_if_le dX11_year_72 h (fun _ h => ml_iconst dX11_year_85 kc_i0 <| ml_rI (mk := ml_i) hr dX11_year_86 (fun e => Or.inl e.symm) h) (fun _ h => ml_iload dX11_year_75 3 rfl <| ml_iload_n dX11_year_77 1 rfl <| ml_icmp_lt dX11_year_78 h (fun _ h => ml_iconst dX11_year_85 kc_i0 <| ml_rI (mk := ml_i) hr dX11_year_86 (fun e => Or.inl e.symm) h) (fun _ h => ml_iconst dX11_year_81 kc_i1 <| ml_goto dX11_year_82 <| ml_rI (mk := ml_i) hr dX11_year_86 (fun e => Or.inr e.symm) h))
def fX11_year_5 : Nat → Nat → Int32 → Int32 → Int32 → Int32 → ml_M → Option (Int32 × ml_M)
  | 0, _, _, _, _, _, _ => none
  | fu + 1, l0, l1, l2, l3, l4, m =>
    if (2 : Int32) ≤ l3 then
    fX11_year_65 l0 l2 l3 l4 m
    else
    if (ml_K m l0).1 = 11 then
    ml_b1 (fX11_byteAt l0 l1 (ml_I m l0 15) m) fun r1070 =>
    ml_b1 (fX11_in r1070 (48 : Int32) (57 : Int32) m) fun r1072 =>
    if r1072 = 0 then
    fX11_year_65 l0 l2 l3 l4 m
    else
    ml_b1 (fX11_byteAt l0 l1 (ml_I m l0 15) m) fun r1074 =>
    ml_let ((((10 : Int32) * l4) + r1074) - (48 : Int32)) fun x1075 =>
    ml_let (ml_sI m l0 15 ((ml_I m l0 15) + (1 : Int32))) fun m1076 =>
    (fX11_year_5 fu) l0 l1 l2 (l3 + (1 : Int32)) x1075 m1076
    else none
theorem vX11_year_5 {E : ml_E} (hL : ml_eL E = 5) {rv : Int32} {rm : ml_M} (hr : ∀ (pc pc' : Nat) (lv : List (Nat × ml_X)), ml_d cX11_year pc .ireturn 1 pc' → (rv = 0 ∨ rv = 1) → ml_V E "LostRoomModel" cX11_year 3 false rm pc lv [ml_i rv]) : ∀ (fu : Nat) (l0 : Nat) (l1 : Int32) (l2 : Int32) (l3 : Int32) (l4 : Int32) (m : ml_M), fX11_year_5 fu l0 l1 l2 l3 l4 m = some (rv, rm) → ml_V E "LostRoomModel" cX11_year 3 false m 5 [(0, ml_r l0), (1, ml_i l1), (2, ml_i l2), (3, ml_i l3), (4, ml_i l4)] [] := by
  intro fu
  induction fu with
  | zero => intro l0 l1 l2 l3 l4 m h; exact ml_none h
  | succ fu ih =>
    intro l0 l1 l2 l3 l4 m h
    have hk5 := ih
    unfold fX11_year_5 at h
    exact ml_iload_n dX11_year_5 3 rfl <| ml_iconst dX11_year_6 kc_i2 <| ml_icmp_ge dX11_year_7 h (fun _ h => ml_V.sub [0, 2, 3, 4] rfl (vX11_year_65 hL hr  _ _ _ _ _ h)) (fun _ h => ml_aload_n dX11_year_10 0 rfl <| ml_iload_n dX11_year_11 1 rfl <| ml_aload_n dX11_year_12 0 rfl <| ml_ck_of h fun hc1068 h => ml_getI dX11_year_13 wb_159 hc1068 <| ml_b1_of h fun r1070 hv1069 h => ml_callV dX11_year_16 wm_236 wb_160 hc1068 (sX11_byteAt hv1069) rfl (Nat.le_of_ble_eq_true rfl) (Nat.le_of_ble_eq_true rfl) rfl <| ml_bipush dX11_year_19 kc_b48 <| ml_bipush dX11_year_21 kc_b57 <| ml_b1_of h fun r1072 hv1071 h => ml_callS dX11_year_23 wm_136 wb_100 (sX11_in hv1071) rfl (Nat.le_of_ble_eq_true rfl) (Nat.le_of_ble_eq_true rfl) rfl <| ml_if_eq dX11_year_26 h (fun _ h => ml_V.sub [0, 2, 3, 4] rfl (vX11_year_65 hL hr  _ _ _ _ _ h)) (fun _ h => ml_bipush dX11_year_29 kc_b10 <| ml_iload dX11_year_31 4 rfl <| ml_imul dX11_year_33 <| ml_aload_n dX11_year_34 0 rfl <| ml_iload_n dX11_year_35 1 rfl <| ml_aload_n dX11_year_36 0 rfl <| ml_getI dX11_year_37 wb_159 hc1068 <| ml_b1_of h fun r1074 hv1073 h => ml_callV dX11_year_40 wm_236 wb_160 hc1068 (sX11_byteAt hv1073) rfl (Nat.le_of_ble_eq_true rfl) (Nat.le_of_ble_eq_true rfl) rfl <| ml_iadd dX11_year_43 <| ml_bipush dX11_year_44 kc_b48 <| ml_isub dX11_year_46 <| ml_lx (mk := ml_i) h fun x1075 h => ml_istore (lv' := [(4, ml_i x1075), (0, ml_r l0), (1, ml_i l1), (2, ml_i l2), (3, ml_i l3)]) dX11_year_47 (ml_hn hL rfl) rfl <| ml_aload_n dX11_year_49 1 rfl <| ml_dup dX11_year_50 rfl <| ml_getI dX11_year_51 wb_159 hc1068 <| ml_iconst dX11_year_54 kc_i1 <| ml_iadd dX11_year_55 <| ml_putI dX11_year_56 wb_161 hc1068 <| ml_lt (m := m) rfl h fun m1076 em1077 h => ml_iinc (lv' := [(3, ml_i (l3 + (1 : Int32))), (4, ml_i x1075), (0, ml_r l0), (1, ml_i l1), (2, ml_i l2)]) dX11_year_59 4 rfl (congrArg (l3 + ·) kc_i1) (ml_hn hL rfl) rfl <| ml_goto dX11_year_62 <| ml_V.sub [2, 3, 4, 0, 1] rfl (hk5 _ _ _ _ _ _ h)))
def fX11_year (l0 : Nat) (l1 : Int32) (l2 : Int32) (m : ml_M) : Option (Int32 × ml_M) :=
    fX11_year_5 ml_fu l0 l1 l2 (0 : Int32) (0 : Int32) m
theorem wX11_year_0 {E : ml_E} (hL : ml_eL E = 5) {rv : Int32} {rm : ml_M} (hr : ∀ (pc pc' : Nat) (lv : List (Nat × ml_X)), ml_d cX11_year pc .ireturn 1 pc' → (rv = 0 ∨ rv = 1) → ml_V E "LostRoomModel" cX11_year 3 false rm pc lv [ml_i rv]) : ∀ (l0 : Nat) (l1 : Int32) (l2 : Int32) (m : ml_M), fX11_year l0 l1 l2 m = some (rv, rm) → ml_V E "LostRoomModel" cX11_year 3 false m 0 [(0, ml_r l0), (1, ml_i l1), (2, ml_i l2)] [] := by
  intro l0 l1 l2 m h
  unfold fX11_year at h
  exact ml_iconst dX11_year_0 kc_i0 <| ml_istore_n (lv' := [(3, ml_i (0 : Int32)), (0, ml_r l0), (1, ml_i l1), (2, ml_i l2)]) dX11_year_1 (ml_hn hL rfl) rfl <| ml_iconst dX11_year_2 kc_i0 <| ml_istore (lv' := [(4, ml_i (0 : Int32)), (3, ml_i (0 : Int32)), (0, ml_r l0), (1, ml_i l1), (2, ml_i l2)]) dX11_year_3 (ml_hn hL rfl) rfl <| ml_V.sub [2, 3, 4, 1, 0] rfl (vX11_year_5 hL hr  ml_fu _ _ _ _ _ _ h)
theorem sX11_year {l0 : Nat} {l1 : Int32} {l2 : Int32} {m : ml_M} {rv : Int32} {rm : ml_M} (h : fX11_year l0 l1 l2 m = some (rv, rm)) : ml_Sn yX11_year cX11_year 5 (some .boolean) 3 [ml_r l0, ml_i l1, ml_i l2] m (some (ml_i rv)) rm :=
  ml_Sn_of (P := (rv = 0 ∨ rv = 1)) (ini := false) (by decide +kernel) (Nat.le_of_ble_eq_true rfl) (fun h => by cases h) (fun hz => ml_RkZ rv hz) fun E hL hr => wX11_year_0 hL hr _ _ _ _ h
theorem dX11_sign_0 : ml_d cX11_sign 0 (.aload_n 0) 1 1 := ⟨by decide +kernel, rfl⟩
theorem dX11_sign_1 : ml_d cX11_sign 1 (.iload_n 1) 1 2 := ⟨by decide +kernel, rfl⟩
theorem dX11_sign_2 : ml_d cX11_sign 2 (.aload_n 0) 1 3 := ⟨by decide +kernel, rfl⟩
theorem dX11_sign_3 : ml_d cX11_sign 3 (.getfield 129) 3 6 := ⟨by decide +kernel, rfl⟩
theorem dX11_sign_6 : ml_d cX11_sign 6 (.invokevirtual 132) 3 9 := ⟨by decide +kernel, rfl⟩
theorem dX11_sign_9 : ml_d cX11_sign 9 (.iload_n 2) 1 10 := ⟨by decide +kernel, rfl⟩
theorem dX11_sign_10 : ml_j cX11_sign 10 (.if_icmp .ne) 17 13 := ⟨7, by decide +kernel, by decide, rfl⟩
theorem dX11_sign_13 : ml_d cX11_sign 13 (.iconst 1) 1 14 := ⟨by decide +kernel, rfl⟩
theorem dX11_sign_14 : ml_j cX11_sign 14 .goto 18 17 := ⟨4, by decide +kernel, by decide, rfl⟩
theorem dX11_sign_17 : ml_d cX11_sign 17 (.iconst 0) 1 18 := ⟨by decide +kernel, rfl⟩
theorem dX11_sign_18 : ml_d cX11_sign 18 (.istore_n 3) 1 19 := ⟨by decide +kernel, rfl⟩
theorem dX11_sign_19 : ml_d cX11_sign 19 (.aload_n 0) 1 20 := ⟨by decide +kernel, rfl⟩
theorem dX11_sign_20 : ml_d cX11_sign 20 (.dup) 1 21 := ⟨by decide +kernel, rfl⟩
theorem dX11_sign_21 : ml_d cX11_sign 21 (.getfield 129) 3 24 := ⟨by decide +kernel, rfl⟩
theorem dX11_sign_24 : ml_d cX11_sign 24 (.iload_n 3) 1 25 := ⟨by decide +kernel, rfl⟩
theorem dX11_sign_25 : ml_j cX11_sign 25 (.ifCond .eq) 32 28 := ⟨7, by decide +kernel, by decide, rfl⟩
theorem dX11_sign_28 : ml_d cX11_sign 28 (.iconst 1) 1 29 := ⟨by decide +kernel, rfl⟩
theorem dX11_sign_29 : ml_j cX11_sign 29 .goto 33 32 := ⟨4, by decide +kernel, by decide, rfl⟩
theorem dX11_sign_32 : ml_d cX11_sign 32 (.iconst 0) 1 33 := ⟨by decide +kernel, rfl⟩
theorem dX11_sign_33 : ml_d cX11_sign 33 (.iadd) 1 34 := ⟨by decide +kernel, rfl⟩
theorem dX11_sign_34 : ml_d cX11_sign 34 (.putfield 129) 3 37 := ⟨by decide +kernel, rfl⟩
theorem dX11_sign_37 : ml_d cX11_sign 37 (.iload_n 3) 1 38 := ⟨by decide +kernel, rfl⟩
theorem dX11_sign_38 : ml_d cX11_sign 38 (.ireturn) 1 39 := ⟨by decide +kernel, rfl⟩
def fX11_sign_33 (l3 : Int32) (t0 : Int32) (t1 : Int32) (t2 : Nat) (m : ml_M) : Option (Int32 × ml_M) :=
    if (ml_K m t2).1 = 11 then
    ml_let (ml_sI m t2 15 (t1 + t0)) fun m1079 =>
    if l3 = 0 ∨ l3 = 1 then some (l3, m1079) else none
    else none
theorem vX11_sign_33 {E : ml_E} (hL : ml_eL E = 4) {rv : Int32} {rm : ml_M} (hr : ∀ (pc pc' : Nat) (lv : List (Nat × ml_X)), ml_d cX11_sign pc .ireturn 1 pc' → (rv = 0 ∨ rv = 1) → ml_V E "LostRoomModel" cX11_sign 3 false rm pc lv [ml_i rv]) : ∀ (l3 : Int32) (t0 : Int32) (t1 : Int32) (t2 : Nat) (m : ml_M), fX11_sign_33 l3 t0 t1 t2 m = some (rv, rm) → ml_V E "LostRoomModel" cX11_sign 3 false m 33 [(3, ml_i l3)] [ml_i t0, ml_i t1, ml_r t2] := by
  intro l3 t0 t1 t2 m h
  unfold fX11_sign_33 at h
  exact ml_iadd dX11_sign_33 <| ml_ck_of h fun hc1078 h => ml_putI dX11_sign_34 wb_161 hc1078 <| ml_lt (m := m) rfl h fun m1079 em1080 h => ml_iload_n dX11_sign_37 0 rfl <| ml_ck_of h fun hz1081 h => ml_rI (mk := ml_i) hr dX11_sign_38 (fun e => e ▸ hz1081) h
def fX11_sign_18 (l0 : Nat) (t0 : Int32) (m : ml_M) : Option (Int32 × ml_M) :=
    if (ml_K m l0).1 = 11 then
    if t0 = 0 then
    fX11_sign_33 t0 (0 : Int32) (ml_I m l0 15) l0 m
    else
    fX11_sign_33 t0 (1 : Int32) (ml_I m l0 15) l0 m
    else none
theorem vX11_sign_18 {E : ml_E} (hL : ml_eL E = 4) {rv : Int32} {rm : ml_M} (hr : ∀ (pc pc' : Nat) (lv : List (Nat × ml_X)), ml_d cX11_sign pc .ireturn 1 pc' → (rv = 0 ∨ rv = 1) → ml_V E "LostRoomModel" cX11_sign 3 false rm pc lv [ml_i rv]) : ∀ (l0 : Nat) (t0 : Int32) (m : ml_M), fX11_sign_18 l0 t0 m = some (rv, rm) → ml_V E "LostRoomModel" cX11_sign 3 false m 18 [(0, ml_r l0)] [ml_i t0] := by
  intro l0 t0 m h
  unfold fX11_sign_18 at h
  exact ml_istore_n (lv' := [(3, ml_i t0), (0, ml_r l0)]) dX11_sign_18 (ml_hn hL rfl) rfl <| ml_aload_n dX11_sign_19 1 rfl <| ml_dup dX11_sign_20 rfl <| ml_ck_of h fun hc1082 h => ml_getI dX11_sign_21 wb_159 hc1082 <| ml_iload_n dX11_sign_24 0 rfl <| ml_if_eq dX11_sign_25 h (fun _ h => ml_iconst dX11_sign_32 kc_i0 <| ml_V.sub [0] rfl (vX11_sign_33 hL hr  _ _ _ _ _ h)) (fun _ h => ml_iconst dX11_sign_28 kc_i1 <| ml_goto dX11_sign_29 <| ml_V.sub [0] rfl (vX11_sign_33 hL hr  _ _ _ _ _ h))
def fX11_sign (l0 : Nat) (l1 : Int32) (l2 : Int32) (m : ml_M) : Option (Int32 × ml_M) :=
    if (ml_K m l0).1 = 11 then
    ml_b1 (fX11_byteAt l0 l1 (ml_I m l0 15) m) fun r1085 =>
    if r1085 = l2 then
    fX11_sign_18 l0 (1 : Int32) m
    else
    fX11_sign_18 l0 (0 : Int32) m
    else none
theorem wX11_sign_0 {E : ml_E} (hL : ml_eL E = 4) {rv : Int32} {rm : ml_M} (hr : ∀ (pc pc' : Nat) (lv : List (Nat × ml_X)), ml_d cX11_sign pc .ireturn 1 pc' → (rv = 0 ∨ rv = 1) → ml_V E "LostRoomModel" cX11_sign 3 false rm pc lv [ml_i rv]) : ∀ (l0 : Nat) (l1 : Int32) (l2 : Int32) (m : ml_M), fX11_sign l0 l1 l2 m = some (rv, rm) → ml_V E "LostRoomModel" cX11_sign 3 false m 0 [(0, ml_r l0), (1, ml_i l1), (2, ml_i l2)] [] := by
  intro l0 l1 l2 m h
  unfold fX11_sign at h
  exact ml_aload_n dX11_sign_0 0 rfl <| ml_iload_n dX11_sign_1 1 rfl <| ml_aload_n dX11_sign_2 0 rfl <| ml_ck_of h fun hc1083 h => ml_getI dX11_sign_3 wb_159 hc1083 <| ml_b1_of h fun r1085 hv1084 h => ml_callV dX11_sign_6 wm_236 wb_160 hc1083 (sX11_byteAt hv1084) rfl (Nat.le_of_ble_eq_true rfl) (Nat.le_of_ble_eq_true rfl) rfl <| ml_iload_n dX11_sign_9 2 rfl <| ml_icmp_ne dX11_sign_10 h (fun _ h => ml_iconst dX11_sign_17 kc_i0 <| ml_V.sub [0] rfl (vX11_sign_18 hL hr  _ _ _ h)) (fun _ h => ml_iconst dX11_sign_13 kc_i1 <| ml_goto dX11_sign_14 <| ml_V.sub [0] rfl (vX11_sign_18 hL hr  _ _ _ h))
theorem sX11_sign {l0 : Nat} {l1 : Int32} {l2 : Int32} {m : ml_M} {rv : Int32} {rm : ml_M} (h : fX11_sign l0 l1 l2 m = some (rv, rm)) : ml_Sn yX11_sign cX11_sign 4 (some .boolean) 3 [ml_r l0, ml_i l1, ml_i l2] m (some (ml_i rv)) rm :=
  ml_Sn_of (P := (rv = 0 ∨ rv = 1)) (ini := false) (by decide +kernel) (Nat.le_of_ble_eq_true rfl) (fun h => by cases h) (fun hz => ml_RkZ rv hz) fun E hL hr => wX11_sign_0 hL hr _ _ _ _ h
theorem dX11_figure_0 : ml_d cX11_figure 0 (.aload_n 0) 1 1 := ⟨by decide +kernel, rfl⟩
theorem dX11_figure_1 : ml_d cX11_figure 1 (.aload_n 0) 1 2 := ⟨by decide +kernel, rfl⟩
theorem dX11_figure_2 : ml_d cX11_figure 2 (.iload_n 1) 1 3 := ⟨by decide +kernel, rfl⟩
theorem dX11_figure_3 : ml_d cX11_figure 3 (.aload_n 0) 1 4 := ⟨by decide +kernel, rfl⟩
theorem dX11_figure_4 : ml_d cX11_figure 4 (.getfield 129) 3 7 := ⟨by decide +kernel, rfl⟩
theorem dX11_figure_7 : ml_d cX11_figure 7 (.invokevirtual 132) 3 10 := ⟨by decide +kernel, rfl⟩
theorem dX11_figure_10 : ml_d cX11_figure 10 (.bipush 48) 2 12 := ⟨by decide +kernel, rfl⟩
theorem dX11_figure_12 : ml_d cX11_figure 12 (.isub) 1 13 := ⟨by decide +kernel, rfl⟩
theorem dX11_figure_13 : ml_d cX11_figure 13 (.putfield 135) 3 16 := ⟨by decide +kernel, rfl⟩
theorem dX11_figure_16 : ml_d cX11_figure 16 (.aload_n 0) 1 17 := ⟨by decide +kernel, rfl⟩
theorem dX11_figure_17 : ml_d cX11_figure 17 (.getfield 135) 3 20 := ⟨by decide +kernel, rfl⟩
theorem dX11_figure_20 : ml_d cX11_figure 20 (.iconst 0) 1 21 := ⟨by decide +kernel, rfl⟩
theorem dX11_figure_21 : ml_d cX11_figure 21 (.bipush 9) 2 23 := ⟨by decide +kernel, rfl⟩
theorem dX11_figure_23 : ml_d cX11_figure 23 (.invokestatic 100) 3 26 := ⟨by decide +kernel, rfl⟩
theorem dX11_figure_26 : ml_j cX11_figure 26 (.ifCond .eq) 45 29 := ⟨19, by decide +kernel, by decide, rfl⟩
theorem dX11_figure_29 : ml_d cX11_figure 29 (.aload_n 0) 1 30 := ⟨by decide +kernel, rfl⟩
theorem dX11_figure_30 : ml_d cX11_figure 30 (.getfield 135) 3 33 := ⟨by decide +kernel, rfl⟩
theorem dX11_figure_33 : ml_d cX11_figure 33 (.iload_n 2) 1 34 := ⟨by decide +kernel, rfl⟩
theorem dX11_figure_34 : ml_d cX11_figure 34 (.iload_n 3) 1 35 := ⟨by decide +kernel, rfl⟩
theorem dX11_figure_35 : ml_d cX11_figure 35 (.invokestatic 100) 3 38 := ⟨by decide +kernel, rfl⟩
theorem dX11_figure_38 : ml_j cX11_figure 38 (.ifCond .eq) 45 41 := ⟨7, by decide +kernel, by decide, rfl⟩
theorem dX11_figure_41 : ml_d cX11_figure 41 (.iconst 1) 1 42 := ⟨by decide +kernel, rfl⟩
theorem dX11_figure_42 : ml_j cX11_figure 42 .goto 46 45 := ⟨4, by decide +kernel, by decide, rfl⟩
theorem dX11_figure_45 : ml_d cX11_figure 45 (.iconst 0) 1 46 := ⟨by decide +kernel, rfl⟩
theorem dX11_figure_46 : ml_d cX11_figure 46 (.istore 4) 2 48 := ⟨by decide +kernel, rfl⟩
theorem dX11_figure_48 : ml_d cX11_figure 48 (.aload_n 0) 1 49 := ⟨by decide +kernel, rfl⟩
theorem dX11_figure_49 : ml_d cX11_figure 49 (.dup) 1 50 := ⟨by decide +kernel, rfl⟩
theorem dX11_figure_50 : ml_d cX11_figure 50 (.getfield 129) 3 53 := ⟨by decide +kernel, rfl⟩
theorem dX11_figure_53 : ml_d cX11_figure 53 (.iload 4) 2 55 := ⟨by decide +kernel, rfl⟩
theorem dX11_figure_55 : ml_j cX11_figure 55 (.ifCond .eq) 62 58 := ⟨7, by decide +kernel, by decide, rfl⟩
theorem dX11_figure_58 : ml_d cX11_figure 58 (.iconst 1) 1 59 := ⟨by decide +kernel, rfl⟩
theorem dX11_figure_59 : ml_j cX11_figure 59 .goto 63 62 := ⟨4, by decide +kernel, by decide, rfl⟩
theorem dX11_figure_62 : ml_d cX11_figure 62 (.iconst 0) 1 63 := ⟨by decide +kernel, rfl⟩
theorem dX11_figure_63 : ml_d cX11_figure 63 (.iadd) 1 64 := ⟨by decide +kernel, rfl⟩
theorem dX11_figure_64 : ml_d cX11_figure 64 (.putfield 129) 3 67 := ⟨by decide +kernel, rfl⟩
theorem dX11_figure_67 : ml_d cX11_figure 67 (.iload 4) 2 69 := ⟨by decide +kernel, rfl⟩
theorem dX11_figure_69 : ml_d cX11_figure 69 (.ireturn) 1 70 := ⟨by decide +kernel, rfl⟩
def fX11_figure_63 (l4 : Int32) (t0 : Int32) (t1 : Int32) (t2 : Nat) (m : ml_M) : Option (Int32 × ml_M) :=
    if (ml_K m t2).1 = 11 then
    ml_let (ml_sI m t2 15 (t1 + t0)) fun m1087 =>
    if l4 = 0 ∨ l4 = 1 then some (l4, m1087) else none
    else none
theorem vX11_figure_63 {E : ml_E} (hL : ml_eL E = 5) {rv : Int32} {rm : ml_M} (hr : ∀ (pc pc' : Nat) (lv : List (Nat × ml_X)), ml_d cX11_figure pc .ireturn 1 pc' → (rv = 0 ∨ rv = 1) → ml_V E "LostRoomModel" cX11_figure 3 false rm pc lv [ml_i rv]) : ∀ (l4 : Int32) (t0 : Int32) (t1 : Int32) (t2 : Nat) (m : ml_M), fX11_figure_63 l4 t0 t1 t2 m = some (rv, rm) → ml_V E "LostRoomModel" cX11_figure 3 false m 63 [(4, ml_i l4)] [ml_i t0, ml_i t1, ml_r t2] := by
  intro l4 t0 t1 t2 m h
  unfold fX11_figure_63 at h
  exact ml_iadd dX11_figure_63 <| ml_ck_of h fun hc1086 h => ml_putI dX11_figure_64 wb_161 hc1086 <| ml_lt (m := m) rfl h fun m1087 em1088 h => ml_iload dX11_figure_67 0 rfl <| ml_ck_of h fun hz1089 h => ml_rI (mk := ml_i) hr dX11_figure_69 (fun e => e ▸ hz1089) h
def fX11_figure_46 (l0 : Nat) (t0 : Int32) (m : ml_M) : Option (Int32 × ml_M) :=
    if (ml_K m l0).1 = 11 then
    if t0 = 0 then
    fX11_figure_63 t0 (0 : Int32) (ml_I m l0 15) l0 m
    else
    fX11_figure_63 t0 (1 : Int32) (ml_I m l0 15) l0 m
    else none
theorem vX11_figure_46 {E : ml_E} (hL : ml_eL E = 5) {rv : Int32} {rm : ml_M} (hr : ∀ (pc pc' : Nat) (lv : List (Nat × ml_X)), ml_d cX11_figure pc .ireturn 1 pc' → (rv = 0 ∨ rv = 1) → ml_V E "LostRoomModel" cX11_figure 3 false rm pc lv [ml_i rv]) : ∀ (l0 : Nat) (t0 : Int32) (m : ml_M), fX11_figure_46 l0 t0 m = some (rv, rm) → ml_V E "LostRoomModel" cX11_figure 3 false m 46 [(0, ml_r l0)] [ml_i t0] := by
  intro l0 t0 m h
  unfold fX11_figure_46 at h
  exact ml_istore (lv' := [(4, ml_i t0), (0, ml_r l0)]) dX11_figure_46 (ml_hn hL rfl) rfl <| ml_aload_n dX11_figure_48 1 rfl <| ml_dup dX11_figure_49 rfl <| ml_ck_of h fun hc1090 h => ml_getI dX11_figure_50 wb_159 hc1090 <| ml_iload dX11_figure_53 0 rfl <| ml_if_eq dX11_figure_55 h (fun _ h => ml_iconst dX11_figure_62 kc_i0 <| ml_V.sub [0] rfl (vX11_figure_63 hL hr  _ _ _ _ _ h)) (fun _ h => ml_iconst dX11_figure_58 kc_i1 <| ml_goto dX11_figure_59 <| ml_V.sub [0] rfl (vX11_figure_63 hL hr  _ _ _ _ _ h))
def fX11_figure_45 (l0 : Nat) (m : ml_M) : Option (Int32 × ml_M) :=
    fX11_figure_46 l0 (0 : Int32) m
theorem vX11_figure_45 {E : ml_E} (hL : ml_eL E = 5) {rv : Int32} {rm : ml_M} (hr : ∀ (pc pc' : Nat) (lv : List (Nat × ml_X)), ml_d cX11_figure pc .ireturn 1 pc' → (rv = 0 ∨ rv = 1) → ml_V E "LostRoomModel" cX11_figure 3 false rm pc lv [ml_i rv]) : ∀ (l0 : Nat) (m : ml_M), fX11_figure_45 l0 m = some (rv, rm) → ml_V E "LostRoomModel" cX11_figure 3 false m 45 [(0, ml_r l0)] [] := by
  intro l0 m h
  unfold fX11_figure_45 at h
  exact ml_iconst dX11_figure_45 kc_i0 <| ml_V.sub [0] rfl (vX11_figure_46 hL hr  _ _ _ h)
def fX11_figure (l0 : Nat) (l1 : Int32) (l2 : Int32) (l3 : Int32) (m : ml_M) : Option (Int32 × ml_M) :=
    if (ml_K m l0).1 = 11 then
    ml_b1 (fX11_byteAt l0 l1 (ml_I m l0 15) m) fun r1093 =>
    ml_let (ml_sI m l0 16 (r1093 - (48 : Int32))) fun m1094 =>
    ml_b1 (fX11_in (ml_I m1094 l0 16) (0 : Int32) (9 : Int32) m1094) fun r1097 =>
    if r1097 = 0 then
    fX11_figure_45 l0 m1094
    else
    ml_b1 (fX11_in (ml_I m1094 l0 16) l2 l3 m1094) fun r1099 =>
    if r1099 = 0 then
    fX11_figure_45 l0 m1094
    else
    fX11_figure_46 l0 (1 : Int32) m1094
    else none
theorem wX11_figure_0 {E : ml_E} (hL : ml_eL E = 5) {rv : Int32} {rm : ml_M} (hr : ∀ (pc pc' : Nat) (lv : List (Nat × ml_X)), ml_d cX11_figure pc .ireturn 1 pc' → (rv = 0 ∨ rv = 1) → ml_V E "LostRoomModel" cX11_figure 3 false rm pc lv [ml_i rv]) : ∀ (l0 : Nat) (l1 : Int32) (l2 : Int32) (l3 : Int32) (m : ml_M), fX11_figure l0 l1 l2 l3 m = some (rv, rm) → ml_V E "LostRoomModel" cX11_figure 3 false m 0 [(0, ml_r l0), (1, ml_i l1), (2, ml_i l2), (3, ml_i l3)] [] := by
  intro l0 l1 l2 l3 m h
  unfold fX11_figure at h
  exact ml_aload_n dX11_figure_0 0 rfl <| ml_aload_n dX11_figure_1 0 rfl <| ml_iload_n dX11_figure_2 1 rfl <| ml_aload_n dX11_figure_3 0 rfl <| ml_ck_of h fun hc1091 h => ml_getI dX11_figure_4 wb_159 hc1091 <| ml_b1_of h fun r1093 hv1092 h => ml_callV dX11_figure_7 wm_236 wb_160 hc1091 (sX11_byteAt hv1092) rfl (Nat.le_of_ble_eq_true rfl) (Nat.le_of_ble_eq_true rfl) rfl <| ml_bipush dX11_figure_10 kc_b48 <| ml_isub dX11_figure_12 <| ml_putI dX11_figure_13 wb_158 hc1091 <| ml_lt (m := m) rfl h fun m1094 em1095 h => ml_aload_n dX11_figure_16 0 rfl <| ml_getI dX11_figure_17 wb_162 (ml_kk em1095 hc1091) <| ml_iconst dX11_figure_20 kc_i0 <| ml_bipush dX11_figure_21 kc_b9 <| ml_b1_of h fun r1097 hv1096 h => ml_callS dX11_figure_23 wm_136 wb_100 (sX11_in hv1096) rfl (Nat.le_of_ble_eq_true rfl) (Nat.le_of_ble_eq_true rfl) rfl <| ml_if_eq dX11_figure_26 h (fun _ h => ml_V.sub [0] rfl (vX11_figure_45 hL hr  _ _ h)) (fun _ h => ml_aload_n dX11_figure_29 0 rfl <| ml_getI dX11_figure_30 wb_162 (ml_kk em1095 hc1091) <| ml_iload_n dX11_figure_33 2 rfl <| ml_iload_n dX11_figure_34 3 rfl <| ml_b1_of h fun r1099 hv1098 h => ml_callS dX11_figure_35 wm_136 wb_100 (sX11_in hv1098) rfl (Nat.le_of_ble_eq_true rfl) (Nat.le_of_ble_eq_true rfl) rfl <| ml_if_eq dX11_figure_38 h (fun _ h => ml_V.sub [0] rfl (vX11_figure_45 hL hr  _ _ h)) (fun _ h => ml_iconst dX11_figure_41 kc_i1 <| ml_goto dX11_figure_42 <| ml_V.sub [0] rfl (vX11_figure_46 hL hr  _ _ _ h)))
theorem sX11_figure {l0 : Nat} {l1 : Int32} {l2 : Int32} {l3 : Int32} {m : ml_M} {rv : Int32} {rm : ml_M} (h : fX11_figure l0 l1 l2 l3 m = some (rv, rm)) : ml_Sn yX11_figure cX11_figure 5 (some .boolean) 3 [ml_r l0, ml_i l1, ml_i l2, ml_i l3] m (some (ml_i rv)) rm :=
  ml_Sn_of (P := (rv = 0 ∨ rv = 1)) (ini := false) (by decide +kernel) (Nat.le_of_ble_eq_true rfl) (fun h => by cases h) (fun hz => ml_RkZ rv hz) fun E hL hr => wX11_figure_0 hL hr _ _ _ _ _ h
theorem dX11_readsLodger_0 : ml_d cX11_readsLodger 0 (.aload_n 0) 1 1 := ⟨by decide +kernel, rfl⟩
theorem dX11_readsLodger_1 : ml_d cX11_readsLodger 1 (.getfield 138) 3 4 := ⟨by decide +kernel, rfl⟩
theorem dX11_readsLodger_4 : ml_d cX11_readsLodger 4 (.bipush 8) 2 6 := ⟨by decide +kernel, rfl⟩
theorem dX11_readsLodger_6 : ml_j cX11_readsLodger 6 (.if_icmp .ne) 11 9 := ⟨5, by decide +kernel, by decide, rfl⟩
theorem dX11_readsLodger_9 : ml_d cX11_readsLodger 9 (.iconst 0) 1 10 := ⟨by decide +kernel, rfl⟩
theorem dX11_readsLodger_10 : ml_d cX11_readsLodger 10 (.ireturn) 1 11 := ⟨by decide +kernel, rfl⟩
theorem dX11_readsLodger_11 : ml_d cX11_readsLodger 11 (.aload_n 0) 1 12 := ⟨by decide +kernel, rfl⟩
theorem dX11_readsLodger_12 : ml_d cX11_readsLodger 12 (.dup) 1 13 := ⟨by decide +kernel, rfl⟩
theorem dX11_readsLodger_13 : ml_d cX11_readsLodger 13 (.getfield 129) 3 16 := ⟨by decide +kernel, rfl⟩
theorem dX11_readsLodger_16 : ml_d cX11_readsLodger 16 (.iconst 1) 1 17 := ⟨by decide +kernel, rfl⟩
theorem dX11_readsLodger_17 : ml_d cX11_readsLodger 17 (.iadd) 1 18 := ⟨by decide +kernel, rfl⟩
theorem dX11_readsLodger_18 : ml_d cX11_readsLodger 18 (.putfield 129) 3 21 := ⟨by decide +kernel, rfl⟩
theorem dX11_readsLodger_21 : ml_d cX11_readsLodger 21 (.iconst 5) 1 22 := ⟨by decide +kernel, rfl⟩
theorem dX11_readsLodger_22 : ml_d cX11_readsLodger 22 (.aload_n 0) 1 23 := ⟨by decide +kernel, rfl⟩
theorem dX11_readsLodger_23 : ml_d cX11_readsLodger 23 (.getfield 138) 3 26 := ⟨by decide +kernel, rfl⟩
theorem dX11_readsLodger_26 : ml_d cX11_readsLodger 26 (.imul) 1 27 := ⟨by decide +kernel, rfl⟩
theorem dX11_readsLodger_27 : ml_d cX11_readsLodger 27 (.istore_n 2) 1 28 := ⟨by decide +kernel, rfl⟩
theorem dX11_readsLodger_28 : ml_d cX11_readsLodger 28 (.aload_n 0) 1 29 := ⟨by decide +kernel, rfl⟩
theorem dX11_readsLodger_29 : ml_d cX11_readsLodger 29 (.iload_n 1) 1 30 := ⟨by decide +kernel, rfl⟩
theorem dX11_readsLodger_30 : ml_d cX11_readsLodger 30 (.iconst 0) 1 31 := ⟨by decide +kernel, rfl⟩
theorem dX11_readsLodger_31 : ml_d cX11_readsLodger 31 (.invokevirtual 141) 3 34 := ⟨by decide +kernel, rfl⟩
theorem dX11_readsLodger_34 : ml_j cX11_readsLodger 34 (.ifCond .ne) 39 37 := ⟨5, by decide +kernel, by decide, rfl⟩
theorem dX11_readsLodger_37 : ml_d cX11_readsLodger 37 (.iconst 0) 1 38 := ⟨by decide +kernel, rfl⟩
theorem dX11_readsLodger_38 : ml_d cX11_readsLodger 38 (.ireturn) 1 39 := ⟨by decide +kernel, rfl⟩
theorem dX11_readsLodger_39 : ml_d cX11_readsLodger 39 (.aload_n 0) 1 40 := ⟨by decide +kernel, rfl⟩
theorem dX11_readsLodger_40 : ml_d cX11_readsLodger 40 (.getfield 38) 3 43 := ⟨by decide +kernel, rfl⟩
theorem dX11_readsLodger_43 : ml_d cX11_readsLodger 43 (.iload_n 2) 1 44 := ⟨by decide +kernel, rfl⟩
theorem dX11_readsLodger_44 : ml_d cX11_readsLodger 44 (.aload_n 0) 1 45 := ⟨by decide +kernel, rfl⟩
theorem dX11_readsLodger_45 : ml_d cX11_readsLodger 45 (.getfield 135) 3 48 := ⟨by decide +kernel, rfl⟩
theorem dX11_readsLodger_48 : ml_d cX11_readsLodger 48 (.iastore) 1 49 := ⟨by decide +kernel, rfl⟩
theorem dX11_readsLodger_49 : ml_d cX11_readsLodger 49 (.aload_n 0) 1 50 := ⟨by decide +kernel, rfl⟩
theorem dX11_readsLodger_50 : ml_d cX11_readsLodger 50 (.iload_n 1) 1 51 := ⟨by decide +kernel, rfl⟩
theorem dX11_readsLodger_51 : ml_d cX11_readsLodger 51 (.bipush 45) 2 53 := ⟨by decide +kernel, rfl⟩
theorem dX11_readsLodger_53 : ml_d cX11_readsLodger 53 (.invokevirtual 145) 3 56 := ⟨by decide +kernel, rfl⟩
theorem dX11_readsLodger_56 : ml_j cX11_readsLodger 56 (.ifCond .eq) 73 59 := ⟨17, by decide +kernel, by decide, rfl⟩
theorem dX11_readsLodger_59 : ml_d cX11_readsLodger 59 (.aload_n 0) 1 60 := ⟨by decide +kernel, rfl⟩
theorem dX11_readsLodger_60 : ml_d cX11_readsLodger 60 (.iload_n 1) 1 61 := ⟨by decide +kernel, rfl⟩
theorem dX11_readsLodger_61 : ml_d cX11_readsLodger 61 (.aload_n 0) 1 62 := ⟨by decide +kernel, rfl⟩
theorem dX11_readsLodger_62 : ml_d cX11_readsLodger 62 (.getfield 38) 3 65 := ⟨by decide +kernel, rfl⟩
theorem dX11_readsLodger_65 : ml_d cX11_readsLodger 65 (.iload_n 2) 1 66 := ⟨by decide +kernel, rfl⟩
theorem dX11_readsLodger_66 : ml_d cX11_readsLodger 66 (.iaload) 1 67 := ⟨by decide +kernel, rfl⟩
theorem dX11_readsLodger_67 : ml_d cX11_readsLodger 67 (.invokevirtual 141) 3 70 := ⟨by decide +kernel, rfl⟩
theorem dX11_readsLodger_70 : ml_j cX11_readsLodger 70 (.ifCond .ne) 75 73 := ⟨5, by decide +kernel, by decide, rfl⟩
theorem dX11_readsLodger_73 : ml_d cX11_readsLodger 73 (.iconst 0) 1 74 := ⟨by decide +kernel, rfl⟩
theorem dX11_readsLodger_74 : ml_d cX11_readsLodger 74 (.ireturn) 1 75 := ⟨by decide +kernel, rfl⟩
theorem dX11_readsLodger_75 : ml_d cX11_readsLodger 75 (.aload_n 0) 1 76 := ⟨by decide +kernel, rfl⟩
theorem dX11_readsLodger_76 : ml_d cX11_readsLodger 76 (.getfield 38) 3 79 := ⟨by decide +kernel, rfl⟩
theorem dX11_readsLodger_79 : ml_d cX11_readsLodger 79 (.iload_n 2) 1 80 := ⟨by decide +kernel, rfl⟩
theorem dX11_readsLodger_80 : ml_d cX11_readsLodger 80 (.iconst 1) 1 81 := ⟨by decide +kernel, rfl⟩
theorem dX11_readsLodger_81 : ml_d cX11_readsLodger 81 (.iadd) 1 82 := ⟨by decide +kernel, rfl⟩
theorem dX11_readsLodger_82 : ml_d cX11_readsLodger 82 (.aload_n 0) 1 83 := ⟨by decide +kernel, rfl⟩
theorem dX11_readsLodger_83 : ml_d cX11_readsLodger 83 (.getfield 135) 3 86 := ⟨by decide +kernel, rfl⟩
theorem dX11_readsLodger_86 : ml_d cX11_readsLodger 86 (.iastore) 1 87 := ⟨by decide +kernel, rfl⟩
theorem dX11_readsLodger_87 : ml_d cX11_readsLodger 87 (.iconst 2) 1 88 := ⟨by decide +kernel, rfl⟩
theorem dX11_readsLodger_88 : ml_d cX11_readsLodger 88 (.istore_n 3) 1 89 := ⟨by decide +kernel, rfl⟩
theorem dX11_readsLodger_89 : ml_d cX11_readsLodger 89 (.iload_n 3) 1 90 := ⟨by decide +kernel, rfl⟩
theorem dX11_readsLodger_90 : ml_d cX11_readsLodger 90 (.iconst 5) 1 91 := ⟨by decide +kernel, rfl⟩
theorem dX11_readsLodger_91 : ml_j cX11_readsLodger 91 (.if_icmp .ge) 155 94 := ⟨64, by decide +kernel, by decide, rfl⟩
theorem dX11_readsLodger_94 : ml_d cX11_readsLodger 94 (.aload_n 0) 1 95 := ⟨by decide +kernel, rfl⟩
theorem dX11_readsLodger_95 : ml_d cX11_readsLodger 95 (.iload_n 1) 1 96 := ⟨by decide +kernel, rfl⟩
theorem dX11_readsLodger_96 : ml_d cX11_readsLodger 96 (.iload_n 3) 1 97 := ⟨by decide +kernel, rfl⟩
theorem dX11_readsLodger_97 : ml_d cX11_readsLodger 97 (.iconst 2) 1 98 := ⟨by decide +kernel, rfl⟩
theorem dX11_readsLodger_98 : ml_j cX11_readsLodger 98 (.if_icmp .ne) 106 101 := ⟨8, by decide +kernel, by decide, rfl⟩
theorem dX11_readsLodger_101 : ml_d cX11_readsLodger 101 (.bipush 115) 2 103 := ⟨by decide +kernel, rfl⟩
theorem dX11_readsLodger_103 : ml_j cX11_readsLodger 103 .goto 118 106 := ⟨15, by decide +kernel, by decide, rfl⟩
theorem dX11_readsLodger_106 : ml_d cX11_readsLodger 106 (.iload_n 3) 1 107 := ⟨by decide +kernel, rfl⟩
theorem dX11_readsLodger_107 : ml_d cX11_readsLodger 107 (.iconst 3) 1 108 := ⟨by decide +kernel, rfl⟩
theorem dX11_readsLodger_108 : ml_j cX11_readsLodger 108 (.if_icmp .ne) 116 111 := ⟨8, by decide +kernel, by decide, rfl⟩
theorem dX11_readsLodger_111 : ml_d cX11_readsLodger 111 (.bipush 116) 2 113 := ⟨by decide +kernel, rfl⟩
theorem dX11_readsLodger_113 : ml_j cX11_readsLodger 113 .goto 118 116 := ⟨5, by decide +kernel, by decide, rfl⟩
theorem dX11_readsLodger_116 : ml_d cX11_readsLodger 116 (.bipush 104) 2 118 := ⟨by decide +kernel, rfl⟩
theorem dX11_readsLodger_118 : ml_d cX11_readsLodger 118 (.invokevirtual 145) 3 121 := ⟨by decide +kernel, rfl⟩
theorem dX11_readsLodger_121 : ml_j cX11_readsLodger 121 (.ifCond .eq) 135 124 := ⟨14, by decide +kernel, by decide, rfl⟩
theorem dX11_readsLodger_124 : ml_d cX11_readsLodger 124 (.aload_n 0) 1 125 := ⟨by decide +kernel, rfl⟩
theorem dX11_readsLodger_125 : ml_d cX11_readsLodger 125 (.iload_n 1) 1 126 := ⟨by decide +kernel, rfl⟩
theorem dX11_readsLodger_126 : ml_d cX11_readsLodger 126 (.iconst 1) 1 127 := ⟨by decide +kernel, rfl⟩
theorem dX11_readsLodger_127 : ml_d cX11_readsLodger 127 (.bipush 9) 2 129 := ⟨by decide +kernel, rfl⟩
theorem dX11_readsLodger_129 : ml_d cX11_readsLodger 129 (.invokevirtual 148) 3 132 := ⟨by decide +kernel, rfl⟩
theorem dX11_readsLodger_132 : ml_j cX11_readsLodger 132 (.ifCond .ne) 137 135 := ⟨5, by decide +kernel, by decide, rfl⟩
theorem dX11_readsLodger_135 : ml_d cX11_readsLodger 135 (.iconst 0) 1 136 := ⟨by decide +kernel, rfl⟩
theorem dX11_readsLodger_136 : ml_d cX11_readsLodger 136 (.ireturn) 1 137 := ⟨by decide +kernel, rfl⟩
theorem dX11_readsLodger_137 : ml_d cX11_readsLodger 137 (.aload_n 0) 1 138 := ⟨by decide +kernel, rfl⟩
theorem dX11_readsLodger_138 : ml_d cX11_readsLodger 138 (.getfield 38) 3 141 := ⟨by decide +kernel, rfl⟩
theorem dX11_readsLodger_141 : ml_d cX11_readsLodger 141 (.iload_n 2) 1 142 := ⟨by decide +kernel, rfl⟩
theorem dX11_readsLodger_142 : ml_d cX11_readsLodger 142 (.iload_n 3) 1 143 := ⟨by decide +kernel, rfl⟩
theorem dX11_readsLodger_143 : ml_d cX11_readsLodger 143 (.iadd) 1 144 := ⟨by decide +kernel, rfl⟩
theorem dX11_readsLodger_144 : ml_d cX11_readsLodger 144 (.aload_n 0) 1 145 := ⟨by decide +kernel, rfl⟩
theorem dX11_readsLodger_145 : ml_d cX11_readsLodger 145 (.getfield 135) 3 148 := ⟨by decide +kernel, rfl⟩
theorem dX11_readsLodger_148 : ml_d cX11_readsLodger 148 (.iastore) 1 149 := ⟨by decide +kernel, rfl⟩
theorem dX11_readsLodger_149 : ml_d cX11_readsLodger 149 (.iinc 3 1) 3 152 := ⟨by decide +kernel, rfl⟩
theorem dX11_readsLodger_152 : ml_j cX11_readsLodger 152 .goto 89 155 := ⟨(-63), by decide +kernel, by decide, rfl⟩
theorem dX11_readsLodger_155 : ml_d cX11_readsLodger 155 (.aload_n 0) 1 156 := ⟨by decide +kernel, rfl⟩
theorem dX11_readsLodger_156 : ml_d cX11_readsLodger 156 (.dup) 1 157 := ⟨by decide +kernel, rfl⟩
theorem dX11_readsLodger_157 : ml_d cX11_readsLodger 157 (.getfield 138) 3 160 := ⟨by decide +kernel, rfl⟩
theorem dX11_readsLodger_160 : ml_d cX11_readsLodger 160 (.iconst 1) 1 161 := ⟨by decide +kernel, rfl⟩
theorem dX11_readsLodger_161 : ml_d cX11_readsLodger 161 (.iadd) 1 162 := ⟨by decide +kernel, rfl⟩
theorem dX11_readsLodger_162 : ml_d cX11_readsLodger 162 (.putfield 138) 3 165 := ⟨by decide +kernel, rfl⟩
theorem dX11_readsLodger_165 : ml_d cX11_readsLodger 165 (.iconst 1) 1 166 := ⟨by decide +kernel, rfl⟩
theorem dX11_readsLodger_166 : ml_d cX11_readsLodger 166 (.ireturn) 1 167 := ⟨by decide +kernel, rfl⟩
def fX11_readsLodger_118 (k89 : Nat → Int32 → Int32 → Int32 → ml_M → Option (Int32 × ml_M)) (l0 : Nat) (l1 : Int32) (l2 : Int32) (l3 : Int32) (t0 : Int32) (t1 : Int32) (t2 : Nat) (m : ml_M) : Option (Int32 × ml_M) :=
    if (ml_K m t2).1 = 11 then
    ml_b2 (fX11_sign t2 t1 t0 m) fun r1102 m1103 =>
    if r1102 = 0 then
    some ((0 : Int32), m1103)
    else
    if (ml_K m1103 l0).1 = 11 then
    ml_b2 (fX11_figure l0 l1 (1 : Int32) (9 : Int32) m1103) fun r1106 m1107 =>
    if r1106 = 0 then
    some ((0 : Int32), m1107)
    else
    if (ml_K m1107 l0).1 = 11 then
    ml_let (ml_R m1107 l0 20) fun a1109 =>
    if ml_in m1107 a1109 20 (l2 + l3) then
    ml_let (ml_sI m1107 a1109 (l2 + l3).toNatClampNeg (ml_I m1107 l0 16)) fun m1111 =>
    k89 l0 l1 l2 (l3 + (1 : Int32)) m1111
    else none
    else none
    else none
    else none
theorem vX11_readsLodger_118 {E : ml_E} (hL : ml_eL E = 4) {rv : Int32} {rm : ml_M} (hr : ∀ (pc pc' : Nat) (lv : List (Nat × ml_X)), ml_d cX11_readsLodger pc .ireturn 1 pc' → (rv = 0 ∨ rv = 1) → ml_V E "LostRoomModel" cX11_readsLodger 4 false rm pc lv [ml_i rv]) {k89 : Nat → Int32 → Int32 → Int32 → ml_M → Option (Int32 × ml_M)} (hk89 : ∀ (l0 : Nat) (l1 : Int32) (l2 : Int32) (l3 : Int32) (m : ml_M), k89 l0 l1 l2 l3 m = some (rv, rm) → ml_V E "LostRoomModel" cX11_readsLodger 4 false m 89 [(0, ml_r l0), (1, ml_i l1), (2, ml_i l2), (3, ml_i l3)] []) : ∀ (l0 : Nat) (l1 : Int32) (l2 : Int32) (l3 : Int32) (t0 : Int32) (t1 : Int32) (t2 : Nat) (m : ml_M), fX11_readsLodger_118 k89 l0 l1 l2 l3 t0 t1 t2 m = some (rv, rm) → ml_V E "LostRoomModel" cX11_readsLodger 4 false m 118 [(0, ml_r l0), (1, ml_i l1), (2, ml_i l2), (3, ml_i l3)] [ml_i t0, ml_i t1, ml_r t2] := by
  intro l0 l1 l2 l3 t0 t1 t2 m h
  unfold fX11_readsLodger_118 at h
  exact ml_ck_of h fun hc1101 h => ml_b2_of h fun r1102 m1103 hv1100 h => ml_callV dX11_readsLodger_118 wm_240 wb_163 hc1101 (sX11_sign hv1100) rfl (Nat.le_of_ble_eq_true rfl) (Nat.le_of_ble_eq_true rfl) rfl <| ml_if_eq dX11_readsLodger_121 h (fun _ h => ml_iconst dX11_readsLodger_135 kc_i0 <| ml_rI (mk := ml_i) hr dX11_readsLodger_136 (fun e => Or.inl e.symm) h) (fun _ h => ml_aload_n dX11_readsLodger_124 0 rfl <| ml_iload_n dX11_readsLodger_125 1 rfl <| ml_iconst dX11_readsLodger_126 kc_i1 <| ml_bipush dX11_readsLodger_127 kc_b9 <| ml_ck_of h fun hc1105 h => ml_b2_of h fun r1106 m1107 hv1104 h => ml_callV dX11_readsLodger_129 wm_244 wb_164 hc1105 (sX11_figure hv1104) rfl (Nat.le_of_ble_eq_true rfl) (Nat.le_of_ble_eq_true rfl) rfl <| ml_if_ne dX11_readsLodger_132 h (fun _ h => ml_aload_n dX11_readsLodger_137 0 rfl <| ml_ck_of h fun hc1108 h => ml_getR dX11_readsLodger_138 wb_165 hc1108 <| ml_lx (mk := ml_r) h fun a1109 h => ml_iload_n dX11_readsLodger_141 2 rfl <| ml_iload_n dX11_readsLodger_142 3 rfl <| ml_iadd dX11_readsLodger_143 <| ml_aload_n dX11_readsLodger_144 0 rfl <| ml_getI dX11_readsLodger_145 wb_162 hc1108 <| ml_ck_of h fun hi1110 h => ml_iast dX11_readsLodger_148 hi1110 <| ml_lt (m := m1107) rfl h fun m1111 em1112 h => ml_iinc (lv' := [(3, ml_i (l3 + (1 : Int32))), (0, ml_r l0), (1, ml_i l1), (2, ml_i l2)]) dX11_readsLodger_149 3 rfl (congrArg (l3 + ·) kc_i1) (ml_hn hL rfl) rfl <| ml_goto dX11_readsLodger_152 <| ml_V.sub [1, 2, 3, 0] rfl (hk89 _ _ _ _ _ h)) (fun _ h => ml_iconst dX11_readsLodger_135 kc_i0 <| ml_rI (mk := ml_i) hr dX11_readsLodger_136 (fun e => Or.inl e.symm) h))
def fX11_readsLodger_155 (l0 : Nat) (m : ml_M) : Option (Int32 × ml_M) :=
    if (ml_K m l0).1 = 11 then
    ml_let (ml_sI m l0 17 ((ml_I m l0 17) + (1 : Int32))) fun m1114 =>
    some ((1 : Int32), m1114)
    else none
theorem vX11_readsLodger_155 {E : ml_E} (hL : ml_eL E = 4) {rv : Int32} {rm : ml_M} (hr : ∀ (pc pc' : Nat) (lv : List (Nat × ml_X)), ml_d cX11_readsLodger pc .ireturn 1 pc' → (rv = 0 ∨ rv = 1) → ml_V E "LostRoomModel" cX11_readsLodger 4 false rm pc lv [ml_i rv]) : ∀ (l0 : Nat) (m : ml_M), fX11_readsLodger_155 l0 m = some (rv, rm) → ml_V E "LostRoomModel" cX11_readsLodger 4 false m 155 [(0, ml_r l0)] [] := by
  intro l0 m h
  unfold fX11_readsLodger_155 at h
  exact ml_aload_n dX11_readsLodger_155 0 rfl <| ml_dup dX11_readsLodger_156 rfl <| ml_ck_of h fun hc1113 h => ml_getI dX11_readsLodger_157 wb_166 hc1113 <| ml_iconst dX11_readsLodger_160 kc_i1 <| ml_iadd dX11_readsLodger_161 <| ml_putI dX11_readsLodger_162 wb_167 hc1113 <| ml_lt (m := m) rfl h fun m1114 em1115 h => ml_iconst dX11_readsLodger_165 kc_i1 <| ml_rI (mk := ml_i) hr dX11_readsLodger_166 (fun e => Or.inr e.symm) h
def fX11_readsLodger_89 : Nat → Nat → Int32 → Int32 → Int32 → ml_M → Option (Int32 × ml_M)
  | 0, _, _, _, _, _ => none
  | fu + 1, l0, l1, l2, l3, m =>
    if (5 : Int32) ≤ l3 then
    fX11_readsLodger_155 l0 m
    else
    if l3 = (2 : Int32) then
    fX11_readsLodger_118 (fX11_readsLodger_89 fu) l0 l1 l2 l3 (115 : Int32) l1 l0 m
    else
    if l3 = (3 : Int32) then
    fX11_readsLodger_118 (fX11_readsLodger_89 fu) l0 l1 l2 l3 (116 : Int32) l1 l0 m
    else
    fX11_readsLodger_118 (fX11_readsLodger_89 fu) l0 l1 l2 l3 (104 : Int32) l1 l0 m
theorem vX11_readsLodger_89 {E : ml_E} (hL : ml_eL E = 4) {rv : Int32} {rm : ml_M} (hr : ∀ (pc pc' : Nat) (lv : List (Nat × ml_X)), ml_d cX11_readsLodger pc .ireturn 1 pc' → (rv = 0 ∨ rv = 1) → ml_V E "LostRoomModel" cX11_readsLodger 4 false rm pc lv [ml_i rv]) : ∀ (fu : Nat) (l0 : Nat) (l1 : Int32) (l2 : Int32) (l3 : Int32) (m : ml_M), fX11_readsLodger_89 fu l0 l1 l2 l3 m = some (rv, rm) → ml_V E "LostRoomModel" cX11_readsLodger 4 false m 89 [(0, ml_r l0), (1, ml_i l1), (2, ml_i l2), (3, ml_i l3)] [] := by
  intro fu
  induction fu with
  | zero => intro l0 l1 l2 l3 m h; exact ml_none h
  | succ fu ih =>
    intro l0 l1 l2 l3 m h
    have hk89 := ih
    unfold fX11_readsLodger_89 at h
    exact ml_iload_n dX11_readsLodger_89 3 rfl <| ml_iconst dX11_readsLodger_90 kc_i5 <| ml_icmp_ge dX11_readsLodger_91 h (fun _ h => ml_V.sub [0] rfl (vX11_readsLodger_155 hL hr  _ _ h)) (fun _ h => ml_aload_n dX11_readsLodger_94 0 rfl <| ml_iload_n dX11_readsLodger_95 1 rfl <| ml_iload_n dX11_readsLodger_96 3 rfl <| ml_iconst dX11_readsLodger_97 kc_i2 <| ml_icmp_ne dX11_readsLodger_98 h (fun _ h => ml_iload_n dX11_readsLodger_106 3 rfl <| ml_iconst dX11_readsLodger_107 kc_i3 <| ml_icmp_ne dX11_readsLodger_108 h (fun _ h => ml_bipush dX11_readsLodger_116 kc_b104 <| ml_V.sub [0, 1, 2, 3] rfl (vX11_readsLodger_118 hL hr hk89 _ _ _ _ _ _ _ _ h)) (fun _ h => ml_bipush dX11_readsLodger_111 kc_b116 <| ml_goto dX11_readsLodger_113 <| ml_V.sub [0, 1, 2, 3] rfl (vX11_readsLodger_118 hL hr hk89 _ _ _ _ _ _ _ _ h))) (fun _ h => ml_bipush dX11_readsLodger_101 kc_b115 <| ml_goto dX11_readsLodger_103 <| ml_V.sub [0, 1, 2, 3] rfl (vX11_readsLodger_118 hL hr hk89 _ _ _ _ _ _ _ _ h)))
def fX11_readsLodger (l0 : Nat) (l1 : Int32) (m : ml_M) : Option (Int32 × ml_M) :=
    if (ml_K m l0).1 = 11 then
    if (ml_I m l0 17) = (8 : Int32) then
    some ((0 : Int32), m)
    else
    ml_let (ml_sI m l0 15 ((ml_I m l0 15) + (1 : Int32))) fun m1117 =>
    ml_let ((5 : Int32) * (ml_I m1117 l0 17)) fun x1119 =>
    ml_b2 (fX11_year l0 l1 (0 : Int32) m1117) fun r1121 m1122 =>
    if r1121 = 0 then
    some ((0 : Int32), m1122)
    else
    if (ml_K m1122 l0).1 = 11 then
    ml_let (ml_R m1122 l0 20) fun a1124 =>
    if ml_in m1122 a1124 20 x1119 then
    ml_let (ml_sI m1122 a1124 x1119.toNatClampNeg (ml_I m1122 l0 16)) fun m1126 =>
    ml_b2 (fX11_sign l0 l1 (45 : Int32) m1126) fun r1129 m1130 =>
    if r1129 = 0 then
    some ((0 : Int32), m1130)
    else
    if (ml_K m1130 l0).1 = 11 then
    ml_let (ml_R m1130 l0 20) fun a1132 =>
    if ml_in m1130 a1132 20 x1119 then
    ml_b2 (fX11_year l0 l1 (ml_I m1130 a1132 x1119.toNatClampNeg) m1130) fun r1135 m1136 =>
    if r1135 = 0 then
    some ((0 : Int32), m1136)
    else
    if (ml_K m1136 l0).1 = 11 then
    ml_let (ml_R m1136 l0 20) fun a1138 =>
    if ml_in m1136 a1138 20 (x1119 + (1 : Int32)) then
    ml_let (ml_sI m1136 a1138 (x1119 + (1 : Int32)).toNatClampNeg (ml_I m1136 l0 16)) fun m1140 =>
    fX11_readsLodger_89 ml_fu l0 l1 x1119 (2 : Int32) m1140
    else none
    else none
    else none
    else none
    else none
    else none
    else none
theorem wX11_readsLodger_0 {E : ml_E} (hL : ml_eL E = 4) {rv : Int32} {rm : ml_M} (hr : ∀ (pc pc' : Nat) (lv : List (Nat × ml_X)), ml_d cX11_readsLodger pc .ireturn 1 pc' → (rv = 0 ∨ rv = 1) → ml_V E "LostRoomModel" cX11_readsLodger 4 false rm pc lv [ml_i rv]) : ∀ (l0 : Nat) (l1 : Int32) (m : ml_M), fX11_readsLodger l0 l1 m = some (rv, rm) → ml_V E "LostRoomModel" cX11_readsLodger 4 false m 0 [(0, ml_r l0), (1, ml_i l1)] [] := by
  intro l0 l1 m h
  unfold fX11_readsLodger at h
  exact ml_aload_n dX11_readsLodger_0 0 rfl <| ml_ck_of h fun hc1116 h => ml_getI dX11_readsLodger_1 wb_166 hc1116 <| ml_bipush dX11_readsLodger_4 kc_b8 <| ml_icmp_ne dX11_readsLodger_6 h (fun _ h => ml_aload_n dX11_readsLodger_11 0 rfl <| ml_dup dX11_readsLodger_12 rfl <| ml_getI dX11_readsLodger_13 wb_159 hc1116 <| ml_iconst dX11_readsLodger_16 kc_i1 <| ml_iadd dX11_readsLodger_17 <| ml_putI dX11_readsLodger_18 wb_161 hc1116 <| ml_lt (m := m) rfl h fun m1117 em1118 h => ml_iconst dX11_readsLodger_21 kc_i5 <| ml_aload_n dX11_readsLodger_22 0 rfl <| ml_getI dX11_readsLodger_23 wb_166 (ml_kk em1118 hc1116) <| ml_imul dX11_readsLodger_26 <| ml_lx (mk := ml_i) h fun x1119 h => ml_istore_n (lv' := [(2, ml_i x1119), (0, ml_r l0), (1, ml_i l1)]) dX11_readsLodger_27 (ml_hn hL rfl) rfl <| ml_aload_n dX11_readsLodger_28 1 rfl <| ml_iload_n dX11_readsLodger_29 2 rfl <| ml_iconst dX11_readsLodger_30 kc_i0 <| ml_b2_of h fun r1121 m1122 hv1120 h => ml_callV dX11_readsLodger_31 wm_249 wb_168 (ml_kk em1118 hc1116) (sX11_year hv1120) rfl (Nat.le_of_ble_eq_true rfl) (Nat.le_of_ble_eq_true rfl) rfl <| ml_if_ne dX11_readsLodger_34 h (fun _ h => ml_aload_n dX11_readsLodger_39 1 rfl <| ml_ck_of h fun hc1123 h => ml_getR dX11_readsLodger_40 wb_165 hc1123 <| ml_lx (mk := ml_r) h fun a1124 h => ml_iload_n dX11_readsLodger_43 0 rfl <| ml_aload_n dX11_readsLodger_44 1 rfl <| ml_getI dX11_readsLodger_45 wb_162 hc1123 <| ml_ck_of h fun hi1125 h => ml_iast dX11_readsLodger_48 hi1125 <| ml_lt (m := m1122) rfl h fun m1126 em1127 h => ml_aload_n dX11_readsLodger_49 1 rfl <| ml_iload_n dX11_readsLodger_50 2 rfl <| ml_bipush dX11_readsLodger_51 kc_b45 <| ml_b2_of h fun r1129 m1130 hv1128 h => ml_callV dX11_readsLodger_53 wm_240 wb_163 (ml_kk em1127 hc1123) (sX11_sign hv1128) rfl (Nat.le_of_ble_eq_true rfl) (Nat.le_of_ble_eq_true rfl) rfl <| ml_if_eq dX11_readsLodger_56 h (fun _ h => ml_iconst dX11_readsLodger_73 kc_i0 <| ml_rI (mk := ml_i) hr dX11_readsLodger_74 (fun e => Or.inl e.symm) h) (fun _ h => ml_aload_n dX11_readsLodger_59 1 rfl <| ml_iload_n dX11_readsLodger_60 2 rfl <| ml_aload_n dX11_readsLodger_61 1 rfl <| ml_ck_of h fun hc1131 h => ml_getR dX11_readsLodger_62 wb_165 hc1131 <| ml_lx (mk := ml_r) h fun a1132 h => ml_iload_n dX11_readsLodger_65 0 rfl <| ml_ck_of h fun hi1133 h => ml_iald dX11_readsLodger_66 hi1133 <| ml_b2_of h fun r1135 m1136 hv1134 h => ml_callV dX11_readsLodger_67 wm_249 wb_168 hc1131 (sX11_year hv1134) rfl (Nat.le_of_ble_eq_true rfl) (Nat.le_of_ble_eq_true rfl) rfl <| ml_if_ne dX11_readsLodger_70 h (fun _ h => ml_aload_n dX11_readsLodger_75 1 rfl <| ml_ck_of h fun hc1137 h => ml_getR dX11_readsLodger_76 wb_165 hc1137 <| ml_lx (mk := ml_r) h fun a1138 h => ml_iload_n dX11_readsLodger_79 0 rfl <| ml_iconst dX11_readsLodger_80 kc_i1 <| ml_iadd dX11_readsLodger_81 <| ml_aload_n dX11_readsLodger_82 1 rfl <| ml_getI dX11_readsLodger_83 wb_162 hc1137 <| ml_ck_of h fun hi1139 h => ml_iast dX11_readsLodger_86 hi1139 <| ml_lt (m := m1136) rfl h fun m1140 em1141 h => ml_iconst dX11_readsLodger_87 kc_i2 <| ml_istore_n (lv' := [(3, ml_i (2 : Int32)), (2, ml_i x1119), (0, ml_r l0), (1, ml_i l1)]) dX11_readsLodger_88 (ml_hn hL rfl) rfl <| ml_V.sub [2, 3, 1, 0] rfl (vX11_readsLodger_89 hL hr  ml_fu _ _ _ _ _ h)) (fun _ h => ml_iconst dX11_readsLodger_73 kc_i0 <| ml_rI (mk := ml_i) hr dX11_readsLodger_74 (fun e => Or.inl e.symm) h))) (fun _ h => ml_iconst dX11_readsLodger_37 kc_i0 <| ml_rI (mk := ml_i) hr dX11_readsLodger_38 (fun e => Or.inl e.symm) h)) (fun _ h => ml_iconst dX11_readsLodger_9 kc_i0 <| ml_rI (mk := ml_i) hr dX11_readsLodger_10 (fun e => Or.inl e.symm) h)
theorem sX11_readsLodger {l0 : Nat} {l1 : Int32} {m : ml_M} {rv : Int32} {rm : ml_M} (h : fX11_readsLodger l0 l1 m = some (rv, rm)) : ml_Sn yX11_readsLodger cX11_readsLodger 4 (some .boolean) 4 [ml_r l0, ml_i l1] m (some (ml_i rv)) rm :=
  ml_Sn_of (P := (rv = 0 ∨ rv = 1)) (ini := false) (by decide +kernel) (Nat.le_of_ble_eq_true rfl) (fun h => by cases h) (fun hz => ml_RkZ rv hz) fun E hL hr => wX11_readsLodger_0 hL hr _ _ _ h
theorem dX11_readsTrunk_0 : ml_d cX11_readsTrunk 0 (.aload_n 0) 1 1 := ⟨by decide +kernel, rfl⟩
theorem dX11_readsTrunk_1 : ml_d cX11_readsTrunk 1 (.getfield 151) 3 4 := ⟨by decide +kernel, rfl⟩
theorem dX11_readsTrunk_4 : ml_d cX11_readsTrunk 4 (.bipush 8) 2 6 := ⟨by decide +kernel, rfl⟩
theorem dX11_readsTrunk_6 : ml_j cX11_readsTrunk 6 (.if_icmp .ne) 11 9 := ⟨5, by decide +kernel, by decide, rfl⟩
theorem dX11_readsTrunk_9 : ml_d cX11_readsTrunk 9 (.iconst 0) 1 10 := ⟨by decide +kernel, rfl⟩
theorem dX11_readsTrunk_10 : ml_d cX11_readsTrunk 10 (.ireturn) 1 11 := ⟨by decide +kernel, rfl⟩
theorem dX11_readsTrunk_11 : ml_d cX11_readsTrunk 11 (.aload_n 0) 1 12 := ⟨by decide +kernel, rfl⟩
theorem dX11_readsTrunk_12 : ml_d cX11_readsTrunk 12 (.dup) 1 13 := ⟨by decide +kernel, rfl⟩
theorem dX11_readsTrunk_13 : ml_d cX11_readsTrunk 13 (.getfield 129) 3 16 := ⟨by decide +kernel, rfl⟩
theorem dX11_readsTrunk_16 : ml_d cX11_readsTrunk 16 (.iconst 1) 1 17 := ⟨by decide +kernel, rfl⟩
theorem dX11_readsTrunk_17 : ml_d cX11_readsTrunk 17 (.iadd) 1 18 := ⟨by decide +kernel, rfl⟩
theorem dX11_readsTrunk_18 : ml_d cX11_readsTrunk 18 (.putfield 129) 3 21 := ⟨by decide +kernel, rfl⟩
theorem dX11_readsTrunk_21 : ml_d cX11_readsTrunk 21 (.iconst 0) 1 22 := ⟨by decide +kernel, rfl⟩
theorem dX11_readsTrunk_22 : ml_d cX11_readsTrunk 22 (.istore_n 2) 1 23 := ⟨by decide +kernel, rfl⟩
theorem dX11_readsTrunk_23 : ml_d cX11_readsTrunk 23 (.iconst 0) 1 24 := ⟨by decide +kernel, rfl⟩
theorem dX11_readsTrunk_24 : ml_d cX11_readsTrunk 24 (.istore_n 3) 1 25 := ⟨by decide +kernel, rfl⟩
theorem dX11_readsTrunk_25 : ml_d cX11_readsTrunk 25 (.iload_n 3) 1 26 := ⟨by decide +kernel, rfl⟩
theorem dX11_readsTrunk_26 : ml_d cX11_readsTrunk 26 (.iconst 4) 1 27 := ⟨by decide +kernel, rfl⟩
theorem dX11_readsTrunk_27 : ml_j cX11_readsTrunk 27 (.if_icmp .ge) 58 30 := ⟨31, by decide +kernel, by decide, rfl⟩
theorem dX11_readsTrunk_30 : ml_d cX11_readsTrunk 30 (.aload_n 0) 1 31 := ⟨by decide +kernel, rfl⟩
theorem dX11_readsTrunk_31 : ml_d cX11_readsTrunk 31 (.iload_n 1) 1 32 := ⟨by decide +kernel, rfl⟩
theorem dX11_readsTrunk_32 : ml_d cX11_readsTrunk 32 (.iconst 1) 1 33 := ⟨by decide +kernel, rfl⟩
theorem dX11_readsTrunk_33 : ml_d cX11_readsTrunk 33 (.iconst 5) 1 34 := ⟨by decide +kernel, rfl⟩
theorem dX11_readsTrunk_34 : ml_d cX11_readsTrunk 34 (.invokevirtual 148) 3 37 := ⟨by decide +kernel, rfl⟩
theorem dX11_readsTrunk_37 : ml_j cX11_readsTrunk 37 (.ifCond .ne) 42 40 := ⟨5, by decide +kernel, by decide, rfl⟩
theorem dX11_readsTrunk_40 : ml_d cX11_readsTrunk 40 (.iconst 0) 1 41 := ⟨by decide +kernel, rfl⟩
theorem dX11_readsTrunk_41 : ml_d cX11_readsTrunk 41 (.ireturn) 1 42 := ⟨by decide +kernel, rfl⟩
theorem dX11_readsTrunk_42 : ml_d cX11_readsTrunk 42 (.bipush 10) 2 44 := ⟨by decide +kernel, rfl⟩
theorem dX11_readsTrunk_44 : ml_d cX11_readsTrunk 44 (.iload_n 2) 1 45 := ⟨by decide +kernel, rfl⟩
theorem dX11_readsTrunk_45 : ml_d cX11_readsTrunk 45 (.imul) 1 46 := ⟨by decide +kernel, rfl⟩
theorem dX11_readsTrunk_46 : ml_d cX11_readsTrunk 46 (.aload_n 0) 1 47 := ⟨by decide +kernel, rfl⟩
theorem dX11_readsTrunk_47 : ml_d cX11_readsTrunk 47 (.getfield 135) 3 50 := ⟨by decide +kernel, rfl⟩
theorem dX11_readsTrunk_50 : ml_d cX11_readsTrunk 50 (.iadd) 1 51 := ⟨by decide +kernel, rfl⟩
theorem dX11_readsTrunk_51 : ml_d cX11_readsTrunk 51 (.istore_n 2) 1 52 := ⟨by decide +kernel, rfl⟩
theorem dX11_readsTrunk_52 : ml_d cX11_readsTrunk 52 (.iinc 3 1) 3 55 := ⟨by decide +kernel, rfl⟩
theorem dX11_readsTrunk_55 : ml_j cX11_readsTrunk 55 .goto 25 58 := ⟨(-30), by decide +kernel, by decide, rfl⟩
theorem dX11_readsTrunk_58 : ml_d cX11_readsTrunk 58 (.aload_n 0) 1 59 := ⟨by decide +kernel, rfl⟩
theorem dX11_readsTrunk_59 : ml_d cX11_readsTrunk 59 (.getfield 41) 3 62 := ⟨by decide +kernel, rfl⟩
theorem dX11_readsTrunk_62 : ml_d cX11_readsTrunk 62 (.iconst 2) 1 63 := ⟨by decide +kernel, rfl⟩
theorem dX11_readsTrunk_63 : ml_d cX11_readsTrunk 63 (.aload_n 0) 1 64 := ⟨by decide +kernel, rfl⟩
theorem dX11_readsTrunk_64 : ml_d cX11_readsTrunk 64 (.getfield 151) 3 67 := ⟨by decide +kernel, rfl⟩
theorem dX11_readsTrunk_67 : ml_d cX11_readsTrunk 67 (.imul) 1 68 := ⟨by decide +kernel, rfl⟩
theorem dX11_readsTrunk_68 : ml_d cX11_readsTrunk 68 (.iload_n 2) 1 69 := ⟨by decide +kernel, rfl⟩
theorem dX11_readsTrunk_69 : ml_d cX11_readsTrunk 69 (.iastore) 1 70 := ⟨by decide +kernel, rfl⟩
theorem dX11_readsTrunk_70 : ml_d cX11_readsTrunk 70 (.aload_n 0) 1 71 := ⟨by decide +kernel, rfl⟩
theorem dX11_readsTrunk_71 : ml_d cX11_readsTrunk 71 (.iload_n 1) 1 72 := ⟨by decide +kernel, rfl⟩
theorem dX11_readsTrunk_72 : ml_d cX11_readsTrunk 72 (.bipush 94) 2 74 := ⟨by decide +kernel, rfl⟩
theorem dX11_readsTrunk_74 : ml_d cX11_readsTrunk 74 (.invokevirtual 145) 3 77 := ⟨by decide +kernel, rfl⟩
theorem dX11_readsTrunk_77 : ml_j cX11_readsTrunk 77 (.ifCond .eq) 91 80 := ⟨14, by decide +kernel, by decide, rfl⟩
theorem dX11_readsTrunk_80 : ml_d cX11_readsTrunk 80 (.aload_n 0) 1 81 := ⟨by decide +kernel, rfl⟩
theorem dX11_readsTrunk_81 : ml_d cX11_readsTrunk 81 (.iload_n 1) 1 82 := ⟨by decide +kernel, rfl⟩
theorem dX11_readsTrunk_82 : ml_d cX11_readsTrunk 82 (.iconst 0) 1 83 := ⟨by decide +kernel, rfl⟩
theorem dX11_readsTrunk_83 : ml_d cX11_readsTrunk 83 (.bipush 9) 2 85 := ⟨by decide +kernel, rfl⟩
theorem dX11_readsTrunk_85 : ml_d cX11_readsTrunk 85 (.invokevirtual 148) 3 88 := ⟨by decide +kernel, rfl⟩
theorem dX11_readsTrunk_88 : ml_j cX11_readsTrunk 88 (.ifCond .ne) 93 91 := ⟨5, by decide +kernel, by decide, rfl⟩
theorem dX11_readsTrunk_91 : ml_d cX11_readsTrunk 91 (.iconst 0) 1 92 := ⟨by decide +kernel, rfl⟩
theorem dX11_readsTrunk_92 : ml_d cX11_readsTrunk 92 (.ireturn) 1 93 := ⟨by decide +kernel, rfl⟩
theorem dX11_readsTrunk_93 : ml_d cX11_readsTrunk 93 (.aload_n 0) 1 94 := ⟨by decide +kernel, rfl⟩
theorem dX11_readsTrunk_94 : ml_d cX11_readsTrunk 94 (.getfield 41) 3 97 := ⟨by decide +kernel, rfl⟩
theorem dX11_readsTrunk_97 : ml_d cX11_readsTrunk 97 (.iconst 2) 1 98 := ⟨by decide +kernel, rfl⟩
theorem dX11_readsTrunk_98 : ml_d cX11_readsTrunk 98 (.aload_n 0) 1 99 := ⟨by decide +kernel, rfl⟩
theorem dX11_readsTrunk_99 : ml_d cX11_readsTrunk 99 (.getfield 151) 3 102 := ⟨by decide +kernel, rfl⟩
theorem dX11_readsTrunk_102 : ml_d cX11_readsTrunk 102 (.imul) 1 103 := ⟨by decide +kernel, rfl⟩
theorem dX11_readsTrunk_103 : ml_d cX11_readsTrunk 103 (.iconst 1) 1 104 := ⟨by decide +kernel, rfl⟩
theorem dX11_readsTrunk_104 : ml_d cX11_readsTrunk 104 (.iadd) 1 105 := ⟨by decide +kernel, rfl⟩
theorem dX11_readsTrunk_105 : ml_d cX11_readsTrunk 105 (.aload_n 0) 1 106 := ⟨by decide +kernel, rfl⟩
theorem dX11_readsTrunk_106 : ml_d cX11_readsTrunk 106 (.getfield 135) 3 109 := ⟨by decide +kernel, rfl⟩
theorem dX11_readsTrunk_109 : ml_d cX11_readsTrunk 109 (.iastore) 1 110 := ⟨by decide +kernel, rfl⟩
theorem dX11_readsTrunk_110 : ml_d cX11_readsTrunk 110 (.aload_n 0) 1 111 := ⟨by decide +kernel, rfl⟩
theorem dX11_readsTrunk_111 : ml_d cX11_readsTrunk 111 (.dup) 1 112 := ⟨by decide +kernel, rfl⟩
theorem dX11_readsTrunk_112 : ml_d cX11_readsTrunk 112 (.getfield 151) 3 115 := ⟨by decide +kernel, rfl⟩
theorem dX11_readsTrunk_115 : ml_d cX11_readsTrunk 115 (.iconst 1) 1 116 := ⟨by decide +kernel, rfl⟩
theorem dX11_readsTrunk_116 : ml_d cX11_readsTrunk 116 (.iadd) 1 117 := ⟨by decide +kernel, rfl⟩
theorem dX11_readsTrunk_117 : ml_d cX11_readsTrunk 117 (.putfield 151) 3 120 := ⟨by decide +kernel, rfl⟩
theorem dX11_readsTrunk_120 : ml_d cX11_readsTrunk 120 (.iconst 1) 1 121 := ⟨by decide +kernel, rfl⟩
theorem dX11_readsTrunk_121 : ml_d cX11_readsTrunk 121 (.ireturn) 1 122 := ⟨by decide +kernel, rfl⟩
def fX11_readsTrunk_58 (l0 : Nat) (l1 : Int32) (l2 : Int32) (m : ml_M) : Option (Int32 × ml_M) :=
    if (ml_K m l0).1 = 11 then
    ml_let (ml_R m l0 21) fun a1143 =>
    if ml_in m a1143 20 ((2 : Int32) * (ml_I m l0 18)) then
    ml_let (ml_sI m a1143 ((2 : Int32) * (ml_I m l0 18)).toNatClampNeg l2) fun m1145 =>
    ml_b2 (fX11_sign l0 l1 (94 : Int32) m1145) fun r1148 m1149 =>
    if r1148 = 0 then
    some ((0 : Int32), m1149)
    else
    if (ml_K m1149 l0).1 = 11 then
    ml_b2 (fX11_figure l0 l1 (0 : Int32) (9 : Int32) m1149) fun r1152 m1153 =>
    if r1152 = 0 then
    some ((0 : Int32), m1153)
    else
    if (ml_K m1153 l0).1 = 11 then
    ml_let (ml_R m1153 l0 21) fun a1155 =>
    if ml_in m1153 a1155 20 (((2 : Int32) * (ml_I m1153 l0 18)) + (1 : Int32)) then
    ml_let (ml_sI m1153 a1155 (((2 : Int32) * (ml_I m1153 l0 18)) + (1 : Int32)).toNatClampNeg (ml_I m1153 l0 16)) fun m1157 =>
    ml_let (ml_sI m1157 l0 18 ((ml_I m1157 l0 18) + (1 : Int32))) fun m1159 =>
    some ((1 : Int32), m1159)
    else none
    else none
    else none
    else none
    else none
theorem vX11_readsTrunk_58 {E : ml_E} (hL : ml_eL E = 4) {rv : Int32} {rm : ml_M} (hr : ∀ (pc pc' : Nat) (lv : List (Nat × ml_X)), ml_d cX11_readsTrunk pc .ireturn 1 pc' → (rv = 0 ∨ rv = 1) → ml_V E "LostRoomModel" cX11_readsTrunk 4 false rm pc lv [ml_i rv]) : ∀ (l0 : Nat) (l1 : Int32) (l2 : Int32) (m : ml_M), fX11_readsTrunk_58 l0 l1 l2 m = some (rv, rm) → ml_V E "LostRoomModel" cX11_readsTrunk 4 false m 58 [(0, ml_r l0), (1, ml_i l1), (2, ml_i l2)] [] := by
  intro l0 l1 l2 m h
  unfold fX11_readsTrunk_58 at h
  exact ml_aload_n dX11_readsTrunk_58 0 rfl <| ml_ck_of h fun hc1142 h => ml_getR dX11_readsTrunk_59 wb_169 hc1142 <| ml_lx (mk := ml_r) h fun a1143 h => ml_iconst dX11_readsTrunk_62 kc_i2 <| ml_aload_n dX11_readsTrunk_63 0 rfl <| ml_getI dX11_readsTrunk_64 wb_170 hc1142 <| ml_imul dX11_readsTrunk_67 <| ml_iload_n dX11_readsTrunk_68 2 rfl <| ml_ck_of h fun hi1144 h => ml_iast dX11_readsTrunk_69 hi1144 <| ml_lt (m := m) rfl h fun m1145 em1146 h => ml_aload_n dX11_readsTrunk_70 0 rfl <| ml_iload_n dX11_readsTrunk_71 1 rfl <| ml_bipush dX11_readsTrunk_72 kc_b94 <| ml_b2_of h fun r1148 m1149 hv1147 h => ml_callV dX11_readsTrunk_74 wm_240 wb_163 (ml_kk em1146 hc1142) (sX11_sign hv1147) rfl (Nat.le_of_ble_eq_true rfl) (Nat.le_of_ble_eq_true rfl) rfl <| ml_if_eq dX11_readsTrunk_77 h (fun _ h => ml_iconst dX11_readsTrunk_91 kc_i0 <| ml_rI (mk := ml_i) hr dX11_readsTrunk_92 (fun e => Or.inl e.symm) h) (fun _ h => ml_aload_n dX11_readsTrunk_80 0 rfl <| ml_iload_n dX11_readsTrunk_81 1 rfl <| ml_iconst dX11_readsTrunk_82 kc_i0 <| ml_bipush dX11_readsTrunk_83 kc_b9 <| ml_ck_of h fun hc1151 h => ml_b2_of h fun r1152 m1153 hv1150 h => ml_callV dX11_readsTrunk_85 wm_244 wb_164 hc1151 (sX11_figure hv1150) rfl (Nat.le_of_ble_eq_true rfl) (Nat.le_of_ble_eq_true rfl) rfl <| ml_if_ne dX11_readsTrunk_88 h (fun _ h => ml_aload_n dX11_readsTrunk_93 0 rfl <| ml_ck_of h fun hc1154 h => ml_getR dX11_readsTrunk_94 wb_169 hc1154 <| ml_lx (mk := ml_r) h fun a1155 h => ml_iconst dX11_readsTrunk_97 kc_i2 <| ml_aload_n dX11_readsTrunk_98 0 rfl <| ml_getI dX11_readsTrunk_99 wb_170 hc1154 <| ml_imul dX11_readsTrunk_102 <| ml_iconst dX11_readsTrunk_103 kc_i1 <| ml_iadd dX11_readsTrunk_104 <| ml_aload_n dX11_readsTrunk_105 0 rfl <| ml_getI dX11_readsTrunk_106 wb_162 hc1154 <| ml_ck_of h fun hi1156 h => ml_iast dX11_readsTrunk_109 hi1156 <| ml_lt (m := m1153) rfl h fun m1157 em1158 h => ml_aload_n dX11_readsTrunk_110 0 rfl <| ml_dup dX11_readsTrunk_111 rfl <| ml_getI dX11_readsTrunk_112 wb_170 (ml_kk em1158 hc1154) <| ml_iconst dX11_readsTrunk_115 kc_i1 <| ml_iadd dX11_readsTrunk_116 <| ml_putI dX11_readsTrunk_117 wb_171 (ml_kk em1158 hc1154) <| ml_lt (m := m1157) rfl h fun m1159 em1160 h => ml_iconst dX11_readsTrunk_120 kc_i1 <| ml_rI (mk := ml_i) hr dX11_readsTrunk_121 (fun e => Or.inr e.symm) h) (fun _ h => ml_iconst dX11_readsTrunk_91 kc_i0 <| ml_rI (mk := ml_i) hr dX11_readsTrunk_92 (fun e => Or.inl e.symm) h))
def fX11_readsTrunk_25 : Nat → Nat → Int32 → Int32 → Int32 → ml_M → Option (Int32 × ml_M)
  | 0, _, _, _, _, _ => none
  | fu + 1, l0, l1, l2, l3, m =>
    if (4 : Int32) ≤ l3 then
    fX11_readsTrunk_58 l0 l1 l2 m
    else
    if (ml_K m l0).1 = 11 then
    ml_b2 (fX11_figure l0 l1 (1 : Int32) (5 : Int32) m) fun r1163 m1164 =>
    if r1163 = 0 then
    some ((0 : Int32), m1164)
    else
    if (ml_K m1164 l0).1 = 11 then
    ml_let (((10 : Int32) * l2) + (ml_I m1164 l0 16)) fun x1166 =>
    (fX11_readsTrunk_25 fu) l0 l1 x1166 (l3 + (1 : Int32)) m1164
    else none
    else none
theorem vX11_readsTrunk_25 {E : ml_E} (hL : ml_eL E = 4) {rv : Int32} {rm : ml_M} (hr : ∀ (pc pc' : Nat) (lv : List (Nat × ml_X)), ml_d cX11_readsTrunk pc .ireturn 1 pc' → (rv = 0 ∨ rv = 1) → ml_V E "LostRoomModel" cX11_readsTrunk 4 false rm pc lv [ml_i rv]) : ∀ (fu : Nat) (l0 : Nat) (l1 : Int32) (l2 : Int32) (l3 : Int32) (m : ml_M), fX11_readsTrunk_25 fu l0 l1 l2 l3 m = some (rv, rm) → ml_V E "LostRoomModel" cX11_readsTrunk 4 false m 25 [(0, ml_r l0), (1, ml_i l1), (2, ml_i l2), (3, ml_i l3)] [] := by
  intro fu
  induction fu with
  | zero => intro l0 l1 l2 l3 m h; exact ml_none h
  | succ fu ih =>
    intro l0 l1 l2 l3 m h
    have hk25 := ih
    unfold fX11_readsTrunk_25 at h
    exact ml_iload_n dX11_readsTrunk_25 3 rfl <| ml_iconst dX11_readsTrunk_26 kc_i4 <| ml_icmp_ge dX11_readsTrunk_27 h (fun _ h => ml_V.sub [0, 1, 2] rfl (vX11_readsTrunk_58 hL hr  _ _ _ _ h)) (fun _ h => ml_aload_n dX11_readsTrunk_30 0 rfl <| ml_iload_n dX11_readsTrunk_31 1 rfl <| ml_iconst dX11_readsTrunk_32 kc_i1 <| ml_iconst dX11_readsTrunk_33 kc_i5 <| ml_ck_of h fun hc1162 h => ml_b2_of h fun r1163 m1164 hv1161 h => ml_callV dX11_readsTrunk_34 wm_244 wb_164 hc1162 (sX11_figure hv1161) rfl (Nat.le_of_ble_eq_true rfl) (Nat.le_of_ble_eq_true rfl) rfl <| ml_if_ne dX11_readsTrunk_37 h (fun _ h => ml_bipush dX11_readsTrunk_42 kc_b10 <| ml_iload_n dX11_readsTrunk_44 2 rfl <| ml_imul dX11_readsTrunk_45 <| ml_aload_n dX11_readsTrunk_46 0 rfl <| ml_ck_of h fun hc1165 h => ml_getI dX11_readsTrunk_47 wb_162 hc1165 <| ml_iadd dX11_readsTrunk_50 <| ml_lx (mk := ml_i) h fun x1166 h => ml_istore_n (lv' := [(2, ml_i x1166), (0, ml_r l0), (1, ml_i l1), (3, ml_i l3)]) dX11_readsTrunk_51 (ml_hn hL rfl) rfl <| ml_iinc (lv' := [(3, ml_i (l3 + (1 : Int32))), (2, ml_i x1166), (0, ml_r l0), (1, ml_i l1)]) dX11_readsTrunk_52 3 rfl (congrArg (l3 + ·) kc_i1) (ml_hn hL rfl) rfl <| ml_goto dX11_readsTrunk_55 <| ml_V.sub [2, 3, 1, 0] rfl (hk25 _ _ _ _ _ h)) (fun _ h => ml_iconst dX11_readsTrunk_40 kc_i0 <| ml_rI (mk := ml_i) hr dX11_readsTrunk_41 (fun e => Or.inl e.symm) h))
def fX11_readsTrunk (l0 : Nat) (l1 : Int32) (m : ml_M) : Option (Int32 × ml_M) :=
    if (ml_K m l0).1 = 11 then
    if (ml_I m l0 18) = (8 : Int32) then
    some ((0 : Int32), m)
    else
    ml_let (ml_sI m l0 15 ((ml_I m l0 15) + (1 : Int32))) fun m1168 =>
    fX11_readsTrunk_25 ml_fu l0 l1 (0 : Int32) (0 : Int32) m1168
    else none
theorem wX11_readsTrunk_0 {E : ml_E} (hL : ml_eL E = 4) {rv : Int32} {rm : ml_M} (hr : ∀ (pc pc' : Nat) (lv : List (Nat × ml_X)), ml_d cX11_readsTrunk pc .ireturn 1 pc' → (rv = 0 ∨ rv = 1) → ml_V E "LostRoomModel" cX11_readsTrunk 4 false rm pc lv [ml_i rv]) : ∀ (l0 : Nat) (l1 : Int32) (m : ml_M), fX11_readsTrunk l0 l1 m = some (rv, rm) → ml_V E "LostRoomModel" cX11_readsTrunk 4 false m 0 [(0, ml_r l0), (1, ml_i l1)] [] := by
  intro l0 l1 m h
  unfold fX11_readsTrunk at h
  exact ml_aload_n dX11_readsTrunk_0 0 rfl <| ml_ck_of h fun hc1167 h => ml_getI dX11_readsTrunk_1 wb_170 hc1167 <| ml_bipush dX11_readsTrunk_4 kc_b8 <| ml_icmp_ne dX11_readsTrunk_6 h (fun _ h => ml_aload_n dX11_readsTrunk_11 0 rfl <| ml_dup dX11_readsTrunk_12 rfl <| ml_getI dX11_readsTrunk_13 wb_159 hc1167 <| ml_iconst dX11_readsTrunk_16 kc_i1 <| ml_iadd dX11_readsTrunk_17 <| ml_putI dX11_readsTrunk_18 wb_161 hc1167 <| ml_lt (m := m) rfl h fun m1168 em1169 h => ml_iconst dX11_readsTrunk_21 kc_i0 <| ml_istore_n (lv' := [(2, ml_i (0 : Int32)), (0, ml_r l0), (1, ml_i l1)]) dX11_readsTrunk_22 (ml_hn hL rfl) rfl <| ml_iconst dX11_readsTrunk_23 kc_i0 <| ml_istore_n (lv' := [(3, ml_i (0 : Int32)), (2, ml_i (0 : Int32)), (0, ml_r l0), (1, ml_i l1)]) dX11_readsTrunk_24 (ml_hn hL rfl) rfl <| ml_V.sub [2, 3, 1, 0] rfl (vX11_readsTrunk_25 hL hr  ml_fu _ _ _ _ _ h)) (fun _ h => ml_iconst dX11_readsTrunk_9 kc_i0 <| ml_rI (mk := ml_i) hr dX11_readsTrunk_10 (fun e => Or.inl e.symm) h)
theorem sX11_readsTrunk {l0 : Nat} {l1 : Int32} {m : ml_M} {rv : Int32} {rm : ml_M} (h : fX11_readsTrunk l0 l1 m = some (rv, rm)) : ml_Sn yX11_readsTrunk cX11_readsTrunk 4 (some .boolean) 4 [ml_r l0, ml_i l1] m (some (ml_i rv)) rm :=
  ml_Sn_of (P := (rv = 0 ∨ rv = 1)) (ini := false) (by decide +kernel) (Nat.le_of_ble_eq_true rfl) (fun h => by cases h) (fun hz => ml_RkZ rv hz) fun E hL hr => wX11_readsTrunk_0 hL hr _ _ _ h
theorem dX11_readsPile_0 : ml_d cX11_readsPile 0 (.aload_n 0) 1 1 := ⟨by decide +kernel, rfl⟩
theorem dX11_readsPile_1 : ml_d cX11_readsPile 1 (.getfield 154) 3 4 := ⟨by decide +kernel, rfl⟩
theorem dX11_readsPile_4 : ml_d cX11_readsPile 4 (.bipush 12) 2 6 := ⟨by decide +kernel, rfl⟩
theorem dX11_readsPile_6 : ml_j cX11_readsPile 6 (.if_icmp .ne) 11 9 := ⟨5, by decide +kernel, by decide, rfl⟩
theorem dX11_readsPile_9 : ml_d cX11_readsPile 9 (.iconst 0) 1 10 := ⟨by decide +kernel, rfl⟩
theorem dX11_readsPile_10 : ml_d cX11_readsPile 10 (.ireturn) 1 11 := ⟨by decide +kernel, rfl⟩
theorem dX11_readsPile_11 : ml_d cX11_readsPile 11 (.aload_n 0) 1 12 := ⟨by decide +kernel, rfl⟩
theorem dX11_readsPile_12 : ml_d cX11_readsPile 12 (.dup) 1 13 := ⟨by decide +kernel, rfl⟩
theorem dX11_readsPile_13 : ml_d cX11_readsPile 13 (.getfield 129) 3 16 := ⟨by decide +kernel, rfl⟩
theorem dX11_readsPile_16 : ml_d cX11_readsPile 16 (.iconst 1) 1 17 := ⟨by decide +kernel, rfl⟩
theorem dX11_readsPile_17 : ml_d cX11_readsPile 17 (.iadd) 1 18 := ⟨by decide +kernel, rfl⟩
theorem dX11_readsPile_18 : ml_d cX11_readsPile 18 (.putfield 129) 3 21 := ⟨by decide +kernel, rfl⟩
theorem dX11_readsPile_21 : ml_d cX11_readsPile 21 (.aload_n 0) 1 22 := ⟨by decide +kernel, rfl⟩
theorem dX11_readsPile_22 : ml_d cX11_readsPile 22 (.iload_n 1) 1 23 := ⟨by decide +kernel, rfl⟩
theorem dX11_readsPile_23 : ml_d cX11_readsPile 23 (.iconst 0) 1 24 := ⟨by decide +kernel, rfl⟩
theorem dX11_readsPile_24 : ml_d cX11_readsPile 24 (.aload_n 0) 1 25 := ⟨by decide +kernel, rfl⟩
theorem dX11_readsPile_25 : ml_d cX11_readsPile 25 (.getfield 151) 3 28 := ⟨by decide +kernel, rfl⟩
theorem dX11_readsPile_28 : ml_d cX11_readsPile 28 (.iconst 1) 1 29 := ⟨by decide +kernel, rfl⟩
theorem dX11_readsPile_29 : ml_d cX11_readsPile 29 (.isub) 1 30 := ⟨by decide +kernel, rfl⟩
theorem dX11_readsPile_30 : ml_d cX11_readsPile 30 (.invokevirtual 148) 3 33 := ⟨by decide +kernel, rfl⟩
theorem dX11_readsPile_33 : ml_j cX11_readsPile 33 (.ifCond .ne) 38 36 := ⟨5, by decide +kernel, by decide, rfl⟩
theorem dX11_readsPile_36 : ml_d cX11_readsPile 36 (.iconst 0) 1 37 := ⟨by decide +kernel, rfl⟩
theorem dX11_readsPile_37 : ml_d cX11_readsPile 37 (.ireturn) 1 38 := ⟨by decide +kernel, rfl⟩
theorem dX11_readsPile_38 : ml_d cX11_readsPile 38 (.aload_n 0) 1 39 := ⟨by decide +kernel, rfl⟩
theorem dX11_readsPile_39 : ml_d cX11_readsPile 39 (.getfield 135) 3 42 := ⟨by decide +kernel, rfl⟩
theorem dX11_readsPile_42 : ml_d cX11_readsPile 42 (.istore_n 2) 1 43 := ⟨by decide +kernel, rfl⟩
theorem dX11_readsPile_43 : ml_d cX11_readsPile 43 (.aload_n 0) 1 44 := ⟨by decide +kernel, rfl⟩
theorem dX11_readsPile_44 : ml_d cX11_readsPile 44 (.iload_n 1) 1 45 := ⟨by decide +kernel, rfl⟩
theorem dX11_readsPile_45 : ml_d cX11_readsPile 45 (.bipush 47) 2 47 := ⟨by decide +kernel, rfl⟩
theorem dX11_readsPile_47 : ml_d cX11_readsPile 47 (.invokevirtual 145) 3 50 := ⟨by decide +kernel, rfl⟩
theorem dX11_readsPile_50 : ml_j cX11_readsPile 50 (.ifCond .eq) 84 53 := ⟨34, by decide +kernel, by decide, rfl⟩
theorem dX11_readsPile_53 : ml_d cX11_readsPile 53 (.aload_n 0) 1 54 := ⟨by decide +kernel, rfl⟩
theorem dX11_readsPile_54 : ml_d cX11_readsPile 54 (.iload_n 1) 1 55 := ⟨by decide +kernel, rfl⟩
theorem dX11_readsPile_55 : ml_d cX11_readsPile 55 (.aload_n 0) 1 56 := ⟨by decide +kernel, rfl⟩
theorem dX11_readsPile_56 : ml_d cX11_readsPile 56 (.getfield 129) 3 59 := ⟨by decide +kernel, rfl⟩
theorem dX11_readsPile_59 : ml_d cX11_readsPile 59 (.invokevirtual 132) 3 62 := ⟨by decide +kernel, rfl⟩
theorem dX11_readsPile_62 : ml_d cX11_readsPile 62 (.bipush 48) 2 64 := ⟨by decide +kernel, rfl⟩
theorem dX11_readsPile_64 : ml_d cX11_readsPile 64 (.iload_n 2) 1 65 := ⟨by decide +kernel, rfl⟩
theorem dX11_readsPile_65 : ml_d cX11_readsPile 65 (.iadd) 1 66 := ⟨by decide +kernel, rfl⟩
theorem dX11_readsPile_66 : ml_j cX11_readsPile 66 (.if_icmp .eq) 84 69 := ⟨18, by decide +kernel, by decide, rfl⟩
theorem dX11_readsPile_69 : ml_d cX11_readsPile 69 (.aload_n 0) 1 70 := ⟨by decide +kernel, rfl⟩
theorem dX11_readsPile_70 : ml_d cX11_readsPile 70 (.iload_n 1) 1 71 := ⟨by decide +kernel, rfl⟩
theorem dX11_readsPile_71 : ml_d cX11_readsPile 71 (.iconst 0) 1 72 := ⟨by decide +kernel, rfl⟩
theorem dX11_readsPile_72 : ml_d cX11_readsPile 72 (.aload_n 0) 1 73 := ⟨by decide +kernel, rfl⟩
theorem dX11_readsPile_73 : ml_d cX11_readsPile 73 (.getfield 151) 3 76 := ⟨by decide +kernel, rfl⟩
theorem dX11_readsPile_76 : ml_d cX11_readsPile 76 (.iconst 1) 1 77 := ⟨by decide +kernel, rfl⟩
theorem dX11_readsPile_77 : ml_d cX11_readsPile 77 (.isub) 1 78 := ⟨by decide +kernel, rfl⟩
theorem dX11_readsPile_78 : ml_d cX11_readsPile 78 (.invokevirtual 148) 3 81 := ⟨by decide +kernel, rfl⟩
theorem dX11_readsPile_81 : ml_j cX11_readsPile 81 (.ifCond .ne) 86 84 := ⟨5, by decide +kernel, by decide, rfl⟩
theorem dX11_readsPile_84 : ml_d cX11_readsPile 84 (.iconst 0) 1 85 := ⟨by decide +kernel, rfl⟩
theorem dX11_readsPile_85 : ml_d cX11_readsPile 85 (.ireturn) 1 86 := ⟨by decide +kernel, rfl⟩
theorem dX11_readsPile_86 : ml_d cX11_readsPile 86 (.aload_n 0) 1 87 := ⟨by decide +kernel, rfl⟩
theorem dX11_readsPile_87 : ml_d cX11_readsPile 87 (.getfield 44) 3 90 := ⟨by decide +kernel, rfl⟩
theorem dX11_readsPile_90 : ml_d cX11_readsPile 90 (.iconst 2) 1 91 := ⟨by decide +kernel, rfl⟩
theorem dX11_readsPile_91 : ml_d cX11_readsPile 91 (.aload_n 0) 1 92 := ⟨by decide +kernel, rfl⟩
theorem dX11_readsPile_92 : ml_d cX11_readsPile 92 (.getfield 154) 3 95 := ⟨by decide +kernel, rfl⟩
theorem dX11_readsPile_95 : ml_d cX11_readsPile 95 (.imul) 1 96 := ⟨by decide +kernel, rfl⟩
theorem dX11_readsPile_96 : ml_d cX11_readsPile 96 (.iload_n 2) 1 97 := ⟨by decide +kernel, rfl⟩
theorem dX11_readsPile_97 : ml_d cX11_readsPile 97 (.iastore) 1 98 := ⟨by decide +kernel, rfl⟩
theorem dX11_readsPile_98 : ml_d cX11_readsPile 98 (.aload_n 0) 1 99 := ⟨by decide +kernel, rfl⟩
theorem dX11_readsPile_99 : ml_d cX11_readsPile 99 (.getfield 44) 3 102 := ⟨by decide +kernel, rfl⟩
theorem dX11_readsPile_102 : ml_d cX11_readsPile 102 (.iconst 2) 1 103 := ⟨by decide +kernel, rfl⟩
theorem dX11_readsPile_103 : ml_d cX11_readsPile 103 (.aload_n 0) 1 104 := ⟨by decide +kernel, rfl⟩
theorem dX11_readsPile_104 : ml_d cX11_readsPile 104 (.getfield 154) 3 107 := ⟨by decide +kernel, rfl⟩
theorem dX11_readsPile_107 : ml_d cX11_readsPile 107 (.imul) 1 108 := ⟨by decide +kernel, rfl⟩
theorem dX11_readsPile_108 : ml_d cX11_readsPile 108 (.iconst 1) 1 109 := ⟨by decide +kernel, rfl⟩
theorem dX11_readsPile_109 : ml_d cX11_readsPile 109 (.iadd) 1 110 := ⟨by decide +kernel, rfl⟩
theorem dX11_readsPile_110 : ml_d cX11_readsPile 110 (.aload_n 0) 1 111 := ⟨by decide +kernel, rfl⟩
theorem dX11_readsPile_111 : ml_d cX11_readsPile 111 (.getfield 135) 3 114 := ⟨by decide +kernel, rfl⟩
theorem dX11_readsPile_114 : ml_d cX11_readsPile 114 (.iastore) 1 115 := ⟨by decide +kernel, rfl⟩
theorem dX11_readsPile_115 : ml_d cX11_readsPile 115 (.aload_n 0) 1 116 := ⟨by decide +kernel, rfl⟩
theorem dX11_readsPile_116 : ml_d cX11_readsPile 116 (.dup) 1 117 := ⟨by decide +kernel, rfl⟩
theorem dX11_readsPile_117 : ml_d cX11_readsPile 117 (.getfield 154) 3 120 := ⟨by decide +kernel, rfl⟩
theorem dX11_readsPile_120 : ml_d cX11_readsPile 120 (.iconst 1) 1 121 := ⟨by decide +kernel, rfl⟩
theorem dX11_readsPile_121 : ml_d cX11_readsPile 121 (.iadd) 1 122 := ⟨by decide +kernel, rfl⟩
theorem dX11_readsPile_122 : ml_d cX11_readsPile 122 (.putfield 154) 3 125 := ⟨by decide +kernel, rfl⟩
theorem dX11_readsPile_125 : ml_d cX11_readsPile 125 (.iconst 1) 1 126 := ⟨by decide +kernel, rfl⟩
theorem dX11_readsPile_126 : ml_d cX11_readsPile 126 (.ireturn) 1 127 := ⟨by decide +kernel, rfl⟩
def fX11_readsPile (l0 : Nat) (l1 : Int32) (m : ml_M) : Option (Int32 × ml_M) :=
    if (ml_K m l0).1 = 11 then
    if (ml_I m l0 19) = (12 : Int32) then
    some ((0 : Int32), m)
    else
    ml_let (ml_sI m l0 15 ((ml_I m l0 15) + (1 : Int32))) fun m1171 =>
    ml_b2 (fX11_figure l0 l1 (0 : Int32) ((ml_I m1171 l0 18) - (1 : Int32)) m1171) fun r1174 m1175 =>
    if r1174 = 0 then
    some ((0 : Int32), m1175)
    else
    if (ml_K m1175 l0).1 = 11 then
    ml_let (ml_I m1175 l0 16) fun x1177 =>
    ml_b2 (fX11_sign l0 l1 (47 : Int32) m1175) fun r1179 m1180 =>
    if r1179 = 0 then
    some ((0 : Int32), m1180)
    else
    if (ml_K m1180 l0).1 = 11 then
    ml_b1 (fX11_byteAt l0 l1 (ml_I m1180 l0 15) m1180) fun r1183 =>
    if r1183 = ((48 : Int32) + x1177) then
    some ((0 : Int32), m1180)
    else
    ml_b2 (fX11_figure l0 l1 (0 : Int32) ((ml_I m1180 l0 18) - (1 : Int32)) m1180) fun r1185 m1186 =>
    if r1185 = 0 then
    some ((0 : Int32), m1186)
    else
    if (ml_K m1186 l0).1 = 11 then
    ml_let (ml_R m1186 l0 22) fun a1188 =>
    if ml_in m1186 a1188 20 ((2 : Int32) * (ml_I m1186 l0 19)) then
    ml_let (ml_sI m1186 a1188 ((2 : Int32) * (ml_I m1186 l0 19)).toNatClampNeg x1177) fun m1190 =>
    ml_let (ml_R m1190 l0 22) fun a1192 =>
    if ml_in m1190 a1192 20 (((2 : Int32) * (ml_I m1190 l0 19)) + (1 : Int32)) then
    ml_let (ml_sI m1190 a1192 (((2 : Int32) * (ml_I m1190 l0 19)) + (1 : Int32)).toNatClampNeg (ml_I m1190 l0 16)) fun m1194 =>
    ml_let (ml_sI m1194 l0 19 ((ml_I m1194 l0 19) + (1 : Int32))) fun m1196 =>
    some ((1 : Int32), m1196)
    else none
    else none
    else none
    else none
    else none
    else none
theorem wX11_readsPile_0 {E : ml_E} (hL : ml_eL E = 3) {rv : Int32} {rm : ml_M} (hr : ∀ (pc pc' : Nat) (lv : List (Nat × ml_X)), ml_d cX11_readsPile pc .ireturn 1 pc' → (rv = 0 ∨ rv = 1) → ml_V E "LostRoomModel" cX11_readsPile 4 false rm pc lv [ml_i rv]) : ∀ (l0 : Nat) (l1 : Int32) (m : ml_M), fX11_readsPile l0 l1 m = some (rv, rm) → ml_V E "LostRoomModel" cX11_readsPile 4 false m 0 [(0, ml_r l0), (1, ml_i l1)] [] := by
  intro l0 l1 m h
  unfold fX11_readsPile at h
  exact ml_aload_n dX11_readsPile_0 0 rfl <| ml_ck_of h fun hc1170 h => ml_getI dX11_readsPile_1 wb_172 hc1170 <| ml_bipush dX11_readsPile_4 kc_b12 <| ml_icmp_ne dX11_readsPile_6 h (fun _ h => ml_aload_n dX11_readsPile_11 0 rfl <| ml_dup dX11_readsPile_12 rfl <| ml_getI dX11_readsPile_13 wb_159 hc1170 <| ml_iconst dX11_readsPile_16 kc_i1 <| ml_iadd dX11_readsPile_17 <| ml_putI dX11_readsPile_18 wb_161 hc1170 <| ml_lt (m := m) rfl h fun m1171 em1172 h => ml_aload_n dX11_readsPile_21 0 rfl <| ml_iload_n dX11_readsPile_22 1 rfl <| ml_iconst dX11_readsPile_23 kc_i0 <| ml_aload_n dX11_readsPile_24 0 rfl <| ml_getI dX11_readsPile_25 wb_170 (ml_kk em1172 hc1170) <| ml_iconst dX11_readsPile_28 kc_i1 <| ml_isub dX11_readsPile_29 <| ml_b2_of h fun r1174 m1175 hv1173 h => ml_callV dX11_readsPile_30 wm_244 wb_164 (ml_kk em1172 hc1170) (sX11_figure hv1173) rfl (Nat.le_of_ble_eq_true rfl) (Nat.le_of_ble_eq_true rfl) rfl <| ml_if_ne dX11_readsPile_33 h (fun _ h => ml_aload_n dX11_readsPile_38 0 rfl <| ml_ck_of h fun hc1176 h => ml_getI dX11_readsPile_39 wb_162 hc1176 <| ml_lx (mk := ml_i) h fun x1177 h => ml_istore_n (lv' := [(2, ml_i x1177), (0, ml_r l0), (1, ml_i l1)]) dX11_readsPile_42 (ml_hn hL rfl) rfl <| ml_aload_n dX11_readsPile_43 1 rfl <| ml_iload_n dX11_readsPile_44 2 rfl <| ml_bipush dX11_readsPile_45 kc_b47 <| ml_b2_of h fun r1179 m1180 hv1178 h => ml_callV dX11_readsPile_47 wm_240 wb_163 hc1176 (sX11_sign hv1178) rfl (Nat.le_of_ble_eq_true rfl) (Nat.le_of_ble_eq_true rfl) rfl <| ml_if_eq dX11_readsPile_50 h (fun _ h => ml_iconst dX11_readsPile_84 kc_i0 <| ml_rI (mk := ml_i) hr dX11_readsPile_85 (fun e => Or.inl e.symm) h) (fun _ h => ml_aload_n dX11_readsPile_53 1 rfl <| ml_iload_n dX11_readsPile_54 2 rfl <| ml_aload_n dX11_readsPile_55 1 rfl <| ml_ck_of h fun hc1181 h => ml_getI dX11_readsPile_56 wb_159 hc1181 <| ml_b1_of h fun r1183 hv1182 h => ml_callV dX11_readsPile_59 wm_236 wb_160 hc1181 (sX11_byteAt hv1182) rfl (Nat.le_of_ble_eq_true rfl) (Nat.le_of_ble_eq_true rfl) rfl <| ml_bipush dX11_readsPile_62 kc_b48 <| ml_iload_n dX11_readsPile_64 0 rfl <| ml_iadd dX11_readsPile_65 <| ml_icmp_eq dX11_readsPile_66 h (fun _ h => ml_iconst dX11_readsPile_84 kc_i0 <| ml_rI (mk := ml_i) hr dX11_readsPile_85 (fun e => Or.inl e.symm) h) (fun _ h => ml_aload_n dX11_readsPile_69 1 rfl <| ml_iload_n dX11_readsPile_70 2 rfl <| ml_iconst dX11_readsPile_71 kc_i0 <| ml_aload_n dX11_readsPile_72 1 rfl <| ml_getI dX11_readsPile_73 wb_170 hc1181 <| ml_iconst dX11_readsPile_76 kc_i1 <| ml_isub dX11_readsPile_77 <| ml_b2_of h fun r1185 m1186 hv1184 h => ml_callV dX11_readsPile_78 wm_244 wb_164 hc1181 (sX11_figure hv1184) rfl (Nat.le_of_ble_eq_true rfl) (Nat.le_of_ble_eq_true rfl) rfl <| ml_if_ne dX11_readsPile_81 h (fun _ h => ml_aload_n dX11_readsPile_86 1 rfl <| ml_ck_of h fun hc1187 h => ml_getR dX11_readsPile_87 wb_173 hc1187 <| ml_lx (mk := ml_r) h fun a1188 h => ml_iconst dX11_readsPile_90 kc_i2 <| ml_aload_n dX11_readsPile_91 1 rfl <| ml_getI dX11_readsPile_92 wb_172 hc1187 <| ml_imul dX11_readsPile_95 <| ml_iload_n dX11_readsPile_96 0 rfl <| ml_ck_of h fun hi1189 h => ml_iast dX11_readsPile_97 hi1189 <| ml_lt (m := m1186) rfl h fun m1190 em1191 h => ml_aload_n dX11_readsPile_98 1 rfl <| ml_getR dX11_readsPile_99 wb_173 (ml_kk em1191 hc1187) <| ml_lx (mk := ml_r) h fun a1192 h => ml_iconst dX11_readsPile_102 kc_i2 <| ml_aload_n dX11_readsPile_103 1 rfl <| ml_getI dX11_readsPile_104 wb_172 (ml_kk em1191 hc1187) <| ml_imul dX11_readsPile_107 <| ml_iconst dX11_readsPile_108 kc_i1 <| ml_iadd dX11_readsPile_109 <| ml_aload_n dX11_readsPile_110 1 rfl <| ml_getI dX11_readsPile_111 wb_162 (ml_kk em1191 hc1187) <| ml_ck_of h fun hi1193 h => ml_iast dX11_readsPile_114 hi1193 <| ml_lt (m := m1190) rfl h fun m1194 em1195 h => ml_aload_n dX11_readsPile_115 1 rfl <| ml_dup dX11_readsPile_116 rfl <| ml_getI dX11_readsPile_117 wb_172 (ml_kk em1195 (ml_kk em1191 hc1187)) <| ml_iconst dX11_readsPile_120 kc_i1 <| ml_iadd dX11_readsPile_121 <| ml_putI dX11_readsPile_122 wb_174 (ml_kk em1195 (ml_kk em1191 hc1187)) <| ml_lt (m := m1194) rfl h fun m1196 em1197 h => ml_iconst dX11_readsPile_125 kc_i1 <| ml_rI (mk := ml_i) hr dX11_readsPile_126 (fun e => Or.inr e.symm) h) (fun _ h => ml_iconst dX11_readsPile_84 kc_i0 <| ml_rI (mk := ml_i) hr dX11_readsPile_85 (fun e => Or.inl e.symm) h)))) (fun _ h => ml_iconst dX11_readsPile_36 kc_i0 <| ml_rI (mk := ml_i) hr dX11_readsPile_37 (fun e => Or.inl e.symm) h)) (fun _ h => ml_iconst dX11_readsPile_9 kc_i0 <| ml_rI (mk := ml_i) hr dX11_readsPile_10 (fun e => Or.inl e.symm) h)
theorem sX11_readsPile {l0 : Nat} {l1 : Int32} {m : ml_M} {rv : Int32} {rm : ml_M} (h : fX11_readsPile l0 l1 m = some (rv, rm)) : ml_Sn yX11_readsPile cX11_readsPile 3 (some .boolean) 4 [ml_r l0, ml_i l1] m (some (ml_i rv)) rm :=
  ml_Sn_of (P := (rv = 0 ∨ rv = 1)) (ini := false) (by decide +kernel) (Nat.le_of_ble_eq_true rfl) (fun h => by cases h) (fun hz => ml_RkZ rv hz) fun E hL hr => wX11_readsPile_0 hL hr _ _ _ h
theorem dX11_readsItem_0 : ml_d cX11_readsItem 0 (.aload_n 0) 1 1 := ⟨by decide +kernel, rfl⟩
theorem dX11_readsItem_1 : ml_d cX11_readsItem 1 (.iload_n 1) 1 2 := ⟨by decide +kernel, rfl⟩
theorem dX11_readsItem_2 : ml_d cX11_readsItem 2 (.aload_n 0) 1 3 := ⟨by decide +kernel, rfl⟩
theorem dX11_readsItem_3 : ml_d cX11_readsItem 3 (.getfield 129) 3 6 := ⟨by decide +kernel, rfl⟩
theorem dX11_readsItem_6 : ml_d cX11_readsItem 6 (.invokevirtual 132) 3 9 := ⟨by decide +kernel, rfl⟩
theorem dX11_readsItem_9 : decode cX11_readsItem 9 = .ok (.lookupswitch 53 #[(107, 41), (108, 35), (117, 47)], 35) := by decide +kernel
theorem dX11_readsItem_44 : ml_d cX11_readsItem 44 (.aload_n 0) 1 45 := ⟨by decide +kernel, rfl⟩
theorem dX11_readsItem_45 : ml_d cX11_readsItem 45 (.iload_n 1) 1 46 := ⟨by decide +kernel, rfl⟩
theorem dX11_readsItem_46 : ml_d cX11_readsItem 46 (.invokevirtual 157) 3 49 := ⟨by decide +kernel, rfl⟩
theorem dX11_readsItem_49 : ml_d cX11_readsItem 49 (.ireturn) 1 50 := ⟨by decide +kernel, rfl⟩
theorem dX11_readsItem_50 : ml_d cX11_readsItem 50 (.aload_n 0) 1 51 := ⟨by decide +kernel, rfl⟩
theorem dX11_readsItem_51 : ml_d cX11_readsItem 51 (.iload_n 1) 1 52 := ⟨by decide +kernel, rfl⟩
theorem dX11_readsItem_52 : ml_d cX11_readsItem 52 (.invokevirtual 160) 3 55 := ⟨by decide +kernel, rfl⟩
theorem dX11_readsItem_55 : ml_d cX11_readsItem 55 (.ireturn) 1 56 := ⟨by decide +kernel, rfl⟩
theorem dX11_readsItem_56 : ml_d cX11_readsItem 56 (.aload_n 0) 1 57 := ⟨by decide +kernel, rfl⟩
theorem dX11_readsItem_57 : ml_d cX11_readsItem 57 (.iload_n 1) 1 58 := ⟨by decide +kernel, rfl⟩
theorem dX11_readsItem_58 : ml_d cX11_readsItem 58 (.invokevirtual 163) 3 61 := ⟨by decide +kernel, rfl⟩
theorem dX11_readsItem_61 : ml_d cX11_readsItem 61 (.ireturn) 1 62 := ⟨by decide +kernel, rfl⟩
theorem dX11_readsItem_62 : ml_d cX11_readsItem 62 (.iconst 0) 1 63 := ⟨by decide +kernel, rfl⟩
theorem dX11_readsItem_63 : ml_d cX11_readsItem 63 (.ireturn) 1 64 := ⟨by decide +kernel, rfl⟩
def fX11_readsItem (l0 : Nat) (l1 : Int32) (m : ml_M) : Option (Int32 × ml_M) :=
    if (ml_K m l0).1 = 11 then
    ml_b1 (fX11_byteAt l0 l1 (ml_I m l0 15) m) fun r1200 =>
    if r1200 = (107 : Int32) then
    ml_b2 (fX11_readsTrunk l0 l1 m) fun r1202 m1203 =>
    if r1202 = 0 ∨ r1202 = 1 then some (r1202, m1203) else none
    else if r1200 = (108 : Int32) then
    ml_b2 (fX11_readsLodger l0 l1 m) fun r1208 m1209 =>
    if r1208 = 0 ∨ r1208 = 1 then some (r1208, m1209) else none
    else if r1200 = (117 : Int32) then
    ml_b2 (fX11_readsPile l0 l1 m) fun r1214 m1215 =>
    if r1214 = 0 ∨ r1214 = 1 then some (r1214, m1215) else none
    else some ((0 : Int32), m)
    else none
theorem wX11_readsItem_0 {E : ml_E} (hL : ml_eL E = 2) {rv : Int32} {rm : ml_M} (hr : ∀ (pc pc' : Nat) (lv : List (Nat × ml_X)), ml_d cX11_readsItem pc .ireturn 1 pc' → (rv = 0 ∨ rv = 1) → ml_V E "LostRoomModel" cX11_readsItem 5 false rm pc lv [ml_i rv]) : ∀ (l0 : Nat) (l1 : Int32) (m : ml_M), fX11_readsItem l0 l1 m = some (rv, rm) → ml_V E "LostRoomModel" cX11_readsItem 5 false m 0 [(0, ml_r l0), (1, ml_i l1)] [] := by
  intro l0 l1 m h
  unfold fX11_readsItem at h
  exact ml_aload_n dX11_readsItem_0 0 rfl <| ml_iload_n dX11_readsItem_1 1 rfl <| ml_aload_n dX11_readsItem_2 0 rfl <| ml_ck_of h fun hc1198 h => ml_getI dX11_readsItem_3 wb_159 hc1198 <| ml_b1_of h fun r1200 hv1199 h => ml_callV dX11_readsItem_6 wm_236 wb_160 hc1198 (sX11_byteAt hv1199) rfl (Nat.le_of_ble_eq_true rfl) (Nat.le_of_ble_eq_true rfl) rfl <| ml_sw_of h (fun hq1205 h => ml_swLC (off := 41) (107 : Int32) hq1205 dX11_readsItem_9 (by decide) ⟨by decide, by decide⟩ <| ml_aload_n dX11_readsItem_50 0 rfl <| ml_iload_n dX11_readsItem_51 1 rfl <| ml_b2_of h fun r1202 m1203 hv1201 h => ml_callV dX11_readsItem_52 wm_255 wb_175 hc1198 (sX11_readsTrunk hv1201) rfl (Nat.le_of_ble_eq_true rfl) (Nat.le_of_ble_eq_true rfl) rfl <| ml_ck_of h fun hz1204 h => ml_rI (mk := ml_i) hr dX11_readsItem_55 (fun e => e ▸ hz1204) h) (fun hq1206 h => ml_sw_of h (fun hq1211 h => ml_swLC (off := 35) (108 : Int32) hq1211 dX11_readsItem_9 (by decide) ⟨by decide, by decide⟩ <| ml_aload_n dX11_readsItem_44 0 rfl <| ml_iload_n dX11_readsItem_45 1 rfl <| ml_b2_of h fun r1208 m1209 hv1207 h => ml_callV dX11_readsItem_46 wm_259 wb_176 hc1198 (sX11_readsLodger hv1207) rfl (Nat.le_of_ble_eq_true rfl) (Nat.le_of_ble_eq_true rfl) rfl <| ml_ck_of h fun hz1210 h => ml_rI (mk := ml_i) hr dX11_readsItem_49 (fun e => e ▸ hz1210) h) (fun hq1212 h => ml_sw_of h (fun hq1217 h => ml_swLC (off := 47) (117 : Int32) hq1217 dX11_readsItem_9 (by decide) ⟨by decide, by decide⟩ <| ml_aload_n dX11_readsItem_56 0 rfl <| ml_iload_n dX11_readsItem_57 1 rfl <| ml_b2_of h fun r1214 m1215 hv1213 h => ml_callV dX11_readsItem_58 wm_263 wb_177 hc1198 (sX11_readsPile hv1213) rfl (Nat.le_of_ble_eq_true rfl) (Nat.le_of_ble_eq_true rfl) rfl <| ml_ck_of h fun hz1216 h => ml_rI (mk := ml_i) hr dX11_readsItem_61 (fun e => e ▸ hz1216) h) (fun hq1218 h => ml_swL (off := 53) dX11_readsItem_9 (by decide) ((lv_osw hq1206 (show (107 : Int32).toInt = 107 from by decide)).trans ((lv_osw hq1212 (show (108 : Int32).toInt = 108 from by decide)).trans ((lv_osw hq1218 (show (117 : Int32).toInt = 117 from by decide)).trans (rfl)))) (by decide) <| ml_iconst dX11_readsItem_62 kc_i0 <| ml_rI (mk := ml_i) hr dX11_readsItem_63 (fun e => Or.inl e.symm) h)))
theorem sX11_readsItem {l0 : Nat} {l1 : Int32} {m : ml_M} {rv : Int32} {rm : ml_M} (h : fX11_readsItem l0 l1 m = some (rv, rm)) : ml_Sn yX11_readsItem cX11_readsItem 2 (some .boolean) 5 [ml_r l0, ml_i l1] m (some (ml_i rv)) rm :=
  ml_Sn_of (P := (rv = 0 ∨ rv = 1)) (ini := false) (by decide +kernel) (Nat.le_of_ble_eq_true rfl) (fun h => by cases h) (fun hz => ml_RkZ rv hz) fun E hL hr => wX11_readsItem_0 hL hr _ _ _ h
theorem dX11_faultOf_0 : ml_d cX11_faultOf 0 (.aload_n 0) 1 1 := ⟨by decide +kernel, rfl⟩
theorem dX11_faultOf_1 : ml_d cX11_faultOf 1 (.iconst 0) 1 2 := ⟨by decide +kernel, rfl⟩
theorem dX11_faultOf_2 : ml_d cX11_faultOf 2 (.putfield 129) 3 5 := ⟨by decide +kernel, rfl⟩
theorem dX11_faultOf_5 : ml_d cX11_faultOf 5 (.aload_n 0) 1 6 := ⟨by decide +kernel, rfl⟩
theorem dX11_faultOf_6 : ml_d cX11_faultOf 6 (.iconst 0) 1 7 := ⟨by decide +kernel, rfl⟩
theorem dX11_faultOf_7 : ml_d cX11_faultOf 7 (.putfield 138) 3 10 := ⟨by decide +kernel, rfl⟩
theorem dX11_faultOf_10 : ml_d cX11_faultOf 10 (.aload_n 0) 1 11 := ⟨by decide +kernel, rfl⟩
theorem dX11_faultOf_11 : ml_d cX11_faultOf 11 (.iconst 0) 1 12 := ⟨by decide +kernel, rfl⟩
theorem dX11_faultOf_12 : ml_d cX11_faultOf 12 (.putfield 151) 3 15 := ⟨by decide +kernel, rfl⟩
theorem dX11_faultOf_15 : ml_d cX11_faultOf 15 (.aload_n 0) 1 16 := ⟨by decide +kernel, rfl⟩
theorem dX11_faultOf_16 : ml_d cX11_faultOf 16 (.iconst 0) 1 17 := ⟨by decide +kernel, rfl⟩
theorem dX11_faultOf_17 : ml_d cX11_faultOf 17 (.putfield 154) 3 20 := ⟨by decide +kernel, rfl⟩
theorem dX11_faultOf_20 : ml_d cX11_faultOf 20 (.aload_n 0) 1 21 := ⟨by decide +kernel, rfl⟩
theorem dX11_faultOf_21 : ml_d cX11_faultOf 21 (.getfield 129) 3 24 := ⟨by decide +kernel, rfl⟩
theorem dX11_faultOf_24 : ml_d cX11_faultOf 24 (.aload_n 0) 1 25 := ⟨by decide +kernel, rfl⟩
theorem dX11_faultOf_25 : ml_d cX11_faultOf 25 (.getfield 22) 3 28 := ⟨by decide +kernel, rfl⟩
theorem dX11_faultOf_28 : ml_d cX11_faultOf 28 (.iload_n 1) 1 29 := ⟨by decide +kernel, rfl⟩
theorem dX11_faultOf_29 : ml_d cX11_faultOf 29 (.iaload) 1 30 := ⟨by decide +kernel, rfl⟩
theorem dX11_faultOf_30 : ml_j cX11_faultOf 30 (.if_icmp .ge) 73 33 := ⟨43, by decide +kernel, by decide, rfl⟩
theorem dX11_faultOf_33 : ml_d cX11_faultOf 33 (.aload_n 0) 1 34 := ⟨by decide +kernel, rfl⟩
theorem dX11_faultOf_34 : ml_d cX11_faultOf 34 (.iload_n 1) 1 35 := ⟨by decide +kernel, rfl⟩
theorem dX11_faultOf_35 : ml_d cX11_faultOf 35 (.aload_n 0) 1 36 := ⟨by decide +kernel, rfl⟩
theorem dX11_faultOf_36 : ml_d cX11_faultOf 36 (.getfield 129) 3 39 := ⟨by decide +kernel, rfl⟩
theorem dX11_faultOf_39 : ml_d cX11_faultOf 39 (.invokevirtual 132) 3 42 := ⟨by decide +kernel, rfl⟩
theorem dX11_faultOf_42 : ml_d cX11_faultOf 42 (.bipush 32) 2 44 := ⟨by decide +kernel, rfl⟩
theorem dX11_faultOf_44 : ml_j cX11_faultOf 44 (.if_icmp .ne) 60 47 := ⟨16, by decide +kernel, by decide, rfl⟩
theorem dX11_faultOf_47 : ml_d cX11_faultOf 47 (.aload_n 0) 1 48 := ⟨by decide +kernel, rfl⟩
theorem dX11_faultOf_48 : ml_d cX11_faultOf 48 (.dup) 1 49 := ⟨by decide +kernel, rfl⟩
theorem dX11_faultOf_49 : ml_d cX11_faultOf 49 (.getfield 129) 3 52 := ⟨by decide +kernel, rfl⟩
theorem dX11_faultOf_52 : ml_d cX11_faultOf 52 (.iconst 1) 1 53 := ⟨by decide +kernel, rfl⟩
theorem dX11_faultOf_53 : ml_d cX11_faultOf 53 (.iadd) 1 54 := ⟨by decide +kernel, rfl⟩
theorem dX11_faultOf_54 : ml_d cX11_faultOf 54 (.putfield 129) 3 57 := ⟨by decide +kernel, rfl⟩
theorem dX11_faultOf_57 : ml_j cX11_faultOf 57 .goto 20 60 := ⟨(-37), by decide +kernel, by decide, rfl⟩
theorem dX11_faultOf_60 : ml_d cX11_faultOf 60 (.aload_n 0) 1 61 := ⟨by decide +kernel, rfl⟩
theorem dX11_faultOf_61 : ml_d cX11_faultOf 61 (.iload_n 1) 1 62 := ⟨by decide +kernel, rfl⟩
theorem dX11_faultOf_62 : ml_d cX11_faultOf 62 (.invokevirtual 166) 3 65 := ⟨by decide +kernel, rfl⟩
theorem dX11_faultOf_65 : ml_j cX11_faultOf 65 (.ifCond .ne) 20 68 := ⟨(-45), by decide +kernel, by decide, rfl⟩
theorem dX11_faultOf_68 : ml_d cX11_faultOf 68 (.aload_n 0) 1 69 := ⟨by decide +kernel, rfl⟩
theorem dX11_faultOf_69 : ml_d cX11_faultOf 69 (.getfield 129) 3 72 := ⟨by decide +kernel, rfl⟩
theorem dX11_faultOf_72 : ml_d cX11_faultOf 72 (.ireturn) 1 73 := ⟨by decide +kernel, rfl⟩
theorem dX11_faultOf_73 : ml_d cX11_faultOf 73 (.bipush (-9)) 2 75 := ⟨by decide +kernel, rfl⟩
theorem dX11_faultOf_75 : ml_d cX11_faultOf 75 (.ireturn) 1 76 := ⟨by decide +kernel, rfl⟩
def fX11_faultOf_68 (l0 : Nat) (m : ml_M) : Option (Int32 × ml_M) :=
    if (ml_K m l0).1 = 11 then
    some ((ml_I m l0 15), m)
    else none
theorem vX11_faultOf_68 {E : ml_E} (hL : ml_eL E = 2) {rv : Int32} {rm : ml_M} (hr : ∀ (pc pc' : Nat) (lv : List (Nat × ml_X)), ml_d cX11_faultOf pc .ireturn 1 pc' → True → ml_V E "LostRoomModel" cX11_faultOf 6 false rm pc lv [ml_i rv]) : ∀ (l0 : Nat) (m : ml_M), fX11_faultOf_68 l0 m = some (rv, rm) → ml_V E "LostRoomModel" cX11_faultOf 6 false m 68 [(0, ml_r l0)] [] := by
  intro l0 m h
  unfold fX11_faultOf_68 at h
  exact ml_aload_n dX11_faultOf_68 0 rfl <| ml_ck_of h fun hc1219 h => ml_getI dX11_faultOf_69 wb_159 hc1219 <| ml_rI (mk := ml_i) hr dX11_faultOf_72 (fun _ => trivial) h
def fX11_faultOf_20 : Nat → Nat → Int32 → ml_M → Option (Int32 × ml_M)
  | 0, _, _, _ => none
  | fu + 1, l0, l1, m =>
    if (ml_K m l0).1 = 11 then
    ml_let (ml_R m l0 7) fun a1221 =>
    if ml_in m a1221 20 l1 then
    if (ml_I m a1221 l1.toNatClampNeg) ≤ (ml_I m l0 15) then
    some ((-9 : Int32), m)
    else
    ml_b1 (fX11_byteAt l0 l1 (ml_I m l0 15) m) fun r1224 =>
    if r1224 = (32 : Int32) then
    ml_let (ml_sI m l0 15 ((ml_I m l0 15) + (1 : Int32))) fun m1228 =>
    (fX11_faultOf_20 fu) l0 l1 m1228
    else
    ml_b2 (fX11_readsItem l0 l1 m) fun r1226 m1227 =>
    if r1226 = 0 then
    fX11_faultOf_68 l0 m1227
    else
    (fX11_faultOf_20 fu) l0 l1 m1227
    else none
    else none
theorem vX11_faultOf_20 {E : ml_E} (hL : ml_eL E = 2) {rv : Int32} {rm : ml_M} (hr : ∀ (pc pc' : Nat) (lv : List (Nat × ml_X)), ml_d cX11_faultOf pc .ireturn 1 pc' → True → ml_V E "LostRoomModel" cX11_faultOf 6 false rm pc lv [ml_i rv]) : ∀ (fu : Nat) (l0 : Nat) (l1 : Int32) (m : ml_M), fX11_faultOf_20 fu l0 l1 m = some (rv, rm) → ml_V E "LostRoomModel" cX11_faultOf 6 false m 20 [(0, ml_r l0), (1, ml_i l1)] [] := by
  intro fu
  induction fu with
  | zero => intro l0 l1 m h; exact ml_none h
  | succ fu ih =>
    intro l0 l1 m h
    have hk20 := ih
    unfold fX11_faultOf_20 at h
    exact ml_aload_n dX11_faultOf_20 0 rfl <| ml_ck_of h fun hc1220 h => ml_getI dX11_faultOf_21 wb_159 hc1220 <| ml_aload_n dX11_faultOf_24 0 rfl <| ml_getR dX11_faultOf_25 wb_63 hc1220 <| ml_lx (mk := ml_r) h fun a1221 h => ml_iload_n dX11_faultOf_28 1 rfl <| ml_ck_of h fun hi1222 h => ml_iald dX11_faultOf_29 hi1222 <| ml_icmp_ge dX11_faultOf_30 h (fun _ h => ml_bipush dX11_faultOf_73 kc_bm9 <| ml_rI (mk := ml_i) hr dX11_faultOf_75 (fun _ => trivial) h) (fun _ h => ml_aload_n dX11_faultOf_33 0 rfl <| ml_iload_n dX11_faultOf_34 1 rfl <| ml_aload_n dX11_faultOf_35 0 rfl <| ml_getI dX11_faultOf_36 wb_159 hc1220 <| ml_b1_of h fun r1224 hv1223 h => ml_callV dX11_faultOf_39 wm_236 wb_160 hc1220 (sX11_byteAt hv1223) rfl (Nat.le_of_ble_eq_true rfl) (Nat.le_of_ble_eq_true rfl) rfl <| ml_bipush dX11_faultOf_42 kc_b32 <| ml_icmp_ne dX11_faultOf_44 h (fun _ h => ml_aload_n dX11_faultOf_60 0 rfl <| ml_iload_n dX11_faultOf_61 1 rfl <| ml_b2_of h fun r1226 m1227 hv1225 h => ml_callV dX11_faultOf_62 wm_267 wb_178 hc1220 (sX11_readsItem hv1225) rfl (Nat.le_of_ble_eq_true rfl) (Nat.le_of_ble_eq_true rfl) rfl <| ml_if_ne dX11_faultOf_65 h (fun _ h => ml_V.sub [0, 1] rfl (hk20 _ _ _ h)) (fun _ h => ml_V.sub [0] rfl (vX11_faultOf_68 hL hr  _ _ h))) (fun _ h => ml_aload_n dX11_faultOf_47 0 rfl <| ml_dup dX11_faultOf_48 rfl <| ml_getI dX11_faultOf_49 wb_159 hc1220 <| ml_iconst dX11_faultOf_52 kc_i1 <| ml_iadd dX11_faultOf_53 <| ml_putI dX11_faultOf_54 wb_161 hc1220 <| ml_lt (m := m) rfl h fun m1228 em1229 h => ml_goto dX11_faultOf_57 <| ml_V.sub [0, 1] rfl (hk20 _ _ _ h)))
def fX11_faultOf (l0 : Nat) (l1 : Int32) (m : ml_M) : Option (Int32 × ml_M) :=
    if (ml_K m l0).1 = 11 then
    ml_let (ml_sI m l0 15 (0 : Int32)) fun m1231 =>
    ml_let (ml_sI m1231 l0 17 (0 : Int32)) fun m1233 =>
    ml_let (ml_sI m1233 l0 18 (0 : Int32)) fun m1235 =>
    ml_let (ml_sI m1235 l0 19 (0 : Int32)) fun m1237 =>
    fX11_faultOf_20 ml_fu l0 l1 m1237
    else none
theorem wX11_faultOf_0 {E : ml_E} (hL : ml_eL E = 2) {rv : Int32} {rm : ml_M} (hr : ∀ (pc pc' : Nat) (lv : List (Nat × ml_X)), ml_d cX11_faultOf pc .ireturn 1 pc' → True → ml_V E "LostRoomModel" cX11_faultOf 6 false rm pc lv [ml_i rv]) : ∀ (l0 : Nat) (l1 : Int32) (m : ml_M), fX11_faultOf l0 l1 m = some (rv, rm) → ml_V E "LostRoomModel" cX11_faultOf 6 false m 0 [(0, ml_r l0), (1, ml_i l1)] [] := by
  intro l0 l1 m h
  unfold fX11_faultOf at h
  exact ml_aload_n dX11_faultOf_0 0 rfl <| ml_iconst dX11_faultOf_1 kc_i0 <| ml_ck_of h fun hc1230 h => ml_putI dX11_faultOf_2 wb_161 hc1230 <| ml_lt (m := m) rfl h fun m1231 em1232 h => ml_aload_n dX11_faultOf_5 0 rfl <| ml_iconst dX11_faultOf_6 kc_i0 <| ml_putI dX11_faultOf_7 wb_167 (ml_kk em1232 hc1230) <| ml_lt (m := m1231) rfl h fun m1233 em1234 h => ml_aload_n dX11_faultOf_10 0 rfl <| ml_iconst dX11_faultOf_11 kc_i0 <| ml_putI dX11_faultOf_12 wb_171 (ml_kk em1234 (ml_kk em1232 hc1230)) <| ml_lt (m := m1233) rfl h fun m1235 em1236 h => ml_aload_n dX11_faultOf_15 0 rfl <| ml_iconst dX11_faultOf_16 kc_i0 <| ml_putI dX11_faultOf_17 wb_174 (ml_kk em1236 (ml_kk em1234 (ml_kk em1232 hc1230))) <| ml_lt (m := m1235) rfl h fun m1237 em1238 h => ml_V.sub [0, 1] rfl (vX11_faultOf_20 hL hr  ml_fu _ _ _ h)
theorem sX11_faultOf {l0 : Nat} {l1 : Int32} {m : ml_M} {rv : Int32} {rm : ml_M} (h : fX11_faultOf l0 l1 m = some (rv, rm)) : ml_Sn yX11_faultOf cX11_faultOf 2 (some .int) 6 [ml_r l0, ml_i l1] m (some (ml_i rv)) rm :=
  ml_Sn_of (P := True) (ini := false) (by decide +kernel) (Nat.le_of_ble_eq_true rfl) (fun h => by cases h) (fun _ => ml_RkI rv) fun E hL hr => wX11_faultOf_0 hL hr _ _ _ h
theorem dX11_fault_0 : ml_d cX11_fault 0 (.iload_n 1) 1 1 := ⟨by decide +kernel, rfl⟩
theorem dX11_fault_1 : ml_d cX11_fault 1 (.invokestatic 126) 3 4 := ⟨by decide +kernel, rfl⟩
theorem dX11_fault_4 : ml_j cX11_fault 4 (.ifCond .ne) 9 7 := ⟨5, by decide +kernel, by decide, rfl⟩
theorem dX11_fault_7 : ml_d cX11_fault 7 (.iconst (-1)) 1 8 := ⟨by decide +kernel, rfl⟩
theorem dX11_fault_8 : ml_d cX11_fault 8 (.ireturn) 1 9 := ⟨by decide +kernel, rfl⟩
theorem dX11_fault_9 : ml_d cX11_fault 9 (.aload_n 0) 1 10 := ⟨by decide +kernel, rfl⟩
theorem dX11_fault_10 : ml_d cX11_fault 10 (.getfield 22) 3 13 := ⟨by decide +kernel, rfl⟩
theorem dX11_fault_13 : ml_d cX11_fault 13 (.iload_n 1) 1 14 := ⟨by decide +kernel, rfl⟩
theorem dX11_fault_14 : ml_d cX11_fault 14 (.iaload) 1 15 := ⟨by decide +kernel, rfl⟩
theorem dX11_fault_15 : ml_j cX11_fault 15 (.ifCond .ge) 26 18 := ⟨11, by decide +kernel, by decide, rfl⟩
theorem dX11_fault_18 : ml_d cX11_fault 18 (.aload_n 0) 1 19 := ⟨by decide +kernel, rfl⟩
theorem dX11_fault_19 : ml_d cX11_fault 19 (.iconst 1) 1 20 := ⟨by decide +kernel, rfl⟩
theorem dX11_fault_20 : ml_d cX11_fault 20 (.invokevirtual 115) 3 23 := ⟨by decide +kernel, rfl⟩
theorem dX11_fault_23 : ml_j cX11_fault 23 .goto 31 26 := ⟨8, by decide +kernel, by decide, rfl⟩
theorem dX11_fault_26 : ml_d cX11_fault 26 (.aload_n 0) 1 27 := ⟨by decide +kernel, rfl⟩
theorem dX11_fault_27 : ml_d cX11_fault 27 (.iload_n 1) 1 28 := ⟨by decide +kernel, rfl⟩
theorem dX11_fault_28 : ml_d cX11_fault 28 (.invokevirtual 169) 3 31 := ⟨by decide +kernel, rfl⟩
theorem dX11_fault_31 : ml_d cX11_fault 31 (.ireturn) 1 32 := ⟨by decide +kernel, rfl⟩
def fX11_fault (l0 : Nat) (l1 : Int32) (m : ml_M) : Option (Int32 × ml_M) :=
    ml_b1 (fX11_isText l1 m) fun r1240 =>
    if r1240 = 0 then
    some ((-1 : Int32), m)
    else
    if (ml_K m l0).1 = 11 then
    ml_let (ml_R m l0 7) fun a1242 =>
    if ml_in m a1242 20 l1 then
    if 0 ≤ (ml_I m a1242 l1.toNatClampNeg) then
    ml_b2 (fX11_faultOf l0 l1 m) fun r1245 m1246 =>
    some (r1245, m1246)
    else
    ml_b2 (fX11_meets l0 (1 : Int32) m) fun r1248 m1249 =>
    some (r1248, m1249)
    else none
    else none
theorem wX11_fault_0 {E : ml_E} (hL : ml_eL E = 2) {rv : Int32} {rm : ml_M} (hr : ∀ (pc pc' : Nat) (lv : List (Nat × ml_X)), ml_d cX11_fault pc .ireturn 1 pc' → True → ml_V E "LostRoomModel" cX11_fault 7 false rm pc lv [ml_i rv]) : ∀ (l0 : Nat) (l1 : Int32) (m : ml_M), fX11_fault l0 l1 m = some (rv, rm) → ml_V E "LostRoomModel" cX11_fault 7 false m 0 [(0, ml_r l0), (1, ml_i l1)] [] := by
  intro l0 l1 m h
  unfold fX11_fault at h
  exact ml_iload_n dX11_fault_0 1 rfl <| ml_b1_of h fun r1240 hv1239 h => ml_callS dX11_fault_1 wm_172 wb_118 (sX11_isText hv1239) rfl (Nat.le_of_ble_eq_true rfl) (Nat.le_of_ble_eq_true rfl) rfl <| ml_if_ne dX11_fault_4 h (fun _ h => ml_aload_n dX11_fault_9 0 rfl <| ml_ck_of h fun hc1241 h => ml_getR dX11_fault_10 wb_63 hc1241 <| ml_lx (mk := ml_r) h fun a1242 h => ml_iload_n dX11_fault_13 1 rfl <| ml_ck_of h fun hi1243 h => ml_iald dX11_fault_14 hi1243 <| ml_if_ge dX11_fault_15 h (fun _ h => ml_aload_n dX11_fault_26 0 rfl <| ml_iload_n dX11_fault_27 1 rfl <| ml_b2_of h fun r1245 m1246 hv1244 h => ml_callV dX11_fault_28 wm_271 wb_179 hc1241 (sX11_faultOf hv1244) rfl (Nat.le_of_ble_eq_true rfl) (Nat.le_of_ble_eq_true rfl) rfl <| ml_rI (mk := ml_i) hr dX11_fault_31 (fun _ => trivial) h) (fun _ h => ml_aload_n dX11_fault_18 0 rfl <| ml_iconst dX11_fault_19 kc_i1 <| ml_b2_of h fun r1248 m1249 hv1247 h => ml_callV dX11_fault_20 wm_144 wb_105 hc1241 (sX11_meets hv1247) rfl (Nat.le_of_ble_eq_true rfl) (Nat.le_of_ble_eq_true rfl) rfl <| ml_goto dX11_fault_23 <| ml_rI (mk := ml_i) hr dX11_fault_31 (fun _ => trivial) h)) (fun _ h => ml_iconst dX11_fault_7 kc_im1 <| ml_rI (mk := ml_i) hr dX11_fault_8 (fun _ => trivial) h)
theorem sX11_fault {l0 : Nat} {l1 : Int32} {m : ml_M} {rv : Int32} {rm : ml_M} (h : fX11_fault l0 l1 m = some (rv, rm)) : ml_Sn yX11_fault cX11_fault 2 (some .int) 7 [ml_r l0, ml_i l1] m (some (ml_i rv)) rm :=
  ml_Sn_of (P := True) (ini := false) (by decide +kernel) (Nat.le_of_ble_eq_true rfl) (fun h => by cases h) (fun _ => ml_RkI rv) fun E hL hr => wX11_fault_0 hL hr _ _ _ h
theorem dX10_book_0 : ml_d cX10_book 0 (.iload_n 1) 1 1 := ⟨by decide +kernel, rfl⟩
theorem dX10_book_1 : ml_d cX10_book 1 (.invokestatic 103) 3 4 := ⟨by decide +kernel, rfl⟩
theorem dX10_book_4 : ml_j cX10_book 4 (.ifCond .ne) 9 7 := ⟨5, by decide +kernel, by decide, rfl⟩
theorem dX10_book_7 : ml_d cX10_book 7 (.iconst (-1)) 1 8 := ⟨by decide +kernel, rfl⟩
theorem dX10_book_8 : ml_d cX10_book 8 (.ireturn) 1 9 := ⟨by decide +kernel, rfl⟩
theorem dX10_book_9 : ml_d cX10_book 9 (.aload_n 0) 1 10 := ⟨by decide +kernel, rfl⟩
theorem dX10_book_10 : ml_d cX10_book 10 (.getfield 17) 3 13 := ⟨by decide +kernel, rfl⟩
theorem dX10_book_13 : ml_d cX10_book 13 (.iload_n 1) 1 14 := ⟨by decide +kernel, rfl⟩
theorem dX10_book_14 : ml_d cX10_book 14 (.aaload) 1 15 := ⟨by decide +kernel, rfl⟩
theorem dX10_book_15 : ml_d cX10_book 15 (.astore_n 2) 1 16 := ⟨by decide +kernel, rfl⟩
theorem dX10_book_16 : ml_d cX10_book 16 (.aload_n 2) 1 17 := ⟨by decide +kernel, rfl⟩
theorem dX10_book_17 : ml_j cX10_book 17 .ifnonnull 26 20 := ⟨9, by decide +kernel, by decide, rfl⟩
theorem dX10_book_20 : ml_d cX10_book 20 (.aload_n 0) 1 21 := ⟨by decide +kernel, rfl⟩
theorem dX10_book_21 : ml_d cX10_book 21 (.iconst 1) 1 22 := ⟨by decide +kernel, rfl⟩
theorem dX10_book_22 : ml_d cX10_book 22 (.invokevirtual 86) 3 25 := ⟨by decide +kernel, rfl⟩
theorem dX10_book_25 : ml_d cX10_book 25 (.ireturn) 1 26 := ⟨by decide +kernel, rfl⟩
theorem dX10_book_26 : ml_d cX10_book 26 (.new 21) 3 29 := ⟨by decide +kernel, rfl⟩
theorem dX10_book_29 : ml_d cX10_book 29 (.dup) 1 30 := ⟨by decide +kernel, rfl⟩
theorem dX10_book_30 : ml_d cX10_book 30 (.aload_n 2) 1 31 := ⟨by decide +kernel, rfl⟩
theorem dX10_book_31 : ml_d cX10_book 31 (.invokespecial 23) 3 34 := ⟨by decide +kernel, rfl⟩
theorem dX10_book_34 : ml_d cX10_book 34 (.astore_n 3) 1 35 := ⟨by decide +kernel, rfl⟩
theorem dX10_book_35 : ml_d cX10_book 35 (.aload_n 3) 1 36 := ⟨by decide +kernel, rfl⟩
theorem dX10_book_36 : ml_d cX10_book 36 (.invokevirtual 112) 3 39 := ⟨by decide +kernel, rfl⟩
theorem dX10_book_39 : ml_d cX10_book 39 (.aload_n 3) 1 40 := ⟨by decide +kernel, rfl⟩
theorem dX10_book_40 : ml_d cX10_book 40 (.getfield 115) 3 43 := ⟨by decide +kernel, rfl⟩
theorem dX10_book_43 : ml_d cX10_book 43 (.bipush (-9)) 2 45 := ⟨by decide +kernel, rfl⟩
theorem dX10_book_45 : ml_j cX10_book 45 (.if_icmp .eq) 51 48 := ⟨6, by decide +kernel, by decide, rfl⟩
theorem dX10_book_48 : ml_d cX10_book 48 (.bipush (-4)) 2 50 := ⟨by decide +kernel, rfl⟩
theorem dX10_book_50 : ml_d cX10_book 50 (.ireturn) 1 51 := ⟨by decide +kernel, rfl⟩
theorem dX10_book_51 : ml_d cX10_book 51 (.aload_n 0) 1 52 := ⟨by decide +kernel, rfl⟩
theorem dX10_book_52 : ml_d cX10_book 52 (.aload_n 3) 1 53 := ⟨by decide +kernel, rfl⟩
theorem dX10_book_53 : ml_d cX10_book 53 (.putfield 26) 3 56 := ⟨by decide +kernel, rfl⟩
theorem dX10_book_56 : ml_d cX10_book 56 (.aload_n 0) 1 57 := ⟨by decide +kernel, rfl⟩
theorem dX10_book_57 : ml_d cX10_book 57 (.iconst 0) 1 58 := ⟨by decide +kernel, rfl⟩
theorem dX10_book_58 : ml_d cX10_book 58 (.putfield 118) 3 61 := ⟨by decide +kernel, rfl⟩
theorem dX10_book_61 : ml_d cX10_book 61 (.aload_n 0) 1 62 := ⟨by decide +kernel, rfl⟩
theorem dX10_book_62 : ml_d cX10_book 62 (.iconst 0) 1 63 := ⟨by decide +kernel, rfl⟩
theorem dX10_book_63 : ml_d cX10_book 63 (.putfield 121) 3 66 := ⟨by decide +kernel, rfl⟩
theorem dX10_book_66 : ml_d cX10_book 66 (.aload_n 0) 1 67 := ⟨by decide +kernel, rfl⟩
theorem dX10_book_67 : ml_d cX10_book 67 (.iconst 0) 1 68 := ⟨by decide +kernel, rfl⟩
theorem dX10_book_68 : ml_d cX10_book 68 (.putfield 124) 3 71 := ⟨by decide +kernel, rfl⟩
theorem dX10_book_71 : ml_d cX10_book 71 (.aload_n 0) 1 72 := ⟨by decide +kernel, rfl⟩
theorem dX10_book_72 : ml_d cX10_book 72 (.iconst 0) 1 73 := ⟨by decide +kernel, rfl⟩
theorem dX10_book_73 : ml_d cX10_book 73 (.putfield 127) 3 76 := ⟨by decide +kernel, rfl⟩
theorem dX10_book_76 : ml_d cX10_book 76 (.aload_n 0) 1 77 := ⟨by decide +kernel, rfl⟩
theorem dX10_book_77 : ml_d cX10_book 77 (.getfield 61) 3 80 := ⟨by decide +kernel, rfl⟩
theorem dX10_book_80 : ml_d cX10_book 80 (.iconst 1) 1 81 := ⟨by decide +kernel, rfl⟩
theorem dX10_book_81 : ml_d cX10_book 81 (.putfield 130) 3 84 := ⟨by decide +kernel, rfl⟩
theorem dX10_book_84 : ml_d cX10_book 84 (.aload_n 0) 1 85 := ⟨by decide +kernel, rfl⟩
theorem dX10_book_85 : ml_d cX10_book 85 (.getfield 68) 3 88 := ⟨by decide +kernel, rfl⟩
theorem dX10_book_88 : ml_d cX10_book 88 (.iconst 1) 1 89 := ⟨by decide +kernel, rfl⟩
theorem dX10_book_89 : ml_d cX10_book 89 (.putfield 134) 3 92 := ⟨by decide +kernel, rfl⟩
theorem dX10_book_92 : ml_d cX10_book 92 (.aload_n 0) 1 93 := ⟨by decide +kernel, rfl⟩
theorem dX10_book_93 : ml_d cX10_book 93 (.getfield 26) 3 96 := ⟨by decide +kernel, rfl⟩
theorem dX10_book_96 : ml_d cX10_book 96 (.getfield 135) 3 99 := ⟨by decide +kernel, rfl⟩
theorem dX10_book_99 : ml_d cX10_book 99 (.ireturn) 1 100 := ⟨by decide +kernel, rfl⟩
def fX10_book (l0 : Nat) (l1 : Int32) (m : ml_M) : Option (Int32 × ml_M) :=
    ml_b1 (fX10_isText l1 m) fun r1251 =>
    if r1251 = 0 then
    some ((-1 : Int32), m)
    else
    if (ml_K m l0).1 = 10 then
    ml_let (ml_R m l0 1) fun a1253 =>
    if ml_in m a1253 24 l1 then
    ml_let (ml_R m a1253 l1.toNatClampNeg) fun a1255 =>
    if a1255 = 0 then
    ml_b2 (fX10_found l0 (1 : Int32) m) fun r1288 m1289 =>
    some (r1288, m1289)
    else
    ml_let (ml_n m + 1) fun a1256 =>
    ml_let (ml_al m 1 0 8) fun m1257 =>
    ml_b1 (fX1_init a1256 a1255 m1257) fun m1261 =>
    if (ml_K m1261 a1256).1 = 1 then
    ml_b1 (fX1_read a1256 m1261) fun m1264 =>
    if (ml_K m1264 a1256).1 = 1 then
    if (ml_I m1264 a1256 4) = (-9 : Int32) then
    if (ml_K m1264 l0).1 = 10 then
    ml_let (ml_sR m1264 l0 2 a1256) fun m1267 =>
    ml_let (ml_sI m1267 l0 5 (0 : Int32)) fun m1269 =>
    ml_let (ml_sI m1269 l0 7 (0 : Int32)) fun m1271 =>
    ml_let (ml_sI m1271 l0 9 (0 : Int32)) fun m1273 =>
    ml_let (ml_sI m1273 l0 11 (0 : Int32)) fun m1275 =>
    ml_let (ml_R m1275 l0 12) fun a1277 =>
    if (ml_K m1275 a1277).1 = 7 then
    ml_let (ml_sI m1275 a1277 0 (1 : Int32)) fun m1279 =>
    ml_let (ml_R m1279 l0 13) fun a1281 =>
    if (ml_K m1279 a1281).1 = 4 then
    ml_let (ml_sI m1279 a1281 0 (1 : Int32)) fun m1283 =>
    ml_let (ml_R m1283 l0 2) fun a1285 =>
    if (ml_K m1283 a1285).1 = 1 then
    some ((ml_I m1283 a1285 3), m1283)
    else none
    else none
    else none
    else none
    else
    some ((-4 : Int32), m1264)
    else none
    else none
    else none
    else none
theorem wX10_book_0 {E : ml_E} (hL : ml_eL E = 4) {rv : Int32} {rm : ml_M} (hr : ∀ (pc pc' : Nat) (lv : List (Nat × ml_X)), ml_d cX10_book pc .ireturn 1 pc' → True → ml_V E "LostRoom" cX10_book 8 false rm pc lv [ml_i rv]) : ∀ (l0 : Nat) (l1 : Int32) (m : ml_M), fX10_book l0 l1 m = some (rv, rm) → ml_V E "LostRoom" cX10_book 8 false m 0 [(0, ml_r l0), (1, ml_i l1)] [] := by
  intro l0 l1 m h
  unfold fX10_book at h
  exact ml_iload_n dX10_book_0 1 rfl <| ml_b1_of h fun r1251 hv1250 h => ml_callS dX10_book_1 wm_165 wb_114 (sX10_isText hv1250) rfl (Nat.le_of_ble_eq_true rfl) (Nat.le_of_ble_eq_true rfl) rfl <| ml_if_ne dX10_book_4 h (fun _ h => ml_aload_n dX10_book_9 0 rfl <| ml_ck_of h fun hc1252 h => ml_getR dX10_book_10 wb_116 hc1252 <| ml_lx (mk := ml_r) h fun a1253 h => ml_iload_n dX10_book_13 1 rfl <| ml_ck_of h fun hi1254 h => ml_aald (kd := 24) dX10_book_14 (by decide) hi1254 <| ml_lx (mk := ml_r) h fun a1255 h => ml_astore_n (lv' := [(2, ml_r a1255), (0, ml_r l0), (1, ml_i l1)]) dX10_book_15 (ml_hn hL rfl) rfl <| ml_aload_n dX10_book_16 0 rfl <| ml_ifnonnull dX10_book_17 h (fun _ h => ml_newOs dX10_book_26 wb_40 h fun a1256 m1257 hn1258 hc1259 h => ml_dup dX10_book_29 rfl <| ml_aload_n dX10_book_30 0 rfl <| ml_b1_of h fun m1261 hv1260 h => ml_callI dX10_book_31 wm_62 wb_42 hn1258 (sX1_init hv1260) rfl (Nat.le_of_ble_eq_true rfl) (Nat.le_of_ble_eq_true rfl) rfl <| ml_astore_n (lv' := [(3, ml_r a1256), (2, ml_r a1255), (0, ml_r l0), (1, ml_i l1)]) dX10_book_34 (ml_hn hL rfl) rfl <| ml_aload_n dX10_book_35 0 rfl <| ml_ck_of h fun hc1263 h => ml_b1_of h fun m1264 hv1262 h => ml_callV dX10_book_36 wm_229 wb_156 hc1263 (sX1_read hv1262) rfl (Nat.le_of_ble_eq_true rfl) (Nat.le_of_ble_eq_true rfl) rfl <| ml_aload_n dX10_book_39 0 rfl <| ml_ck_of h fun hc1265 h => ml_getI dX10_book_40 wb_157 hc1265 <| ml_bipush dX10_book_43 kc_bm9 <| ml_icmp_eq dX10_book_45 h (fun _ h => ml_aload_n dX10_book_51 2 rfl <| ml_aload_n dX10_book_52 0 rfl <| ml_ck_of h fun hc1266 h => ml_putR dX10_book_53 wb_180 hc1266 <| ml_lt (m := m1264) rfl h fun m1267 em1268 h => ml_aload_n dX10_book_56 2 rfl <| ml_iconst dX10_book_57 kc_i0 <| ml_putI dX10_book_58 wb_181 (ml_kk em1268 hc1266) <| ml_lt (m := m1267) rfl h fun m1269 em1270 h => ml_aload_n dX10_book_61 2 rfl <| ml_iconst dX10_book_62 kc_i0 <| ml_putI dX10_book_63 wb_182 (ml_kk em1270 (ml_kk em1268 hc1266)) <| ml_lt (m := m1269) rfl h fun m1271 em1272 h => ml_aload_n dX10_book_66 2 rfl <| ml_iconst dX10_book_67 kc_i0 <| ml_putI dX10_book_68 wb_183 (ml_kk em1272 (ml_kk em1270 (ml_kk em1268 hc1266))) <| ml_lt (m := m1271) rfl h fun m1273 em1274 h => ml_aload_n dX10_book_71 2 rfl <| ml_iconst dX10_book_72 kc_i0 <| ml_putI dX10_book_73 wb_184 (ml_kk em1274 (ml_kk em1272 (ml_kk em1270 (ml_kk em1268 hc1266)))) <| ml_lt (m := m1273) rfl h fun m1275 em1276 h => ml_aload_n dX10_book_76 2 rfl <| ml_getR dX10_book_77 wb_185 (ml_kk em1276 (ml_kk em1274 (ml_kk em1272 (ml_kk em1270 (ml_kk em1268 hc1266))))) <| ml_lx (mk := ml_r) h fun a1277 h => ml_iconst dX10_book_80 kc_i1 <| ml_ck_of h fun hc1278 h => ml_putZ dX10_book_81 wb_186 hc1278 (Or.inr rfl) <| ml_lt (m := m1275) rfl h fun m1279 em1280 h => ml_aload_n dX10_book_84 2 rfl <| ml_getR dX10_book_85 wb_187 (ml_kk em1280 (ml_kk em1276 (ml_kk em1274 (ml_kk em1272 (ml_kk em1270 (ml_kk em1268 hc1266)))))) <| ml_lx (mk := ml_r) h fun a1281 h => ml_iconst dX10_book_88 kc_i1 <| ml_ck_of h fun hc1282 h => ml_putZ dX10_book_89 wb_188 hc1282 (Or.inr rfl) <| ml_lt (m := m1279) rfl h fun m1283 em1284 h => ml_aload_n dX10_book_92 2 rfl <| ml_getR dX10_book_93 wb_189 (ml_kk em1284 (ml_kk em1280 (ml_kk em1276 (ml_kk em1274 (ml_kk em1272 (ml_kk em1270 (ml_kk em1268 hc1266))))))) <| ml_lx (mk := ml_r) h fun a1285 h => ml_ck_of h fun hc1286 h => ml_getI dX10_book_96 wb_190 hc1286 <| ml_rI (mk := ml_i) hr dX10_book_99 (fun _ => trivial) h) (fun _ h => ml_bipush dX10_book_48 kc_bm4 <| ml_rI (mk := ml_i) hr dX10_book_50 (fun _ => trivial) h)) (fun _ h => ml_aload_n dX10_book_20 1 rfl <| ml_iconst dX10_book_21 kc_i1 <| ml_b2_of h fun r1288 m1289 hv1287 h => ml_callV dX10_book_22 wm_132 wb_99 hc1252 (sX10_found hv1287) rfl (Nat.le_of_ble_eq_true rfl) (Nat.le_of_ble_eq_true rfl) rfl <| ml_rI (mk := ml_i) hr dX10_book_25 (fun _ => trivial) h)) (fun _ h => ml_iconst dX10_book_7 kc_im1 <| ml_rI (mk := ml_i) hr dX10_book_8 (fun _ => trivial) h)
theorem sX10_book {l0 : Nat} {l1 : Int32} {m : ml_M} {rv : Int32} {rm : ml_M} (h : fX10_book l0 l1 m = some (rv, rm)) : ml_Sn yX10_book cX10_book 4 (some .int) 8 [ml_r l0, ml_i l1] m (some (ml_i rv)) rm :=
  ml_Sn_of (P := True) (ini := false) (by decide +kernel) (Nat.le_of_ble_eq_true rfl) (fun h => by cases h) (fun _ => ml_RkI rv) fun E hL hr => wX10_book_0 hL hr _ _ _ h
theorem dX11_book_0 : ml_d cX11_book 0 (.iload_n 1) 1 1 := ⟨by decide +kernel, rfl⟩
theorem dX11_book_1 : ml_d cX11_book 1 (.invokestatic 126) 3 4 := ⟨by decide +kernel, rfl⟩
theorem dX11_book_4 : ml_j cX11_book 4 (.ifCond .ne) 9 7 := ⟨5, by decide +kernel, by decide, rfl⟩
theorem dX11_book_7 : ml_d cX11_book 7 (.iconst (-1)) 1 8 := ⟨by decide +kernel, rfl⟩
theorem dX11_book_8 : ml_d cX11_book 8 (.ireturn) 1 9 := ⟨by decide +kernel, rfl⟩
theorem dX11_book_9 : ml_d cX11_book 9 (.aload_n 0) 1 10 := ⟨by decide +kernel, rfl⟩
theorem dX11_book_10 : ml_d cX11_book 10 (.getfield 22) 3 13 := ⟨by decide +kernel, rfl⟩
theorem dX11_book_13 : ml_d cX11_book 13 (.iload_n 1) 1 14 := ⟨by decide +kernel, rfl⟩
theorem dX11_book_14 : ml_d cX11_book 14 (.iaload) 1 15 := ⟨by decide +kernel, rfl⟩
theorem dX11_book_15 : ml_j cX11_book 15 (.ifCond .ge) 24 18 := ⟨9, by decide +kernel, by decide, rfl⟩
theorem dX11_book_18 : ml_d cX11_book 18 (.aload_n 0) 1 19 := ⟨by decide +kernel, rfl⟩
theorem dX11_book_19 : ml_d cX11_book 19 (.iconst 1) 1 20 := ⟨by decide +kernel, rfl⟩
theorem dX11_book_20 : ml_d cX11_book 20 (.invokevirtual 115) 3 23 := ⟨by decide +kernel, rfl⟩
theorem dX11_book_23 : ml_d cX11_book 23 (.ireturn) 1 24 := ⟨by decide +kernel, rfl⟩
theorem dX11_book_24 : ml_d cX11_book 24 (.aload_n 0) 1 25 := ⟨by decide +kernel, rfl⟩
theorem dX11_book_25 : ml_d cX11_book 25 (.iload_n 1) 1 26 := ⟨by decide +kernel, rfl⟩
theorem dX11_book_26 : ml_d cX11_book 26 (.invokevirtual 169) 3 29 := ⟨by decide +kernel, rfl⟩
theorem dX11_book_29 : ml_d cX11_book 29 (.bipush (-9)) 2 31 := ⟨by decide +kernel, rfl⟩
theorem dX11_book_31 : ml_j cX11_book 31 (.if_icmp .eq) 37 34 := ⟨6, by decide +kernel, by decide, rfl⟩
theorem dX11_book_34 : ml_d cX11_book 34 (.bipush (-4)) 2 36 := ⟨by decide +kernel, rfl⟩
theorem dX11_book_36 : ml_d cX11_book 36 (.ireturn) 1 37 := ⟨by decide +kernel, rfl⟩
theorem dX11_book_37 : ml_d cX11_book 37 (.aload_n 0) 1 38 := ⟨by decide +kernel, rfl⟩
theorem dX11_book_38 : ml_d cX11_book 38 (.aload_n 0) 1 39 := ⟨by decide +kernel, rfl⟩
theorem dX11_book_39 : ml_d cX11_book 39 (.getfield 138) 3 42 := ⟨by decide +kernel, rfl⟩
theorem dX11_book_42 : ml_d cX11_book 42 (.putfield 172) 3 45 := ⟨by decide +kernel, rfl⟩
theorem dX11_book_45 : ml_d cX11_book 45 (.aload_n 0) 1 46 := ⟨by decide +kernel, rfl⟩
theorem dX11_book_46 : ml_d cX11_book 46 (.aload_n 0) 1 47 := ⟨by decide +kernel, rfl⟩
theorem dX11_book_47 : ml_d cX11_book 47 (.getfield 151) 3 50 := ⟨by decide +kernel, rfl⟩
theorem dX11_book_50 : ml_d cX11_book 50 (.putfield 175) 3 53 := ⟨by decide +kernel, rfl⟩
theorem dX11_book_53 : ml_d cX11_book 53 (.aload_n 0) 1 54 := ⟨by decide +kernel, rfl⟩
theorem dX11_book_54 : ml_d cX11_book 54 (.aload_n 0) 1 55 := ⟨by decide +kernel, rfl⟩
theorem dX11_book_55 : ml_d cX11_book 55 (.getfield 154) 3 58 := ⟨by decide +kernel, rfl⟩
theorem dX11_book_58 : ml_d cX11_book 58 (.putfield 178) 3 61 := ⟨by decide +kernel, rfl⟩
theorem dX11_book_61 : ml_d cX11_book 61 (.iconst 0) 1 62 := ⟨by decide +kernel, rfl⟩
theorem dX11_book_62 : ml_d cX11_book 62 (.istore_n 2) 1 63 := ⟨by decide +kernel, rfl⟩
theorem dX11_book_63 : ml_d cX11_book 63 (.iload_n 2) 1 64 := ⟨by decide +kernel, rfl⟩
theorem dX11_book_64 : ml_d cX11_book 64 (.bipush 40) 2 66 := ⟨by decide +kernel, rfl⟩
theorem dX11_book_66 : ml_j cX11_book 66 (.if_icmp .ge) 123 69 := ⟨57, by decide +kernel, by decide, rfl⟩
theorem dX11_book_69 : ml_d cX11_book 69 (.aload_n 0) 1 70 := ⟨by decide +kernel, rfl⟩
theorem dX11_book_70 : ml_d cX11_book 70 (.getfield 29) 3 73 := ⟨by decide +kernel, rfl⟩
theorem dX11_book_73 : ml_d cX11_book 73 (.iload_n 2) 1 74 := ⟨by decide +kernel, rfl⟩
theorem dX11_book_74 : ml_d cX11_book 74 (.aload_n 0) 1 75 := ⟨by decide +kernel, rfl⟩
theorem dX11_book_75 : ml_d cX11_book 75 (.getfield 38) 3 78 := ⟨by decide +kernel, rfl⟩
theorem dX11_book_78 : ml_d cX11_book 78 (.iload_n 2) 1 79 := ⟨by decide +kernel, rfl⟩
theorem dX11_book_79 : ml_d cX11_book 79 (.iaload) 1 80 := ⟨by decide +kernel, rfl⟩
theorem dX11_book_80 : ml_d cX11_book 80 (.iastore) 1 81 := ⟨by decide +kernel, rfl⟩
theorem dX11_book_81 : ml_d cX11_book 81 (.iload_n 2) 1 82 := ⟨by decide +kernel, rfl⟩
theorem dX11_book_82 : ml_d cX11_book 82 (.bipush 16) 2 84 := ⟨by decide +kernel, rfl⟩
theorem dX11_book_84 : ml_j cX11_book 84 (.if_icmp .ge) 99 87 := ⟨15, by decide +kernel, by decide, rfl⟩
theorem dX11_book_87 : ml_d cX11_book 87 (.aload_n 0) 1 88 := ⟨by decide +kernel, rfl⟩
theorem dX11_book_88 : ml_d cX11_book 88 (.getfield 32) 3 91 := ⟨by decide +kernel, rfl⟩
theorem dX11_book_91 : ml_d cX11_book 91 (.iload_n 2) 1 92 := ⟨by decide +kernel, rfl⟩
theorem dX11_book_92 : ml_d cX11_book 92 (.aload_n 0) 1 93 := ⟨by decide +kernel, rfl⟩
theorem dX11_book_93 : ml_d cX11_book 93 (.getfield 41) 3 96 := ⟨by decide +kernel, rfl⟩
theorem dX11_book_96 : ml_d cX11_book 96 (.iload_n 2) 1 97 := ⟨by decide +kernel, rfl⟩
theorem dX11_book_97 : ml_d cX11_book 97 (.iaload) 1 98 := ⟨by decide +kernel, rfl⟩
theorem dX11_book_98 : ml_d cX11_book 98 (.iastore) 1 99 := ⟨by decide +kernel, rfl⟩
theorem dX11_book_99 : ml_d cX11_book 99 (.iload_n 2) 1 100 := ⟨by decide +kernel, rfl⟩
theorem dX11_book_100 : ml_d cX11_book 100 (.bipush 24) 2 102 := ⟨by decide +kernel, rfl⟩
theorem dX11_book_102 : ml_j cX11_book 102 (.if_icmp .ge) 117 105 := ⟨15, by decide +kernel, by decide, rfl⟩
theorem dX11_book_105 : ml_d cX11_book 105 (.aload_n 0) 1 106 := ⟨by decide +kernel, rfl⟩
theorem dX11_book_106 : ml_d cX11_book 106 (.getfield 35) 3 109 := ⟨by decide +kernel, rfl⟩
theorem dX11_book_109 : ml_d cX11_book 109 (.iload_n 2) 1 110 := ⟨by decide +kernel, rfl⟩
theorem dX11_book_110 : ml_d cX11_book 110 (.aload_n 0) 1 111 := ⟨by decide +kernel, rfl⟩
theorem dX11_book_111 : ml_d cX11_book 111 (.getfield 44) 3 114 := ⟨by decide +kernel, rfl⟩
theorem dX11_book_114 : ml_d cX11_book 114 (.iload_n 2) 1 115 := ⟨by decide +kernel, rfl⟩
theorem dX11_book_115 : ml_d cX11_book 115 (.iaload) 1 116 := ⟨by decide +kernel, rfl⟩
theorem dX11_book_116 : ml_d cX11_book 116 (.iastore) 1 117 := ⟨by decide +kernel, rfl⟩
theorem dX11_book_117 : ml_d cX11_book 117 (.iinc 2 1) 3 120 := ⟨by decide +kernel, rfl⟩
theorem dX11_book_120 : ml_j cX11_book 120 .goto 63 123 := ⟨(-57), by decide +kernel, by decide, rfl⟩
theorem dX11_book_123 : ml_d cX11_book 123 (.aload_n 0) 1 124 := ⟨by decide +kernel, rfl⟩
theorem dX11_book_124 : ml_d cX11_book 124 (.iconst 0) 1 125 := ⟨by decide +kernel, rfl⟩
theorem dX11_book_125 : ml_d cX11_book 125 (.putfield 181) 3 128 := ⟨by decide +kernel, rfl⟩
theorem dX11_book_128 : ml_d cX11_book 128 (.aload_n 0) 1 129 := ⟨by decide +kernel, rfl⟩
theorem dX11_book_129 : ml_d cX11_book 129 (.iconst 0) 1 130 := ⟨by decide +kernel, rfl⟩
theorem dX11_book_130 : ml_d cX11_book 130 (.putfield 184) 3 133 := ⟨by decide +kernel, rfl⟩
theorem dX11_book_133 : ml_d cX11_book 133 (.aload_n 0) 1 134 := ⟨by decide +kernel, rfl⟩
theorem dX11_book_134 : ml_d cX11_book 134 (.iconst 0) 1 135 := ⟨by decide +kernel, rfl⟩
theorem dX11_book_135 : ml_d cX11_book 135 (.putfield 187) 3 138 := ⟨by decide +kernel, rfl⟩
theorem dX11_book_138 : ml_d cX11_book 138 (.aload_n 0) 1 139 := ⟨by decide +kernel, rfl⟩
theorem dX11_book_139 : ml_d cX11_book 139 (.iconst 0) 1 140 := ⟨by decide +kernel, rfl⟩
theorem dX11_book_140 : ml_d cX11_book 140 (.putfield 190) 3 143 := ⟨by decide +kernel, rfl⟩
theorem dX11_book_143 : ml_d cX11_book 143 (.aload_n 0) 1 144 := ⟨by decide +kernel, rfl⟩
theorem dX11_book_144 : ml_d cX11_book 144 (.getfield 175) 3 147 := ⟨by decide +kernel, rfl⟩
theorem dX11_book_147 : ml_d cX11_book 147 (.ireturn) 1 148 := ⟨by decide +kernel, rfl⟩
def fX11_book_117 (k63 : Nat → Int32 → ml_M → Option (Int32 × ml_M)) (l0 : Nat) (l2 : Int32) (m : ml_M) : Option (Int32 × ml_M) :=
    k63 l0 (l2 + (1 : Int32)) m
theorem vX11_book_117 {E : ml_E} (hL : ml_eL E = 3) {rv : Int32} {rm : ml_M} (hr : ∀ (pc pc' : Nat) (lv : List (Nat × ml_X)), ml_d cX11_book pc .ireturn 1 pc' → True → ml_V E "LostRoomModel" cX11_book 7 false rm pc lv [ml_i rv]) {k63 : Nat → Int32 → ml_M → Option (Int32 × ml_M)} (hk63 : ∀ (l0 : Nat) (l2 : Int32) (m : ml_M), k63 l0 l2 m = some (rv, rm) → ml_V E "LostRoomModel" cX11_book 7 false m 63 [(0, ml_r l0), (2, ml_i l2)] []) : ∀ (l0 : Nat) (l2 : Int32) (m : ml_M), fX11_book_117 k63 l0 l2 m = some (rv, rm) → ml_V E "LostRoomModel" cX11_book 7 false m 117 [(0, ml_r l0), (2, ml_i l2)] [] := by
  intro l0 l2 m h
  unfold fX11_book_117 at h
  exact ml_iinc (lv' := [(2, ml_i (l2 + (1 : Int32))), (0, ml_r l0)]) dX11_book_117 1 rfl (congrArg (l2 + ·) kc_i1) (ml_hn hL rfl) rfl <| ml_goto dX11_book_120 <| ml_V.sub [1, 0] rfl (hk63 _ _ _ h)
def fX11_book_99 (k63 : Nat → Int32 → ml_M → Option (Int32 × ml_M)) (l0 : Nat) (l2 : Int32) (m : ml_M) : Option (Int32 × ml_M) :=
    if (24 : Int32) ≤ l2 then
    fX11_book_117 k63 l0 l2 m
    else
    if (ml_K m l0).1 = 11 then
    ml_let (ml_R m l0 14) fun a1291 =>
    ml_let (ml_R m l0 22) fun a1292 =>
    if ml_in m a1292 20 l2 then
    if ml_in m a1291 20 l2 then
    ml_let (ml_sI m a1291 l2.toNatClampNeg (ml_I m a1292 l2.toNatClampNeg)) fun m1295 =>
    fX11_book_117 k63 l0 l2 m1295
    else none
    else none
    else none
theorem vX11_book_99 {E : ml_E} (hL : ml_eL E = 3) {rv : Int32} {rm : ml_M} (hr : ∀ (pc pc' : Nat) (lv : List (Nat × ml_X)), ml_d cX11_book pc .ireturn 1 pc' → True → ml_V E "LostRoomModel" cX11_book 7 false rm pc lv [ml_i rv]) {k63 : Nat → Int32 → ml_M → Option (Int32 × ml_M)} (hk63 : ∀ (l0 : Nat) (l2 : Int32) (m : ml_M), k63 l0 l2 m = some (rv, rm) → ml_V E "LostRoomModel" cX11_book 7 false m 63 [(0, ml_r l0), (2, ml_i l2)] []) : ∀ (l0 : Nat) (l2 : Int32) (m : ml_M), fX11_book_99 k63 l0 l2 m = some (rv, rm) → ml_V E "LostRoomModel" cX11_book 7 false m 99 [(0, ml_r l0), (2, ml_i l2)] [] := by
  intro l0 l2 m h
  unfold fX11_book_99 at h
  exact ml_iload_n dX11_book_99 1 rfl <| ml_bipush dX11_book_100 kc_b24 <| ml_icmp_ge dX11_book_102 h (fun _ h => ml_V.sub [0, 1] rfl (vX11_book_117 hL hr hk63 _ _ _ h)) (fun _ h => ml_aload_n dX11_book_105 0 rfl <| ml_ck_of h fun hc1290 h => ml_getR dX11_book_106 wb_191 hc1290 <| ml_lx (mk := ml_r) h fun a1291 h => ml_iload_n dX11_book_109 1 rfl <| ml_aload_n dX11_book_110 0 rfl <| ml_getR dX11_book_111 wb_173 hc1290 <| ml_lx (mk := ml_r) h fun a1292 h => ml_iload_n dX11_book_114 1 rfl <| ml_ck_of h fun hi1293 h => ml_iald dX11_book_115 hi1293 <| ml_ck_of h fun hi1294 h => ml_iast dX11_book_116 hi1294 <| ml_lt (m := m) rfl h fun m1295 em1296 h => ml_V.sub [0, 1] rfl (vX11_book_117 hL hr hk63 _ _ _ h))
def fX11_book_123 (l0 : Nat) (m : ml_M) : Option (Int32 × ml_M) :=
    if (ml_K m l0).1 = 11 then
    ml_let (ml_sI m l0 24 (0 : Int32)) fun m1298 =>
    ml_let (ml_sI m1298 l0 34 (0 : Int32)) fun m1300 =>
    ml_let (ml_sI m1300 l0 37 (0 : Int32)) fun m1302 =>
    ml_let (ml_sI m1302 l0 46 (0 : Int32)) fun m1304 =>
    some ((ml_I m1304 l0 10), m1304)
    else none
theorem vX11_book_123 {E : ml_E} (hL : ml_eL E = 3) {rv : Int32} {rm : ml_M} (hr : ∀ (pc pc' : Nat) (lv : List (Nat × ml_X)), ml_d cX11_book pc .ireturn 1 pc' → True → ml_V E "LostRoomModel" cX11_book 7 false rm pc lv [ml_i rv]) : ∀ (l0 : Nat) (m : ml_M), fX11_book_123 l0 m = some (rv, rm) → ml_V E "LostRoomModel" cX11_book 7 false m 123 [(0, ml_r l0)] [] := by
  intro l0 m h
  unfold fX11_book_123 at h
  exact ml_aload_n dX11_book_123 0 rfl <| ml_iconst dX11_book_124 kc_i0 <| ml_ck_of h fun hc1297 h => ml_putI dX11_book_125 wb_192 hc1297 <| ml_lt (m := m) rfl h fun m1298 em1299 h => ml_aload_n dX11_book_128 0 rfl <| ml_iconst dX11_book_129 kc_i0 <| ml_putI dX11_book_130 wb_193 (ml_kk em1299 hc1297) <| ml_lt (m := m1298) rfl h fun m1300 em1301 h => ml_aload_n dX11_book_133 0 rfl <| ml_iconst dX11_book_134 kc_i0 <| ml_putI dX11_book_135 wb_194 (ml_kk em1301 (ml_kk em1299 hc1297)) <| ml_lt (m := m1300) rfl h fun m1302 em1303 h => ml_aload_n dX11_book_138 0 rfl <| ml_iconst dX11_book_139 kc_i0 <| ml_putI dX11_book_140 wb_195 (ml_kk em1303 (ml_kk em1301 (ml_kk em1299 hc1297))) <| ml_lt (m := m1302) rfl h fun m1304 em1305 h => ml_aload_n dX11_book_143 0 rfl <| ml_getI dX11_book_144 wb_196 (ml_kk em1305 (ml_kk em1303 (ml_kk em1301 (ml_kk em1299 hc1297)))) <| ml_rI (mk := ml_i) hr dX11_book_147 (fun _ => trivial) h
def fX11_book_63 : Nat → Nat → Int32 → ml_M → Option (Int32 × ml_M)
  | 0, _, _, _ => none
  | fu + 1, l0, l2, m =>
    if (40 : Int32) ≤ l2 then
    fX11_book_123 l0 m
    else
    if (ml_K m l0).1 = 11 then
    ml_let (ml_R m l0 12) fun a1307 =>
    ml_let (ml_R m l0 20) fun a1308 =>
    if ml_in m a1308 20 l2 then
    if ml_in m a1307 20 l2 then
    ml_let (ml_sI m a1307 l2.toNatClampNeg (ml_I m a1308 l2.toNatClampNeg)) fun m1311 =>
    if (16 : Int32) ≤ l2 then
    fX11_book_99 (fX11_book_63 fu) l0 l2 m1311
    else
    ml_let (ml_R m1311 l0 13) fun a1313 =>
    ml_let (ml_R m1311 l0 21) fun a1314 =>
    if ml_in m1311 a1314 20 l2 then
    if ml_in m1311 a1313 20 l2 then
    ml_let (ml_sI m1311 a1313 l2.toNatClampNeg (ml_I m1311 a1314 l2.toNatClampNeg)) fun m1317 =>
    fX11_book_99 (fX11_book_63 fu) l0 l2 m1317
    else none
    else none
    else none
    else none
    else none
theorem vX11_book_63 {E : ml_E} (hL : ml_eL E = 3) {rv : Int32} {rm : ml_M} (hr : ∀ (pc pc' : Nat) (lv : List (Nat × ml_X)), ml_d cX11_book pc .ireturn 1 pc' → True → ml_V E "LostRoomModel" cX11_book 7 false rm pc lv [ml_i rv]) : ∀ (fu : Nat) (l0 : Nat) (l2 : Int32) (m : ml_M), fX11_book_63 fu l0 l2 m = some (rv, rm) → ml_V E "LostRoomModel" cX11_book 7 false m 63 [(0, ml_r l0), (2, ml_i l2)] [] := by
  intro fu
  induction fu with
  | zero => intro l0 l2 m h; exact ml_none h
  | succ fu ih =>
    intro l0 l2 m h
    have hk63 := ih
    unfold fX11_book_63 at h
    exact ml_iload_n dX11_book_63 1 rfl <| ml_bipush dX11_book_64 kc_b40 <| ml_icmp_ge dX11_book_66 h (fun _ h => ml_V.sub [0] rfl (vX11_book_123 hL hr  _ _ h)) (fun _ h => ml_aload_n dX11_book_69 0 rfl <| ml_ck_of h fun hc1306 h => ml_getR dX11_book_70 wb_197 hc1306 <| ml_lx (mk := ml_r) h fun a1307 h => ml_iload_n dX11_book_73 1 rfl <| ml_aload_n dX11_book_74 0 rfl <| ml_getR dX11_book_75 wb_165 hc1306 <| ml_lx (mk := ml_r) h fun a1308 h => ml_iload_n dX11_book_78 1 rfl <| ml_ck_of h fun hi1309 h => ml_iald dX11_book_79 hi1309 <| ml_ck_of h fun hi1310 h => ml_iast dX11_book_80 hi1310 <| ml_lt (m := m) rfl h fun m1311 em1312 h => ml_iload_n dX11_book_81 1 rfl <| ml_bipush dX11_book_82 kc_b16 <| ml_icmp_ge dX11_book_84 h (fun _ h => ml_V.sub [0, 1] rfl (vX11_book_99 hL hr hk63 _ _ _ h)) (fun _ h => ml_aload_n dX11_book_87 0 rfl <| ml_getR dX11_book_88 wb_198 (ml_kk em1312 hc1306) <| ml_lx (mk := ml_r) h fun a1313 h => ml_iload_n dX11_book_91 1 rfl <| ml_aload_n dX11_book_92 0 rfl <| ml_getR dX11_book_93 wb_169 (ml_kk em1312 hc1306) <| ml_lx (mk := ml_r) h fun a1314 h => ml_iload_n dX11_book_96 1 rfl <| ml_ck_of h fun hi1315 h => ml_iald dX11_book_97 hi1315 <| ml_ck_of h fun hi1316 h => ml_iast dX11_book_98 hi1316 <| ml_lt (m := m1311) rfl h fun m1317 em1318 h => ml_V.sub [0, 1] rfl (vX11_book_99 hL hr hk63 _ _ _ h)))
def fX11_book (l0 : Nat) (l1 : Int32) (m : ml_M) : Option (Int32 × ml_M) :=
    ml_b1 (fX11_isText l1 m) fun r1320 =>
    if r1320 = 0 then
    some ((-1 : Int32), m)
    else
    if (ml_K m l0).1 = 11 then
    ml_let (ml_R m l0 7) fun a1322 =>
    if ml_in m a1322 20 l1 then
    if 0 ≤ (ml_I m a1322 l1.toNatClampNeg) then
    ml_b2 (fX11_faultOf l0 l1 m) fun r1325 m1326 =>
    if r1325 = (-9 : Int32) then
    if (ml_K m1326 l0).1 = 11 then
    ml_let (ml_sI m1326 l0 9 (ml_I m1326 l0 17)) fun m1328 =>
    ml_let (ml_sI m1328 l0 10 (ml_I m1328 l0 18)) fun m1330 =>
    ml_let (ml_sI m1330 l0 11 (ml_I m1330 l0 19)) fun m1332 =>
    fX11_book_63 ml_fu l0 (0 : Int32) m1332
    else none
    else
    some ((-4 : Int32), m1326)
    else
    ml_b2 (fX11_meets l0 (1 : Int32) m) fun r1335 m1336 =>
    some (r1335, m1336)
    else none
    else none
theorem wX11_book_0 {E : ml_E} (hL : ml_eL E = 3) {rv : Int32} {rm : ml_M} (hr : ∀ (pc pc' : Nat) (lv : List (Nat × ml_X)), ml_d cX11_book pc .ireturn 1 pc' → True → ml_V E "LostRoomModel" cX11_book 7 false rm pc lv [ml_i rv]) : ∀ (l0 : Nat) (l1 : Int32) (m : ml_M), fX11_book l0 l1 m = some (rv, rm) → ml_V E "LostRoomModel" cX11_book 7 false m 0 [(0, ml_r l0), (1, ml_i l1)] [] := by
  intro l0 l1 m h
  unfold fX11_book at h
  exact ml_iload_n dX11_book_0 1 rfl <| ml_b1_of h fun r1320 hv1319 h => ml_callS dX11_book_1 wm_172 wb_118 (sX11_isText hv1319) rfl (Nat.le_of_ble_eq_true rfl) (Nat.le_of_ble_eq_true rfl) rfl <| ml_if_ne dX11_book_4 h (fun _ h => ml_aload_n dX11_book_9 0 rfl <| ml_ck_of h fun hc1321 h => ml_getR dX11_book_10 wb_63 hc1321 <| ml_lx (mk := ml_r) h fun a1322 h => ml_iload_n dX11_book_13 1 rfl <| ml_ck_of h fun hi1323 h => ml_iald dX11_book_14 hi1323 <| ml_if_ge dX11_book_15 h (fun _ h => ml_aload_n dX11_book_24 0 rfl <| ml_iload_n dX11_book_25 1 rfl <| ml_b2_of h fun r1325 m1326 hv1324 h => ml_callV dX11_book_26 wm_271 wb_179 hc1321 (sX11_faultOf hv1324) rfl (Nat.le_of_ble_eq_true rfl) (Nat.le_of_ble_eq_true rfl) rfl <| ml_bipush dX11_book_29 kc_bm9 <| ml_icmp_eq dX11_book_31 h (fun _ h => ml_aload_n dX11_book_37 0 rfl <| ml_aload_n dX11_book_38 0 rfl <| ml_ck_of h fun hc1327 h => ml_getI dX11_book_39 wb_166 hc1327 <| ml_putI dX11_book_42 wb_199 hc1327 <| ml_lt (m := m1326) rfl h fun m1328 em1329 h => ml_aload_n dX11_book_45 0 rfl <| ml_aload_n dX11_book_46 0 rfl <| ml_getI dX11_book_47 wb_170 (ml_kk em1329 hc1327) <| ml_putI dX11_book_50 wb_200 (ml_kk em1329 hc1327) <| ml_lt (m := m1328) rfl h fun m1330 em1331 h => ml_aload_n dX11_book_53 0 rfl <| ml_aload_n dX11_book_54 0 rfl <| ml_getI dX11_book_55 wb_172 (ml_kk em1331 (ml_kk em1329 hc1327)) <| ml_putI dX11_book_58 wb_201 (ml_kk em1331 (ml_kk em1329 hc1327)) <| ml_lt (m := m1330) rfl h fun m1332 em1333 h => ml_iconst dX11_book_61 kc_i0 <| ml_istore_n (lv' := [(2, ml_i (0 : Int32)), (0, ml_r l0), (1, ml_i l1)]) dX11_book_62 (ml_hn hL rfl) rfl <| ml_V.sub [1, 0] rfl (vX11_book_63 hL hr  ml_fu _ _ _ h)) (fun _ h => ml_bipush dX11_book_34 kc_bm4 <| ml_rI (mk := ml_i) hr dX11_book_36 (fun _ => trivial) h)) (fun _ h => ml_aload_n dX11_book_18 0 rfl <| ml_iconst dX11_book_19 kc_i1 <| ml_b2_of h fun r1335 m1336 hv1334 h => ml_callV dX11_book_20 wm_144 wb_105 hc1321 (sX11_meets hv1334) rfl (Nat.le_of_ble_eq_true rfl) (Nat.le_of_ble_eq_true rfl) rfl <| ml_rI (mk := ml_i) hr dX11_book_23 (fun _ => trivial) h)) (fun _ h => ml_iconst dX11_book_7 kc_im1 <| ml_rI (mk := ml_i) hr dX11_book_8 (fun _ => trivial) h)
theorem sX11_book {l0 : Nat} {l1 : Int32} {m : ml_M} {rv : Int32} {rm : ml_M} (h : fX11_book l0 l1 m = some (rv, rm)) : ml_Sn yX11_book cX11_book 3 (some .int) 7 [ml_r l0, ml_i l1] m (some (ml_i rv)) rm :=
  ml_Sn_of (P := True) (ini := false) (by decide +kernel) (Nat.le_of_ble_eq_true rfl) (fun h => by cases h) (fun _ => ml_RkI rv) fun E hL hr => wX11_book_0 hL hr _ _ _ h

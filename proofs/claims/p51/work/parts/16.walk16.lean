/-! printed by wip/p51/emit.py out of the claim's own listing -/
theorem dX10_opens_0 : ml_d cX10_opens 0 (.aload_n 0) 1 1 := ⟨by decide +kernel, rfl⟩
theorem dX10_opens_1 : ml_d cX10_opens 1 (.iload_n 1) 1 2 := ⟨by decide +kernel, rfl⟩
theorem dX10_opens_2 : ml_d cX10_opens 2 (.invokevirtual 172) 3 5 := ⟨by decide +kernel, rfl⟩
theorem dX10_opens_5 : ml_j cX10_opens 5 (.ifCond .ne) 10 8 := ⟨5, by decide +kernel, by decide, rfl⟩
theorem dX10_opens_8 : ml_d cX10_opens 8 (.iconst (-1)) 1 9 := ⟨by decide +kernel, rfl⟩
theorem dX10_opens_9 : ml_d cX10_opens 9 (.ireturn) 1 10 := ⟨by decide +kernel, rfl⟩
theorem dX10_opens_10 : ml_d cX10_opens 10 (.aload_n 0) 1 11 := ⟨by decide +kernel, rfl⟩
theorem dX10_opens_11 : ml_d cX10_opens 11 (.getfield 36) 3 14 := ⟨by decide +kernel, rfl⟩
theorem dX10_opens_14 : ml_d cX10_opens 14 (.iload_n 1) 1 15 := ⟨by decide +kernel, rfl⟩
theorem dX10_opens_15 : ml_d cX10_opens 15 (.aaload) 1 16 := ⟨by decide +kernel, rfl⟩
theorem dX10_opens_16 : ml_d cX10_opens 16 (.getfield 210) 3 19 := ⟨by decide +kernel, rfl⟩
theorem dX10_opens_19 : ml_d cX10_opens 19 (.iconst 5) 1 20 := ⟨by decide +kernel, rfl⟩
theorem dX10_opens_20 : ml_j cX10_opens 20 (.if_icmp .ne) 36 23 := ⟨16, by decide +kernel, by decide, rfl⟩
theorem dX10_opens_23 : ml_d cX10_opens 23 (.aload_n 0) 1 24 := ⟨by decide +kernel, rfl⟩
theorem dX10_opens_24 : ml_d cX10_opens 24 (.aload_n 0) 1 25 := ⟨by decide +kernel, rfl⟩
theorem dX10_opens_25 : ml_d cX10_opens 25 (.getfield 36) 3 28 := ⟨by decide +kernel, rfl⟩
theorem dX10_opens_28 : ml_d cX10_opens 28 (.iload_n 1) 1 29 := ⟨by decide +kernel, rfl⟩
theorem dX10_opens_29 : ml_d cX10_opens 29 (.aaload) 1 30 := ⟨by decide +kernel, rfl⟩
theorem dX10_opens_30 : ml_d cX10_opens 30 (.invokevirtual 213) 3 33 := ⟨by decide +kernel, rfl⟩
theorem dX10_opens_33 : ml_j cX10_opens 33 .goto 41 36 := ⟨8, by decide +kernel, by decide, rfl⟩
theorem dX10_opens_36 : ml_d cX10_opens 36 (.aload_n 0) 1 37 := ⟨by decide +kernel, rfl⟩
theorem dX10_opens_37 : ml_d cX10_opens 37 (.iconst 3) 1 38 := ⟨by decide +kernel, rfl⟩
theorem dX10_opens_38 : ml_d cX10_opens 38 (.invokevirtual 86) 3 41 := ⟨by decide +kernel, rfl⟩
theorem dX10_opens_41 : ml_d cX10_opens 41 (.ireturn) 1 42 := ⟨by decide +kernel, rfl⟩
def fX10_opens (l0 : Nat) (l1 : Int32) (m : ml_M) : Option (Int32 × ml_M) :=
    if (ml_K m l0).1 = 10 then
    ml_b1 (fX10_isThing l0 l1 m) fun r968 =>
    if r968 = 0 then
    some ((-1 : Int32), m)
    else
    ml_let (ml_R m l0 4) fun a969 =>
    if ml_in m a969 29 l1 then
    ml_let (ml_R m a969 l1.toNatClampNeg) fun a971 =>
    if (ml_K m a971).1 = 8 then
    if (ml_I m a971 0) = (5 : Int32) then
    ml_let (ml_R m l0 4) fun a976 =>
    if ml_in m a976 29 l1 then
    ml_let (ml_R m a976 l1.toNatClampNeg) fun a978 =>
    ml_b1 (fX10_opened l0 a978 m) fun r980 =>
    some (r980, m)
    else none
    else
    ml_b2 (fX10_found l0 (3 : Int32) m) fun r974 m975 =>
    some (r974, m975)
    else none
    else none
    else none
theorem wX10_opens_0 {E : ml_E} (hL : ml_eL E = 2) {rv : Int32} {rm : ml_M} (hr : ∀ (pc pc' : Nat) (lv : List (Nat × ml_X)), ml_d cX10_opens pc .ireturn 1 pc' → True → ml_V E "LostRoom" cX10_opens 4 false rm pc lv [ml_i rv]) : ∀ (l0 : Nat) (l1 : Int32) (m : ml_M), fX10_opens l0 l1 m = some (rv, rm) → ml_V E "LostRoom" cX10_opens 4 false m 0 [(0, ml_r l0), (1, ml_i l1)] [] := by
  intro l0 l1 m h
  unfold fX10_opens at h
  exact ml_aload_n dX10_opens_0 0 rfl <| ml_iload_n dX10_opens_1 1 rfl <| ml_ck_of h fun hc967 h => ml_b1_of h fun r968 hv966 h => ml_callV dX10_opens_2 wm_159 wb_85 hc967 (sX10_isThing hv966) rfl (Nat.le_of_ble_eq_true rfl) (Nat.le_of_ble_eq_true rfl) rfl <| ml_if_ne dX10_opens_5 h (fun _ h => ml_aload_n dX10_opens_10 0 rfl <| ml_getR dX10_opens_11 wb_78 hc967 <| ml_lx (mk := ml_r) h fun a969 h => ml_iload_n dX10_opens_14 1 rfl <| ml_ck_of h fun hi970 h => ml_aald (kd := 29) dX10_opens_15 (by decide) hi970 <| ml_lx (mk := ml_r) h fun a971 h => ml_ck_of h fun hc972 h => ml_getI dX10_opens_16 wb_183 hc972 <| ml_iconst dX10_opens_19 kc_i5 <| ml_icmp_ne dX10_opens_20 h (fun _ h => ml_aload_n dX10_opens_36 0 rfl <| ml_iconst dX10_opens_37 kc_i3 <| ml_b2_of h fun r974 m975 hv973 h => ml_callV dX10_opens_38 wm_36 wb_11 hc967 (sX10_found hv973) rfl (Nat.le_of_ble_eq_true rfl) (Nat.le_of_ble_eq_true rfl) rfl <| ml_rI (mk := ml_i) hr dX10_opens_41 (fun _ => trivial) h) (fun _ h => ml_aload_n dX10_opens_23 0 rfl <| ml_aload_n dX10_opens_24 0 rfl <| ml_getR dX10_opens_25 wb_78 hc967 <| ml_lx (mk := ml_r) h fun a976 h => ml_iload_n dX10_opens_28 1 rfl <| ml_ck_of h fun hi977 h => ml_aald (kd := 29) dX10_opens_29 (by decide) hi977 <| ml_lx (mk := ml_r) h fun a978 h => ml_b1_of h fun r980 hv979 h => ml_callV dX10_opens_30 wm_307 wb_184 hc967 (sX10_opened hv979) rfl (Nat.le_of_ble_eq_true rfl) (Nat.le_of_ble_eq_true rfl) rfl <| ml_goto dX10_opens_33 <| ml_rI (mk := ml_i) hr dX10_opens_41 (fun _ => trivial) h)) (fun _ h => ml_iconst dX10_opens_8 kc_im1 <| ml_rI (mk := ml_i) hr dX10_opens_9 (fun _ => trivial) h)
theorem sX10_opens {l0 : Nat} {l1 : Int32} {m : ml_M} {rv : Int32} {rm : ml_M} (h : fX10_opens l0 l1 m = some (rv, rm)) : ml_Sn yX10_opens cX10_opens 2 (some .int) 4 [ml_r l0, ml_i l1] m (some (ml_i rv)) rm :=
  ml_Sn_of (P := True) (ini := false) (by decide +kernel) (Nat.le_of_ble_eq_true rfl) (fun h => by cases h) (fun _ => ml_RkI rv) fun E hL hr => wX10_opens_0 hL hr _ _ _ h
theorem dX10_isRow_0 : ml_d cX10_isRow 0 (.iload_n 0) 1 1 := ⟨by decide +kernel, rfl⟩
theorem dX10_isRow_1 : ml_d cX10_isRow 1 (.iconst 0) 1 2 := ⟨by decide +kernel, rfl⟩
theorem dX10_isRow_2 : ml_d cX10_isRow 2 (.iconst 5) 1 3 := ⟨by decide +kernel, rfl⟩
theorem dX10_isRow_3 : ml_d cX10_isRow 3 (.invokestatic 138) 3 6 := ⟨by decide +kernel, rfl⟩
theorem dX10_isRow_6 : ml_d cX10_isRow 6 (.ireturn) 1 7 := ⟨by decide +kernel, rfl⟩
def fX10_isRow (l0 : Int32) (m : ml_M) : Option Int32 :=
    ml_b1 (fX10_within l0 (0 : Int32) (5 : Int32) m) fun r982 =>
    if r982 = 0 ∨ r982 = 1 then some r982 else none
theorem wX10_isRow_0 {E : ml_E} (hL : ml_eL E = 1) {rv : Int32} {m : ml_M} (hr : ∀ (pc pc' : Nat) (lv : List (Nat × ml_X)), ml_d cX10_isRow pc .ireturn 1 pc' → (rv = 0 ∨ rv = 1) → ml_V E "LostRoom" cX10_isRow 3 false m pc lv [ml_i rv]) : ∀ (l0 : Int32), fX10_isRow l0 m = some rv → ml_V E "LostRoom" cX10_isRow 3 false m 0 [(0, ml_i l0)] [] := by
  intro l0 h
  unfold fX10_isRow at h
  exact ml_iload_n dX10_isRow_0 0 rfl <| ml_iconst dX10_isRow_1 kc_i0 <| ml_iconst dX10_isRow_2 kc_i5 <| ml_b1_of h fun r982 hv981 h => ml_callS dX10_isRow_3 wm_21 wb_4 (sX10_within hv981) rfl (Nat.le_of_ble_eq_true rfl) (Nat.le_of_ble_eq_true rfl) rfl <| ml_ck_of h fun hz983 h => ml_rp (mk := ml_i) hr dX10_isRow_6 (fun e => e ▸ hz983) h
theorem sX10_isRow {l0 : Int32} {m : ml_M} {rv : Int32} (h : fX10_isRow l0 m = some rv) : ml_Sn yX10_isRow cX10_isRow 1 (some .boolean) 3 [ml_i l0] m (some (ml_i rv)) m :=
  ml_Sn_of (P := (rv = 0 ∨ rv = 1)) (ini := false) (by decide +kernel) (Nat.le_of_ble_eq_true rfl) (fun h => by cases h) (fun hz => ml_RkZ rv hz) fun E hL hr => wX10_isRow_0 hL hr _ h
theorem dX7_compareYears_0 : ml_d cX7_compareYears 0 (.iconst 0) 1 1 := ⟨by decide +kernel, rfl⟩
theorem dX7_compareYears_1 : ml_d cX7_compareYears 1 (.istore_n 2) 1 2 := ⟨by decide +kernel, rfl⟩
theorem dX7_compareYears_2 : ml_d cX7_compareYears 2 (.iload_n 2) 1 3 := ⟨by decide +kernel, rfl⟩
theorem dX7_compareYears_3 : ml_d cX7_compareYears 3 (.aload_n 0) 1 4 := ⟨by decide +kernel, rfl⟩
theorem dX7_compareYears_4 : ml_d cX7_compareYears 4 (.getfield 56) 3 7 := ⟨by decide +kernel, rfl⟩
theorem dX7_compareYears_7 : ml_j cX7_compareYears 7 (.if_icmp .ge) 100 10 := ⟨93, by decide +kernel, by decide, rfl⟩
theorem dX7_compareYears_10 : ml_d cX7_compareYears 10 (.aload_n 0) 1 11 := ⟨by decide +kernel, rfl⟩
theorem dX7_compareYears_11 : ml_d cX7_compareYears 11 (.getfield 32) 3 14 := ⟨by decide +kernel, rfl⟩
theorem dX7_compareYears_14 : ml_d cX7_compareYears 14 (.iload_n 2) 1 15 := ⟨by decide +kernel, rfl⟩
theorem dX7_compareYears_15 : ml_d cX7_compareYears 15 (.iconst 0) 1 16 := ⟨by decide +kernel, rfl⟩
theorem dX7_compareYears_16 : ml_d cX7_compareYears 16 (.iastore) 1 17 := ⟨by decide +kernel, rfl⟩
theorem dX7_compareYears_17 : ml_d cX7_compareYears 17 (.aload_n 0) 1 18 := ⟨by decide +kernel, rfl⟩
theorem dX7_compareYears_18 : ml_d cX7_compareYears 18 (.getfield 35) 3 21 := ⟨by decide +kernel, rfl⟩
theorem dX7_compareYears_21 : ml_d cX7_compareYears 21 (.iload_n 2) 1 22 := ⟨by decide +kernel, rfl⟩
theorem dX7_compareYears_22 : ml_d cX7_compareYears 22 (.iconst 0) 1 23 := ⟨by decide +kernel, rfl⟩
theorem dX7_compareYears_23 : ml_d cX7_compareYears 23 (.iastore) 1 24 := ⟨by decide +kernel, rfl⟩
theorem dX7_compareYears_24 : ml_d cX7_compareYears 24 (.iconst 0) 1 25 := ⟨by decide +kernel, rfl⟩
theorem dX7_compareYears_25 : ml_d cX7_compareYears 25 (.istore_n 3) 1 26 := ⟨by decide +kernel, rfl⟩
theorem dX7_compareYears_26 : ml_d cX7_compareYears 26 (.iload_n 3) 1 27 := ⟨by decide +kernel, rfl⟩
theorem dX7_compareYears_27 : ml_d cX7_compareYears 27 (.aload_n 0) 1 28 := ⟨by decide +kernel, rfl⟩
theorem dX7_compareYears_28 : ml_d cX7_compareYears 28 (.getfield 56) 3 31 := ⟨by decide +kernel, rfl⟩
theorem dX7_compareYears_31 : ml_j cX7_compareYears 31 (.if_icmp .ge) 94 34 := ⟨63, by decide +kernel, by decide, rfl⟩
theorem dX7_compareYears_34 : ml_d cX7_compareYears 34 (.aload_n 1) 1 35 := ⟨by decide +kernel, rfl⟩
theorem dX7_compareYears_35 : ml_d cX7_compareYears 35 (.iload_n 3) 1 36 := ⟨by decide +kernel, rfl⟩
theorem dX7_compareYears_36 : ml_d cX7_compareYears 36 (.aaload) 1 37 := ⟨by decide +kernel, rfl⟩
theorem dX7_compareYears_37 : ml_d cX7_compareYears 37 (.getfield 115) 3 40 := ⟨by decide +kernel, rfl⟩
theorem dX7_compareYears_40 : ml_d cX7_compareYears 40 (.aload_n 1) 1 41 := ⟨by decide +kernel, rfl⟩
theorem dX7_compareYears_41 : ml_d cX7_compareYears 41 (.iload_n 2) 1 42 := ⟨by decide +kernel, rfl⟩
theorem dX7_compareYears_42 : ml_d cX7_compareYears 42 (.aaload) 1 43 := ⟨by decide +kernel, rfl⟩
theorem dX7_compareYears_43 : ml_d cX7_compareYears 43 (.getfield 115) 3 46 := ⟨by decide +kernel, rfl⟩
theorem dX7_compareYears_46 : ml_j cX7_compareYears 46 (.if_icmp .lt) 61 49 := ⟨15, by decide +kernel, by decide, rfl⟩
theorem dX7_compareYears_49 : ml_d cX7_compareYears 49 (.aload_n 0) 1 50 := ⟨by decide +kernel, rfl⟩
theorem dX7_compareYears_50 : ml_d cX7_compareYears 50 (.getfield 32) 3 53 := ⟨by decide +kernel, rfl⟩
theorem dX7_compareYears_53 : ml_d cX7_compareYears 53 (.iload_n 2) 1 54 := ⟨by decide +kernel, rfl⟩
theorem dX7_compareYears_54 : ml_d cX7_compareYears 54 (.dup2) 1 55 := ⟨by decide +kernel, rfl⟩
theorem dX7_compareYears_55 : ml_d cX7_compareYears 55 (.iaload) 1 56 := ⟨by decide +kernel, rfl⟩
theorem dX7_compareYears_56 : ml_d cX7_compareYears 56 (.iconst 1) 1 57 := ⟨by decide +kernel, rfl⟩
theorem dX7_compareYears_57 : ml_d cX7_compareYears 57 (.iload_n 3) 1 58 := ⟨by decide +kernel, rfl⟩
theorem dX7_compareYears_58 : ml_d cX7_compareYears 58 (.ishl) 1 59 := ⟨by decide +kernel, rfl⟩
theorem dX7_compareYears_59 : ml_d cX7_compareYears 59 (.ior) 1 60 := ⟨by decide +kernel, rfl⟩
theorem dX7_compareYears_60 : ml_d cX7_compareYears 60 (.iastore) 1 61 := ⟨by decide +kernel, rfl⟩
theorem dX7_compareYears_61 : ml_d cX7_compareYears 61 (.aload_n 1) 1 62 := ⟨by decide +kernel, rfl⟩
theorem dX7_compareYears_62 : ml_d cX7_compareYears 62 (.iload_n 3) 1 63 := ⟨by decide +kernel, rfl⟩
theorem dX7_compareYears_63 : ml_d cX7_compareYears 63 (.aaload) 1 64 := ⟨by decide +kernel, rfl⟩
theorem dX7_compareYears_64 : ml_d cX7_compareYears 64 (.getfield 115) 3 67 := ⟨by decide +kernel, rfl⟩
theorem dX7_compareYears_67 : ml_d cX7_compareYears 67 (.aload_n 1) 1 68 := ⟨by decide +kernel, rfl⟩
theorem dX7_compareYears_68 : ml_d cX7_compareYears 68 (.iload_n 2) 1 69 := ⟨by decide +kernel, rfl⟩
theorem dX7_compareYears_69 : ml_d cX7_compareYears 69 (.aaload) 1 70 := ⟨by decide +kernel, rfl⟩
theorem dX7_compareYears_70 : ml_d cX7_compareYears 70 (.getfield 115) 3 73 := ⟨by decide +kernel, rfl⟩
theorem dX7_compareYears_73 : ml_j cX7_compareYears 73 (.if_icmp .gt) 88 76 := ⟨15, by decide +kernel, by decide, rfl⟩
theorem dX7_compareYears_76 : ml_d cX7_compareYears 76 (.aload_n 0) 1 77 := ⟨by decide +kernel, rfl⟩
theorem dX7_compareYears_77 : ml_d cX7_compareYears 77 (.getfield 35) 3 80 := ⟨by decide +kernel, rfl⟩
theorem dX7_compareYears_80 : ml_d cX7_compareYears 80 (.iload_n 2) 1 81 := ⟨by decide +kernel, rfl⟩
theorem dX7_compareYears_81 : ml_d cX7_compareYears 81 (.dup2) 1 82 := ⟨by decide +kernel, rfl⟩
theorem dX7_compareYears_82 : ml_d cX7_compareYears 82 (.iaload) 1 83 := ⟨by decide +kernel, rfl⟩
theorem dX7_compareYears_83 : ml_d cX7_compareYears 83 (.iconst 1) 1 84 := ⟨by decide +kernel, rfl⟩
theorem dX7_compareYears_84 : ml_d cX7_compareYears 84 (.iload_n 3) 1 85 := ⟨by decide +kernel, rfl⟩
theorem dX7_compareYears_85 : ml_d cX7_compareYears 85 (.ishl) 1 86 := ⟨by decide +kernel, rfl⟩
theorem dX7_compareYears_86 : ml_d cX7_compareYears 86 (.ior) 1 87 := ⟨by decide +kernel, rfl⟩
theorem dX7_compareYears_87 : ml_d cX7_compareYears 87 (.iastore) 1 88 := ⟨by decide +kernel, rfl⟩
theorem dX7_compareYears_88 : ml_d cX7_compareYears 88 (.iinc 3 1) 3 91 := ⟨by decide +kernel, rfl⟩
theorem dX7_compareYears_91 : ml_j cX7_compareYears 91 .goto 26 94 := ⟨(-65), by decide +kernel, by decide, rfl⟩
theorem dX7_compareYears_94 : ml_d cX7_compareYears 94 (.iinc 2 1) 3 97 := ⟨by decide +kernel, rfl⟩
theorem dX7_compareYears_97 : ml_j cX7_compareYears 97 .goto 2 100 := ⟨(-95), by decide +kernel, by decide, rfl⟩
theorem dX7_compareYears_100 : ml_d cX7_compareYears 100 (.return_) 1 101 := ⟨by decide +kernel, rfl⟩
def fX7_compareYears_88 (k2 : Nat → Nat → Int32 → ml_M → Option ml_M) (k26 : Nat → Nat → Int32 → Int32 → ml_M → Option ml_M) (l0 : Nat) (l1 : Nat) (l2 : Int32) (l3 : Int32) (m : ml_M) : Option ml_M :=
    k26 l0 l1 l2 (l3 + (1 : Int32)) m
theorem vX7_compareYears_88 {E : ml_E} (hL : ml_eL E = 4) {rm : ml_M} (hr : ∀ (pc pc' : Nat) (lv : List (Nat × ml_X)), ml_d cX7_compareYears pc .return_ 1 pc' → True → ml_V E "LostRoom$Sharings" cX7_compareYears 2 false rm pc lv []) {k2 : Nat → Nat → Int32 → ml_M → Option ml_M} (hk2 : ∀ (l0 : Nat) (l1 : Nat) (l2 : Int32) (m : ml_M), k2 l0 l1 l2 m = some rm → ml_V E "LostRoom$Sharings" cX7_compareYears 2 false m 2 [(0, ml_r l0), (1, ml_r l1), (2, ml_i l2)] []) {k26 : Nat → Nat → Int32 → Int32 → ml_M → Option ml_M} (hk26 : ∀ (l0 : Nat) (l1 : Nat) (l2 : Int32) (l3 : Int32) (m : ml_M), k26 l0 l1 l2 l3 m = some rm → ml_V E "LostRoom$Sharings" cX7_compareYears 2 false m 26 [(0, ml_r l0), (1, ml_r l1), (2, ml_i l2), (3, ml_i l3)] []) : ∀ (l0 : Nat) (l1 : Nat) (l2 : Int32) (l3 : Int32) (m : ml_M), fX7_compareYears_88 k2 k26 l0 l1 l2 l3 m = some rm → ml_V E "LostRoom$Sharings" cX7_compareYears 2 false m 88 [(0, ml_r l0), (1, ml_r l1), (2, ml_i l2), (3, ml_i l3)] [] := by
  intro l0 l1 l2 l3 m h
  unfold fX7_compareYears_88 at h
  exact ml_iinc (lv' := [(3, ml_i (l3 + (1 : Int32))), (0, ml_r l0), (1, ml_r l1), (2, ml_i l2)]) dX7_compareYears_88 3 rfl (congrArg (l3 + ·) kc_i1) (ml_hn hL rfl) rfl <| ml_goto dX7_compareYears_91 <| ml_V.sub [1, 2, 3, 0] rfl (hk26 _ _ _ _ _ h)
def fX7_compareYears_61 (k2 : Nat → Nat → Int32 → ml_M → Option ml_M) (k26 : Nat → Nat → Int32 → Int32 → ml_M → Option ml_M) (l0 : Nat) (l1 : Nat) (l2 : Int32) (l3 : Int32) (m : ml_M) : Option ml_M :=
    if ml_in m l1 28 l3 then
    ml_let (ml_R m l1 l3.toNatClampNeg) fun a985 =>
    if (ml_K m a985).1 = 6 then
    if ml_in m l1 28 l2 then
    ml_let (ml_R m l1 l2.toNatClampNeg) fun a988 =>
    if (ml_K m a988).1 = 6 then
    if (ml_I m a988 1) < (ml_I m a985 1) then
    fX7_compareYears_88 k2 k26 l0 l1 l2 l3 m
    else
    if (ml_K m l0).1 = 7 then
    ml_let (ml_R m l0 11) fun a991 =>
    if ml_in m a991 20 l2 then
    if ml_in m a991 20 l2 then
    ml_let (ml_sI m a991 l2.toNatClampNeg ((ml_I m a991 l2.toNatClampNeg) ||| ((1 : Int32) <<< (l3 &&& 31)))) fun m994 =>
    fX7_compareYears_88 k2 k26 l0 l1 l2 l3 m994
    else none
    else none
    else none
    else none
    else none
    else none
    else none
theorem vX7_compareYears_61 {E : ml_E} (hL : ml_eL E = 4) {rm : ml_M} (hr : ∀ (pc pc' : Nat) (lv : List (Nat × ml_X)), ml_d cX7_compareYears pc .return_ 1 pc' → True → ml_V E "LostRoom$Sharings" cX7_compareYears 2 false rm pc lv []) {k2 : Nat → Nat → Int32 → ml_M → Option ml_M} (hk2 : ∀ (l0 : Nat) (l1 : Nat) (l2 : Int32) (m : ml_M), k2 l0 l1 l2 m = some rm → ml_V E "LostRoom$Sharings" cX7_compareYears 2 false m 2 [(0, ml_r l0), (1, ml_r l1), (2, ml_i l2)] []) {k26 : Nat → Nat → Int32 → Int32 → ml_M → Option ml_M} (hk26 : ∀ (l0 : Nat) (l1 : Nat) (l2 : Int32) (l3 : Int32) (m : ml_M), k26 l0 l1 l2 l3 m = some rm → ml_V E "LostRoom$Sharings" cX7_compareYears 2 false m 26 [(0, ml_r l0), (1, ml_r l1), (2, ml_i l2), (3, ml_i l3)] []) : ∀ (l0 : Nat) (l1 : Nat) (l2 : Int32) (l3 : Int32) (m : ml_M), fX7_compareYears_61 k2 k26 l0 l1 l2 l3 m = some rm → ml_V E "LostRoom$Sharings" cX7_compareYears 2 false m 61 [(0, ml_r l0), (1, ml_r l1), (2, ml_i l2), (3, ml_i l3)] [] := by
  intro l0 l1 l2 l3 m h
  unfold fX7_compareYears_61 at h
  exact ml_aload_n dX7_compareYears_61 1 rfl <| ml_iload_n dX7_compareYears_62 3 rfl <| ml_ck_of h fun hi984 h => ml_aald (kd := 28) dX7_compareYears_63 (by decide) hi984 <| ml_lx (mk := ml_r) h fun a985 h => ml_ck_of h fun hc986 h => ml_getI dX7_compareYears_64 wb_185 hc986 <| ml_aload_n dX7_compareYears_67 1 rfl <| ml_iload_n dX7_compareYears_68 2 rfl <| ml_ck_of h fun hi987 h => ml_aald (kd := 28) dX7_compareYears_69 (by decide) hi987 <| ml_lx (mk := ml_r) h fun a988 h => ml_ck_of h fun hc989 h => ml_getI dX7_compareYears_70 wb_185 hc989 <| ml_icmp_gt dX7_compareYears_73 h (fun _ h => ml_V.sub [0, 1, 2, 3] rfl (vX7_compareYears_88 hL hr hk2 hk26 _ _ _ _ _ h)) (fun _ h => ml_aload_n dX7_compareYears_76 0 rfl <| ml_ck_of h fun hc990 h => ml_getR dX7_compareYears_77 wb_186 hc990 <| ml_lx (mk := ml_r) h fun a991 h => ml_iload_n dX7_compareYears_80 2 rfl <| ml_dup2 dX7_compareYears_81 rfl rfl <| ml_ck_of h fun hi992 h => ml_iald dX7_compareYears_82 hi992 <| ml_iconst dX7_compareYears_83 kc_i1 <| ml_iload_n dX7_compareYears_84 3 rfl <| ml_ishl dX7_compareYears_85 <| ml_ior dX7_compareYears_86 <| ml_ck_of h fun hi993 h => ml_iast dX7_compareYears_87 hi993 <| ml_lt (m := m) rfl h fun m994 em995 h => ml_V.sub [0, 1, 2, 3] rfl (vX7_compareYears_88 hL hr hk2 hk26 _ _ _ _ _ h))
def fX7_compareYears_94 (k2 : Nat → Nat → Int32 → ml_M → Option ml_M) (l0 : Nat) (l1 : Nat) (l2 : Int32) (m : ml_M) : Option ml_M :=
    k2 l0 l1 (l2 + (1 : Int32)) m
theorem vX7_compareYears_94 {E : ml_E} (hL : ml_eL E = 4) {rm : ml_M} (hr : ∀ (pc pc' : Nat) (lv : List (Nat × ml_X)), ml_d cX7_compareYears pc .return_ 1 pc' → True → ml_V E "LostRoom$Sharings" cX7_compareYears 2 false rm pc lv []) {k2 : Nat → Nat → Int32 → ml_M → Option ml_M} (hk2 : ∀ (l0 : Nat) (l1 : Nat) (l2 : Int32) (m : ml_M), k2 l0 l1 l2 m = some rm → ml_V E "LostRoom$Sharings" cX7_compareYears 2 false m 2 [(0, ml_r l0), (1, ml_r l1), (2, ml_i l2)] []) : ∀ (l0 : Nat) (l1 : Nat) (l2 : Int32) (m : ml_M), fX7_compareYears_94 k2 l0 l1 l2 m = some rm → ml_V E "LostRoom$Sharings" cX7_compareYears 2 false m 94 [(0, ml_r l0), (1, ml_r l1), (2, ml_i l2)] [] := by
  intro l0 l1 l2 m h
  unfold fX7_compareYears_94 at h
  exact ml_iinc (lv' := [(2, ml_i (l2 + (1 : Int32))), (0, ml_r l0), (1, ml_r l1)]) dX7_compareYears_94 2 rfl (congrArg (l2 + ·) kc_i1) (ml_hn hL rfl) rfl <| ml_goto dX7_compareYears_97 <| ml_V.sub [1, 2, 0] rfl (hk2 _ _ _ _ h)
def fX7_compareYears_26 (k2 : Nat → Nat → Int32 → ml_M → Option ml_M) : Nat → Nat → Nat → Int32 → Int32 → ml_M → Option ml_M
  | 0, _, _, _, _, _ => none
  | fu + 1, l0, l1, l2, l3, m =>
    if (ml_K m l0).1 = 7 then
    if (ml_I m l0 7) ≤ l3 then
    fX7_compareYears_94 k2 l0 l1 l2 m
    else
    if ml_in m l1 28 l3 then
    ml_let (ml_R m l1 l3.toNatClampNeg) fun a998 =>
    if (ml_K m a998).1 = 6 then
    if ml_in m l1 28 l2 then
    ml_let (ml_R m l1 l2.toNatClampNeg) fun a1001 =>
    if (ml_K m a1001).1 = 6 then
    if (ml_I m a998 1) < (ml_I m a1001 1) then
    fX7_compareYears_61 k2 (fX7_compareYears_26 k2 fu) l0 l1 l2 l3 m
    else
    ml_let (ml_R m l0 10) fun a1003 =>
    if ml_in m a1003 20 l2 then
    if ml_in m a1003 20 l2 then
    ml_let (ml_sI m a1003 l2.toNatClampNeg ((ml_I m a1003 l2.toNatClampNeg) ||| ((1 : Int32) <<< (l3 &&& 31)))) fun m1006 =>
    fX7_compareYears_61 k2 (fX7_compareYears_26 k2 fu) l0 l1 l2 l3 m1006
    else none
    else none
    else none
    else none
    else none
    else none
    else none
theorem vX7_compareYears_26 {E : ml_E} (hL : ml_eL E = 4) {rm : ml_M} (hr : ∀ (pc pc' : Nat) (lv : List (Nat × ml_X)), ml_d cX7_compareYears pc .return_ 1 pc' → True → ml_V E "LostRoom$Sharings" cX7_compareYears 2 false rm pc lv []) {k2 : Nat → Nat → Int32 → ml_M → Option ml_M} (hk2 : ∀ (l0 : Nat) (l1 : Nat) (l2 : Int32) (m : ml_M), k2 l0 l1 l2 m = some rm → ml_V E "LostRoom$Sharings" cX7_compareYears 2 false m 2 [(0, ml_r l0), (1, ml_r l1), (2, ml_i l2)] []) : ∀ (fu : Nat) (l0 : Nat) (l1 : Nat) (l2 : Int32) (l3 : Int32) (m : ml_M), fX7_compareYears_26 k2 fu l0 l1 l2 l3 m = some rm → ml_V E "LostRoom$Sharings" cX7_compareYears 2 false m 26 [(0, ml_r l0), (1, ml_r l1), (2, ml_i l2), (3, ml_i l3)] [] := by
  intro fu
  induction fu with
  | zero => intro l0 l1 l2 l3 m h; exact ml_none h
  | succ fu ih =>
    intro l0 l1 l2 l3 m h
    have hk26 := ih
    unfold fX7_compareYears_26 at h
    exact ml_iload_n dX7_compareYears_26 3 rfl <| ml_aload_n dX7_compareYears_27 0 rfl <| ml_ck_of h fun hc996 h => ml_getI dX7_compareYears_28 wb_187 hc996 <| ml_icmp_ge dX7_compareYears_31 h (fun _ h => ml_V.sub [0, 1, 2] rfl (vX7_compareYears_94 hL hr hk2 _ _ _ _ h)) (fun _ h => ml_aload_n dX7_compareYears_34 1 rfl <| ml_iload_n dX7_compareYears_35 3 rfl <| ml_ck_of h fun hi997 h => ml_aald (kd := 28) dX7_compareYears_36 (by decide) hi997 <| ml_lx (mk := ml_r) h fun a998 h => ml_ck_of h fun hc999 h => ml_getI dX7_compareYears_37 wb_185 hc999 <| ml_aload_n dX7_compareYears_40 1 rfl <| ml_iload_n dX7_compareYears_41 2 rfl <| ml_ck_of h fun hi1000 h => ml_aald (kd := 28) dX7_compareYears_42 (by decide) hi1000 <| ml_lx (mk := ml_r) h fun a1001 h => ml_ck_of h fun hc1002 h => ml_getI dX7_compareYears_43 wb_185 hc1002 <| ml_icmp_lt dX7_compareYears_46 h (fun _ h => ml_V.sub [0, 1, 2, 3] rfl (vX7_compareYears_61 hL hr hk2 hk26 _ _ _ _ _ h)) (fun _ h => ml_aload_n dX7_compareYears_49 0 rfl <| ml_getR dX7_compareYears_50 wb_188 hc996 <| ml_lx (mk := ml_r) h fun a1003 h => ml_iload_n dX7_compareYears_53 2 rfl <| ml_dup2 dX7_compareYears_54 rfl rfl <| ml_ck_of h fun hi1004 h => ml_iald dX7_compareYears_55 hi1004 <| ml_iconst dX7_compareYears_56 kc_i1 <| ml_iload_n dX7_compareYears_57 3 rfl <| ml_ishl dX7_compareYears_58 <| ml_ior dX7_compareYears_59 <| ml_ck_of h fun hi1005 h => ml_iast dX7_compareYears_60 hi1005 <| ml_lt (m := m) rfl h fun m1006 em1007 h => ml_V.sub [0, 1, 2, 3] rfl (vX7_compareYears_61 hL hr hk2 hk26 _ _ _ _ _ h)))
def fX7_compareYears_2 : Nat → Nat → Nat → Int32 → ml_M → Option ml_M
  | 0, _, _, _, _ => none
  | fu + 1, l0, l1, l2, m =>
    if (ml_K m l0).1 = 7 then
    if (ml_I m l0 7) ≤ l2 then
    some m
    else
    ml_let (ml_R m l0 10) fun a1009 =>
    if ml_in m a1009 20 l2 then
    ml_let (ml_sI m a1009 l2.toNatClampNeg (0 : Int32)) fun m1011 =>
    ml_let (ml_R m1011 l0 11) fun a1013 =>
    if ml_in m1011 a1013 20 l2 then
    ml_let (ml_sI m1011 a1013 l2.toNatClampNeg (0 : Int32)) fun m1015 =>
    fX7_compareYears_26 (fX7_compareYears_2 fu) ml_fu l0 l1 l2 (0 : Int32) m1015
    else none
    else none
    else none
theorem vX7_compareYears_2 {E : ml_E} (hL : ml_eL E = 4) {rm : ml_M} (hr : ∀ (pc pc' : Nat) (lv : List (Nat × ml_X)), ml_d cX7_compareYears pc .return_ 1 pc' → True → ml_V E "LostRoom$Sharings" cX7_compareYears 2 false rm pc lv []) : ∀ (fu : Nat) (l0 : Nat) (l1 : Nat) (l2 : Int32) (m : ml_M), fX7_compareYears_2 fu l0 l1 l2 m = some rm → ml_V E "LostRoom$Sharings" cX7_compareYears 2 false m 2 [(0, ml_r l0), (1, ml_r l1), (2, ml_i l2)] [] := by
  intro fu
  induction fu with
  | zero => intro l0 l1 l2 m h; exact ml_none h
  | succ fu ih =>
    intro l0 l1 l2 m h
    have hk2 := ih
    unfold fX7_compareYears_2 at h
    exact ml_iload_n dX7_compareYears_2 2 rfl <| ml_aload_n dX7_compareYears_3 0 rfl <| ml_ck_of h fun hc1008 h => ml_getI dX7_compareYears_4 wb_187 hc1008 <| ml_icmp_ge dX7_compareYears_7 h (fun _ h => ml_rv hr dX7_compareYears_100 trivial h) (fun _ h => ml_aload_n dX7_compareYears_10 0 rfl <| ml_getR dX7_compareYears_11 wb_188 hc1008 <| ml_lx (mk := ml_r) h fun a1009 h => ml_iload_n dX7_compareYears_14 2 rfl <| ml_iconst dX7_compareYears_15 kc_i0 <| ml_ck_of h fun hi1010 h => ml_iast dX7_compareYears_16 hi1010 <| ml_lt (m := m) rfl h fun m1011 em1012 h => ml_aload_n dX7_compareYears_17 0 rfl <| ml_getR dX7_compareYears_18 wb_186 (ml_kk em1012 hc1008) <| ml_lx (mk := ml_r) h fun a1013 h => ml_iload_n dX7_compareYears_21 2 rfl <| ml_iconst dX7_compareYears_22 kc_i0 <| ml_ck_of h fun hi1014 h => ml_iast dX7_compareYears_23 hi1014 <| ml_lt (m := m1011) rfl h fun m1015 em1016 h => ml_iconst dX7_compareYears_24 kc_i0 <| ml_istore_n (lv' := [(3, ml_i (0 : Int32)), (0, ml_r l0), (1, ml_r l1), (2, ml_i l2)]) dX7_compareYears_25 (ml_hn hL rfl) rfl <| ml_V.sub [1, 2, 3, 0] rfl (vX7_compareYears_26 hL hr hk2 ml_fu _ _ _ _ _ h))
def fX7_compareYears (l0 : Nat) (l1 : Nat) (m : ml_M) : Option ml_M :=
    fX7_compareYears_2 ml_fu l0 l1 (0 : Int32) m
theorem wX7_compareYears_0 {E : ml_E} (hL : ml_eL E = 4) {rm : ml_M} (hr : ∀ (pc pc' : Nat) (lv : List (Nat × ml_X)), ml_d cX7_compareYears pc .return_ 1 pc' → True → ml_V E "LostRoom$Sharings" cX7_compareYears 2 false rm pc lv []) : ∀ (l0 : Nat) (l1 : Nat) (m : ml_M), fX7_compareYears l0 l1 m = some rm → ml_V E "LostRoom$Sharings" cX7_compareYears 2 false m 0 [(0, ml_r l0), (1, ml_r l1)] [] := by
  intro l0 l1 m h
  unfold fX7_compareYears at h
  exact ml_iconst dX7_compareYears_0 kc_i0 <| ml_istore_n (lv' := [(2, ml_i (0 : Int32)), (0, ml_r l0), (1, ml_r l1)]) dX7_compareYears_1 (ml_hn hL rfl) rfl <| ml_V.sub [1, 2, 0] rfl (vX7_compareYears_2 hL hr  ml_fu _ _ _ _ h)
theorem sX7_compareYears {l0 : Nat} {l1 : Nat} {m : ml_M} {rm : ml_M} (h : fX7_compareYears l0 l1 m = some rm) : ml_Sn yX7_compareYears cX7_compareYears 4 none 2 [ml_r l0, ml_r l1] m none rm :=
  ml_Sn_of (P := True) (ini := false) (by decide +kernel) (Nat.le_of_ble_eq_true rfl) (fun h => by cases h) (fun _ => ml_RkV) fun E hL hr => wX7_compareYears_0 hL hr _ _ _ h
theorem dX10_has_0 : ml_d cX10_has 0 (.iload_n 0) 1 1 := ⟨by decide +kernel, rfl⟩
theorem dX10_has_1 : ml_d cX10_has 1 (.iload_n 1) 1 2 := ⟨by decide +kernel, rfl⟩
theorem dX10_has_2 : ml_d cX10_has 2 (.ishr) 1 3 := ⟨by decide +kernel, rfl⟩
theorem dX10_has_3 : ml_d cX10_has 3 (.iconst 1) 1 4 := ⟨by decide +kernel, rfl⟩
theorem dX10_has_4 : ml_d cX10_has 4 (.iand) 1 5 := ⟨by decide +kernel, rfl⟩
theorem dX10_has_5 : ml_j cX10_has 5 (.ifCond .eq) 12 8 := ⟨7, by decide +kernel, by decide, rfl⟩
theorem dX10_has_8 : ml_d cX10_has 8 (.iconst 1) 1 9 := ⟨by decide +kernel, rfl⟩
theorem dX10_has_9 : ml_j cX10_has 9 .goto 13 12 := ⟨4, by decide +kernel, by decide, rfl⟩
theorem dX10_has_12 : ml_d cX10_has 12 (.iconst 0) 1 13 := ⟨by decide +kernel, rfl⟩
theorem dX10_has_13 : ml_d cX10_has 13 (.ireturn) 1 14 := ⟨by decide +kernel, rfl⟩
def fX10_has (l0 : Int32) (l1 : Int32) (m : ml_M) : Option Int32 :=
    if ((l0 >>> (l1 &&& 31)) &&& (1 : Int32)) = 0 then
    some (0 : Int32)
    else
    some (1 : Int32)
theorem wX10_has_0 {E : ml_E} (hL : ml_eL E = 2) {rv : Int32} {m : ml_M} (hr : ∀ (pc pc' : Nat) (lv : List (Nat × ml_X)), ml_d cX10_has pc .ireturn 1 pc' → (rv = 0 ∨ rv = 1) → ml_V E "LostRoom" cX10_has 2 false m pc lv [ml_i rv]) : ∀ (l0 : Int32) (l1 : Int32), fX10_has l0 l1 m = some rv → ml_V E "LostRoom" cX10_has 2 false m 0 [(0, ml_i l0), (1, ml_i l1)] [] := by
  intro l0 l1 h
  unfold fX10_has at h
  exact ml_iload_n dX10_has_0 0 rfl <| ml_iload_n dX10_has_1 1 rfl <| ml_ishr dX10_has_2 <| ml_iconst dX10_has_3 kc_i1 <| ml_iand dX10_has_4 <| ml_if_eq dX10_has_5 h (fun _ h => ml_iconst dX10_has_12 kc_i0 <| ml_rp (mk := ml_i) hr dX10_has_13 (fun e => Or.inl e.symm) h) (fun _ h => ml_iconst dX10_has_8 kc_i1 <| ml_goto dX10_has_9 <| ml_rp (mk := ml_i) hr dX10_has_13 (fun e => Or.inr e.symm) h)
theorem sX10_has {l0 : Int32} {l1 : Int32} {m : ml_M} {rv : Int32} (h : fX10_has l0 l1 m = some rv) : ml_Sn yX10_has cX10_has 2 (some .boolean) 2 [ml_i l0, ml_i l1] m (some (ml_i rv)) m :=
  ml_Sn_of (P := (rv = 0 ∨ rv = 1)) (ini := false) (by decide +kernel) (Nat.le_of_ble_eq_true rfl) (fun h => by cases h) (fun hz => ml_RkZ rv hz) fun E hL hr => wX10_has_0 hL hr _ _ h
theorem dX7_countStrangers_0 : ml_d cX7_countStrangers 0 (.aload_n 0) 1 1 := ⟨by decide +kernel, rfl⟩
theorem dX7_countStrangers_1 : ml_d cX7_countStrangers 1 (.getfield 25) 3 4 := ⟨by decide +kernel, rfl⟩
theorem dX7_countStrangers_4 : ml_d cX7_countStrangers 4 (.iconst 0) 1 5 := ⟨by decide +kernel, rfl⟩
theorem dX7_countStrangers_5 : ml_d cX7_countStrangers 5 (.invokestatic 75) 3 8 := ⟨by decide +kernel, rfl⟩
theorem dX7_countStrangers_8 : ml_d cX7_countStrangers 8 (.iconst 0) 1 9 := ⟨by decide +kernel, rfl⟩
theorem dX7_countStrangers_9 : ml_d cX7_countStrangers 9 (.istore_n 3) 1 10 := ⟨by decide +kernel, rfl⟩
theorem dX7_countStrangers_10 : ml_d cX7_countStrangers 10 (.iload_n 3) 1 11 := ⟨by decide +kernel, rfl⟩
theorem dX7_countStrangers_11 : ml_d cX7_countStrangers 11 (.iload_n 2) 1 12 := ⟨by decide +kernel, rfl⟩
theorem dX7_countStrangers_12 : ml_j cX7_countStrangers 12 (.if_icmp .ge) 90 15 := ⟨78, by decide +kernel, by decide, rfl⟩
theorem dX7_countStrangers_15 : ml_d cX7_countStrangers 15 (.aload_n 1) 1 16 := ⟨by decide +kernel, rfl⟩
theorem dX7_countStrangers_16 : ml_d cX7_countStrangers 16 (.iload_n 3) 1 17 := ⟨by decide +kernel, rfl⟩
theorem dX7_countStrangers_17 : ml_d cX7_countStrangers 17 (.aaload) 1 18 := ⟨by decide +kernel, rfl⟩
theorem dX7_countStrangers_18 : ml_d cX7_countStrangers 18 (.astore 4) 2 20 := ⟨by decide +kernel, rfl⟩
theorem dX7_countStrangers_20 : ml_d cX7_countStrangers 20 (.aload 4) 2 22 := ⟨by decide +kernel, rfl⟩
theorem dX7_countStrangers_22 : ml_d cX7_countStrangers 22 (.getfield 120) 3 25 := ⟨by decide +kernel, rfl⟩
theorem dX7_countStrangers_25 : ml_d cX7_countStrangers 25 (.bipush (-9)) 2 27 := ⟨by decide +kernel, rfl⟩
theorem dX7_countStrangers_27 : ml_j cX7_countStrangers 27 (.if_icmp .ne) 33 30 := ⟨6, by decide +kernel, by decide, rfl⟩
theorem dX7_countStrangers_30 : ml_j cX7_countStrangers 30 .goto 84 33 := ⟨54, by decide +kernel, by decide, rfl⟩
theorem dX7_countStrangers_33 : ml_d cX7_countStrangers 33 (.iconst 0) 1 34 := ⟨by decide +kernel, rfl⟩
theorem dX7_countStrangers_34 : ml_d cX7_countStrangers 34 (.istore 5) 2 36 := ⟨by decide +kernel, rfl⟩
theorem dX7_countStrangers_36 : ml_d cX7_countStrangers 36 (.iload 5) 2 38 := ⟨by decide +kernel, rfl⟩
theorem dX7_countStrangers_38 : ml_d cX7_countStrangers 38 (.aload_n 0) 1 39 := ⟨by decide +kernel, rfl⟩
theorem dX7_countStrangers_39 : ml_d cX7_countStrangers 39 (.getfield 56) 3 42 := ⟨by decide +kernel, rfl⟩
theorem dX7_countStrangers_42 : ml_j cX7_countStrangers 42 (.if_icmp .ge) 84 45 := ⟨42, by decide +kernel, by decide, rfl⟩
theorem dX7_countStrangers_45 : ml_d cX7_countStrangers 45 (.aload 4) 2 47 := ⟨by decide +kernel, rfl⟩
theorem dX7_countStrangers_47 : ml_d cX7_countStrangers 47 (.getfield 125) 3 50 := ⟨by decide +kernel, rfl⟩
theorem dX7_countStrangers_50 : ml_d cX7_countStrangers 50 (.iload 5) 2 52 := ⟨by decide +kernel, rfl⟩
theorem dX7_countStrangers_52 : ml_d cX7_countStrangers 52 (.invokestatic 93) 3 55 := ⟨by decide +kernel, rfl⟩
theorem dX7_countStrangers_55 : ml_j cX7_countStrangers 55 (.ifCond .ne) 78 58 := ⟨23, by decide +kernel, by decide, rfl⟩
theorem dX7_countStrangers_58 : ml_d cX7_countStrangers 58 (.aload_n 0) 1 59 := ⟨by decide +kernel, rfl⟩
theorem dX7_countStrangers_59 : ml_d cX7_countStrangers 59 (.getfield 25) 3 62 := ⟨by decide +kernel, rfl⟩
theorem dX7_countStrangers_62 : ml_d cX7_countStrangers 62 (.aload 4) 2 64 := ⟨by decide +kernel, rfl⟩
theorem dX7_countStrangers_64 : ml_d cX7_countStrangers 64 (.getfield 120) 3 67 := ⟨by decide +kernel, rfl⟩
theorem dX7_countStrangers_67 : ml_d cX7_countStrangers 67 (.bipush 8) 2 69 := ⟨by decide +kernel, rfl⟩
theorem dX7_countStrangers_69 : ml_d cX7_countStrangers 69 (.imul) 1 70 := ⟨by decide +kernel, rfl⟩
theorem dX7_countStrangers_70 : ml_d cX7_countStrangers 70 (.iload 5) 2 72 := ⟨by decide +kernel, rfl⟩
theorem dX7_countStrangers_72 : ml_d cX7_countStrangers 72 (.iadd) 1 73 := ⟨by decide +kernel, rfl⟩
theorem dX7_countStrangers_73 : ml_d cX7_countStrangers 73 (.dup2) 1 74 := ⟨by decide +kernel, rfl⟩
theorem dX7_countStrangers_74 : ml_d cX7_countStrangers 74 (.iaload) 1 75 := ⟨by decide +kernel, rfl⟩
theorem dX7_countStrangers_75 : ml_d cX7_countStrangers 75 (.iconst 1) 1 76 := ⟨by decide +kernel, rfl⟩
theorem dX7_countStrangers_76 : ml_d cX7_countStrangers 76 (.iadd) 1 77 := ⟨by decide +kernel, rfl⟩
theorem dX7_countStrangers_77 : ml_d cX7_countStrangers 77 (.iastore) 1 78 := ⟨by decide +kernel, rfl⟩
theorem dX7_countStrangers_78 : ml_d cX7_countStrangers 78 (.iinc 5 1) 3 81 := ⟨by decide +kernel, rfl⟩
theorem dX7_countStrangers_81 : ml_j cX7_countStrangers 81 .goto 36 84 := ⟨(-45), by decide +kernel, by decide, rfl⟩
theorem dX7_countStrangers_84 : ml_d cX7_countStrangers 84 (.iinc 3 1) 3 87 := ⟨by decide +kernel, rfl⟩
theorem dX7_countStrangers_87 : ml_j cX7_countStrangers 87 .goto 10 90 := ⟨(-77), by decide +kernel, by decide, rfl⟩
theorem dX7_countStrangers_90 : ml_d cX7_countStrangers 90 (.return_) 1 91 := ⟨by decide +kernel, rfl⟩
def fX7_countStrangers_78 (k10 : Nat → Nat → Int32 → Int32 → ml_M → Option ml_M) (k36 : Nat → Nat → Int32 → Int32 → Nat → Int32 → ml_M → Option ml_M) (l0 : Nat) (l1 : Nat) (l2 : Int32) (l3 : Int32) (l4 : Nat) (l5 : Int32) (m : ml_M) : Option ml_M :=
    k36 l0 l1 l2 l3 l4 (l5 + (1 : Int32)) m
theorem vX7_countStrangers_78 {E : ml_E} (hL : ml_eL E = 6) {rm : ml_M} (hr : ∀ (pc pc' : Nat) (lv : List (Nat × ml_X)), ml_d cX7_countStrangers pc .return_ 1 pc' → True → ml_V E "LostRoom$Sharings" cX7_countStrangers 3 false rm pc lv []) {k10 : Nat → Nat → Int32 → Int32 → ml_M → Option ml_M} (hk10 : ∀ (l0 : Nat) (l1 : Nat) (l2 : Int32) (l3 : Int32) (m : ml_M), k10 l0 l1 l2 l3 m = some rm → ml_V E "LostRoom$Sharings" cX7_countStrangers 3 false m 10 [(0, ml_r l0), (1, ml_r l1), (2, ml_i l2), (3, ml_i l3)] []) {k36 : Nat → Nat → Int32 → Int32 → Nat → Int32 → ml_M → Option ml_M} (hk36 : ∀ (l0 : Nat) (l1 : Nat) (l2 : Int32) (l3 : Int32) (l4 : Nat) (l5 : Int32) (m : ml_M), k36 l0 l1 l2 l3 l4 l5 m = some rm → ml_V E "LostRoom$Sharings" cX7_countStrangers 3 false m 36 [(0, ml_r l0), (1, ml_r l1), (2, ml_i l2), (3, ml_i l3), (4, ml_r l4), (5, ml_i l5)] []) : ∀ (l0 : Nat) (l1 : Nat) (l2 : Int32) (l3 : Int32) (l4 : Nat) (l5 : Int32) (m : ml_M), fX7_countStrangers_78 k10 k36 l0 l1 l2 l3 l4 l5 m = some rm → ml_V E "LostRoom$Sharings" cX7_countStrangers 3 false m 78 [(0, ml_r l0), (1, ml_r l1), (2, ml_i l2), (3, ml_i l3), (4, ml_r l4), (5, ml_i l5)] [] := by
  intro l0 l1 l2 l3 l4 l5 m h
  unfold fX7_countStrangers_78 at h
  exact ml_iinc (lv' := [(5, ml_i (l5 + (1 : Int32))), (0, ml_r l0), (1, ml_r l1), (2, ml_i l2), (3, ml_i l3), (4, ml_r l4)]) dX7_countStrangers_78 5 rfl (congrArg (l5 + ·) kc_i1) (ml_hn hL rfl) rfl <| ml_goto dX7_countStrangers_81 <| ml_V.sub [1, 2, 3, 4, 5, 0] rfl (hk36 _ _ _ _ _ _ _ h)
def fX7_countStrangers_84 (k10 : Nat → Nat → Int32 → Int32 → ml_M → Option ml_M) (l0 : Nat) (l1 : Nat) (l2 : Int32) (l3 : Int32) (m : ml_M) : Option ml_M :=
    k10 l0 l1 l2 (l3 + (1 : Int32)) m
theorem vX7_countStrangers_84 {E : ml_E} (hL : ml_eL E = 6) {rm : ml_M} (hr : ∀ (pc pc' : Nat) (lv : List (Nat × ml_X)), ml_d cX7_countStrangers pc .return_ 1 pc' → True → ml_V E "LostRoom$Sharings" cX7_countStrangers 3 false rm pc lv []) {k10 : Nat → Nat → Int32 → Int32 → ml_M → Option ml_M} (hk10 : ∀ (l0 : Nat) (l1 : Nat) (l2 : Int32) (l3 : Int32) (m : ml_M), k10 l0 l1 l2 l3 m = some rm → ml_V E "LostRoom$Sharings" cX7_countStrangers 3 false m 10 [(0, ml_r l0), (1, ml_r l1), (2, ml_i l2), (3, ml_i l3)] []) : ∀ (l0 : Nat) (l1 : Nat) (l2 : Int32) (l3 : Int32) (m : ml_M), fX7_countStrangers_84 k10 l0 l1 l2 l3 m = some rm → ml_V E "LostRoom$Sharings" cX7_countStrangers 3 false m 84 [(0, ml_r l0), (1, ml_r l1), (2, ml_i l2), (3, ml_i l3)] [] := by
  intro l0 l1 l2 l3 m h
  unfold fX7_countStrangers_84 at h
  exact ml_iinc (lv' := [(3, ml_i (l3 + (1 : Int32))), (0, ml_r l0), (1, ml_r l1), (2, ml_i l2)]) dX7_countStrangers_84 3 rfl (congrArg (l3 + ·) kc_i1) (ml_hn hL rfl) rfl <| ml_goto dX7_countStrangers_87 <| ml_V.sub [1, 2, 3, 0] rfl (hk10 _ _ _ _ _ h)
def fX7_countStrangers_36 (k10 : Nat → Nat → Int32 → Int32 → ml_M → Option ml_M) : Nat → Nat → Nat → Int32 → Int32 → Nat → Int32 → ml_M → Option ml_M
  | 0, _, _, _, _, _, _, _ => none
  | fu + 1, l0, l1, l2, l3, l4, l5, m =>
    if (ml_K m l0).1 = 7 then
    if (ml_I m l0 7) ≤ l5 then
    fX7_countStrangers_84 k10 l0 l1 l2 l3 m
    else
    if (ml_K m l4).1 = 8 then
    ml_b1 (fX10_has (ml_I m l4 5) l5 m) fun r1020 =>
    if r1020 = 0 then
    ml_let (ml_R m l0 8) fun a1021 =>
    if ml_in m a1021 20 (((ml_I m l4 6) * (8 : Int32)) + l5) then
    if ml_in m a1021 20 (((ml_I m l4 6) * (8 : Int32)) + l5) then
    ml_let (ml_sI m a1021 (((ml_I m l4 6) * (8 : Int32)) + l5).toNatClampNeg ((ml_I m a1021 (((ml_I m l4 6) * (8 : Int32)) + l5).toNatClampNeg) + (1 : Int32))) fun m1024 =>
    fX7_countStrangers_78 k10 (fX7_countStrangers_36 k10 fu) l0 l1 l2 l3 l4 l5 m1024
    else none
    else none
    else
    fX7_countStrangers_78 k10 (fX7_countStrangers_36 k10 fu) l0 l1 l2 l3 l4 l5 m
    else none
    else none
theorem vX7_countStrangers_36 {E : ml_E} (hL : ml_eL E = 6) {rm : ml_M} (hr : ∀ (pc pc' : Nat) (lv : List (Nat × ml_X)), ml_d cX7_countStrangers pc .return_ 1 pc' → True → ml_V E "LostRoom$Sharings" cX7_countStrangers 3 false rm pc lv []) {k10 : Nat → Nat → Int32 → Int32 → ml_M → Option ml_M} (hk10 : ∀ (l0 : Nat) (l1 : Nat) (l2 : Int32) (l3 : Int32) (m : ml_M), k10 l0 l1 l2 l3 m = some rm → ml_V E "LostRoom$Sharings" cX7_countStrangers 3 false m 10 [(0, ml_r l0), (1, ml_r l1), (2, ml_i l2), (3, ml_i l3)] []) : ∀ (fu : Nat) (l0 : Nat) (l1 : Nat) (l2 : Int32) (l3 : Int32) (l4 : Nat) (l5 : Int32) (m : ml_M), fX7_countStrangers_36 k10 fu l0 l1 l2 l3 l4 l5 m = some rm → ml_V E "LostRoom$Sharings" cX7_countStrangers 3 false m 36 [(0, ml_r l0), (1, ml_r l1), (2, ml_i l2), (3, ml_i l3), (4, ml_r l4), (5, ml_i l5)] [] := by
  intro fu
  induction fu with
  | zero => intro l0 l1 l2 l3 l4 l5 m h; exact ml_none h
  | succ fu ih =>
    intro l0 l1 l2 l3 l4 l5 m h
    have hk36 := ih
    unfold fX7_countStrangers_36 at h
    exact ml_iload dX7_countStrangers_36 5 rfl <| ml_aload_n dX7_countStrangers_38 0 rfl <| ml_ck_of h fun hc1017 h => ml_getI dX7_countStrangers_39 wb_187 hc1017 <| ml_icmp_ge dX7_countStrangers_42 h (fun _ h => ml_V.sub [0, 1, 2, 3] rfl (vX7_countStrangers_84 hL hr hk10 _ _ _ _ _ h)) (fun _ h => ml_aload dX7_countStrangers_45 4 rfl <| ml_ck_of h fun hc1018 h => ml_getI dX7_countStrangers_47 wb_189 hc1018 <| ml_iload dX7_countStrangers_50 5 rfl <| ml_b1_of h fun r1020 hv1019 h => ml_callSN (host := "LostRoom") dX7_countStrangers_52 (by decide) wb_190 (sX10_has hv1019) rfl (Nat.le_of_ble_eq_true rfl) (Nat.le_of_ble_eq_true rfl) rfl <| ml_if_ne dX7_countStrangers_55 h (fun _ h => ml_V.sub [0, 1, 2, 3, 4, 5] rfl (vX7_countStrangers_78 hL hr hk10 hk36 _ _ _ _ _ _ _ h)) (fun _ h => ml_aload_n dX7_countStrangers_58 0 rfl <| ml_getR dX7_countStrangers_59 wb_191 hc1017 <| ml_lx (mk := ml_r) h fun a1021 h => ml_aload dX7_countStrangers_62 4 rfl <| ml_getI dX7_countStrangers_64 wb_192 hc1018 <| ml_bipush dX7_countStrangers_67 kc_b8 <| ml_imul dX7_countStrangers_69 <| ml_iload dX7_countStrangers_70 5 rfl <| ml_iadd dX7_countStrangers_72 <| ml_dup2 dX7_countStrangers_73 rfl rfl <| ml_ck_of h fun hi1022 h => ml_iald dX7_countStrangers_74 hi1022 <| ml_iconst dX7_countStrangers_75 kc_i1 <| ml_iadd dX7_countStrangers_76 <| ml_ck_of h fun hi1023 h => ml_iast dX7_countStrangers_77 hi1023 <| ml_lt (m := m) rfl h fun m1024 em1025 h => ml_V.sub [0, 1, 2, 3, 4, 5] rfl (vX7_countStrangers_78 hL hr hk10 hk36 _ _ _ _ _ _ _ h)))
def fX7_countStrangers_10 : Nat → Nat → Nat → Int32 → Int32 → ml_M → Option ml_M
  | 0, _, _, _, _, _ => none
  | fu + 1, l0, l1, l2, l3, m =>
    if l2 ≤ l3 then
    some m
    else
    if ml_in m l1 29 l3 then
    ml_let (ml_R m l1 l3.toNatClampNeg) fun a1027 =>
    if (ml_K m a1027).1 = 8 then
    if (ml_I m a1027 6) = (-9 : Int32) then
    fX7_countStrangers_84 (fX7_countStrangers_10 fu) l0 l1 l2 l3 m
    else
    fX7_countStrangers_36 (fX7_countStrangers_10 fu) ml_fu l0 l1 l2 l3 a1027 (0 : Int32) m
    else none
    else none
theorem vX7_countStrangers_10 {E : ml_E} (hL : ml_eL E = 6) {rm : ml_M} (hr : ∀ (pc pc' : Nat) (lv : List (Nat × ml_X)), ml_d cX7_countStrangers pc .return_ 1 pc' → True → ml_V E "LostRoom$Sharings" cX7_countStrangers 3 false rm pc lv []) : ∀ (fu : Nat) (l0 : Nat) (l1 : Nat) (l2 : Int32) (l3 : Int32) (m : ml_M), fX7_countStrangers_10 fu l0 l1 l2 l3 m = some rm → ml_V E "LostRoom$Sharings" cX7_countStrangers 3 false m 10 [(0, ml_r l0), (1, ml_r l1), (2, ml_i l2), (3, ml_i l3)] [] := by
  intro fu
  induction fu with
  | zero => intro l0 l1 l2 l3 m h; exact ml_none h
  | succ fu ih =>
    intro l0 l1 l2 l3 m h
    have hk10 := ih
    unfold fX7_countStrangers_10 at h
    exact ml_iload_n dX7_countStrangers_10 3 rfl <| ml_iload_n dX7_countStrangers_11 2 rfl <| ml_icmp_ge dX7_countStrangers_12 h (fun _ h => ml_rv hr dX7_countStrangers_90 trivial h) (fun _ h => ml_aload_n dX7_countStrangers_15 1 rfl <| ml_iload_n dX7_countStrangers_16 3 rfl <| ml_ck_of h fun hi1026 h => ml_aald (kd := 29) dX7_countStrangers_17 (by decide) hi1026 <| ml_lx (mk := ml_r) h fun a1027 h => ml_astore (lv' := [(4, ml_r a1027), (0, ml_r l0), (1, ml_r l1), (2, ml_i l2), (3, ml_i l3)]) dX7_countStrangers_18 (ml_hn hL rfl) rfl <| ml_aload dX7_countStrangers_20 0 rfl <| ml_ck_of h fun hc1028 h => ml_getI dX7_countStrangers_22 wb_192 hc1028 <| ml_bipush dX7_countStrangers_25 kc_bm9 <| ml_icmp_ne dX7_countStrangers_27 h (fun _ h => ml_iconst dX7_countStrangers_33 kc_i0 <| ml_istore (lv' := [(5, ml_i (0 : Int32)), (4, ml_r a1027), (0, ml_r l0), (1, ml_r l1), (2, ml_i l2), (3, ml_i l3)]) dX7_countStrangers_34 (ml_hn hL rfl) rfl <| ml_V.sub [2, 3, 4, 5, 1, 0] rfl (vX7_countStrangers_36 hL hr hk10 ml_fu _ _ _ _ _ _ _ h)) (fun _ h => ml_goto dX7_countStrangers_30 <| ml_V.sub [1, 2, 3, 4] rfl (vX7_countStrangers_84 hL hr hk10 _ _ _ _ _ h)))
def fX7_countStrangers (l0 : Nat) (l1 : Nat) (l2 : Int32) (m : ml_M) : Option ml_M :=
    if (ml_K m l0).1 = 7 then
    ml_let (ml_R m l0 8) fun a1030 =>
    ml_b1 (fJ7_fill_53178 a1030 (0 : Int32) m) fun m1032 =>
    fX7_countStrangers_10 ml_fu l0 l1 l2 (0 : Int32) m1032
    else none
theorem wX7_countStrangers_0 {E : ml_E} (hL : ml_eL E = 6) {rm : ml_M} (hr : ∀ (pc pc' : Nat) (lv : List (Nat × ml_X)), ml_d cX7_countStrangers pc .return_ 1 pc' → True → ml_V E "LostRoom$Sharings" cX7_countStrangers 3 false rm pc lv []) : ∀ (l0 : Nat) (l1 : Nat) (l2 : Int32) (m : ml_M), fX7_countStrangers l0 l1 l2 m = some rm → ml_V E "LostRoom$Sharings" cX7_countStrangers 3 false m 0 [(0, ml_r l0), (1, ml_r l1), (2, ml_i l2)] [] := by
  intro l0 l1 l2 m h
  unfold fX7_countStrangers at h
  exact ml_aload_n dX7_countStrangers_0 0 rfl <| ml_ck_of h fun hc1029 h => ml_getR dX7_countStrangers_1 wb_191 hc1029 <| ml_lx (mk := ml_r) h fun a1030 h => ml_iconst dX7_countStrangers_4 kc_i0 <| ml_b1_of h fun m1032 hv1031 h => ml_callS dX7_countStrangers_5 wm_316 wb_193 (sJ7_fill_53178 hv1031) rfl (Nat.le_of_ble_eq_true rfl) (Nat.le_of_ble_eq_true rfl) rfl <| ml_iconst dX7_countStrangers_8 kc_i0 <| ml_istore_n (lv' := [(3, ml_i (0 : Int32)), (0, ml_r l0), (1, ml_r l1), (2, ml_i l2)]) dX7_countStrangers_9 (ml_hn hL rfl) rfl <| ml_V.sub [1, 2, 3, 0] rfl (vX7_countStrangers_10 hL hr  ml_fu _ _ _ _ _ h)
theorem sX7_countStrangers {l0 : Nat} {l1 : Nat} {l2 : Int32} {m : ml_M} {rm : ml_M} (h : fX7_countStrangers l0 l1 l2 m = some rm) : ml_Sn yX7_countStrangers cX7_countStrangers 6 none 3 [ml_r l0, ml_r l1, ml_i l2] m none rm :=
  ml_Sn_of (P := True) (ini := false) (by decide +kernel) (Nat.le_of_ble_eq_true rfl) (fun h => by cases h) (fun _ => ml_RkV) fun E hL hr => wX7_countStrangers_0 hL hr _ _ _ _ h
theorem dX7_findCovers_0 : ml_d cX7_findCovers 0 (.iconst 0) 1 1 := ⟨by decide +kernel, rfl⟩
theorem dX7_findCovers_1 : ml_d cX7_findCovers 1 (.istore_n 3) 1 2 := ⟨by decide +kernel, rfl⟩
theorem dX7_findCovers_2 : ml_d cX7_findCovers 2 (.iload_n 3) 1 3 := ⟨by decide +kernel, rfl⟩
theorem dX7_findCovers_3 : ml_d cX7_findCovers 3 (.iconst 1) 1 4 := ⟨by decide +kernel, rfl⟩
theorem dX7_findCovers_4 : ml_d cX7_findCovers 4 (.aload_n 0) 1 5 := ⟨by decide +kernel, rfl⟩
theorem dX7_findCovers_5 : ml_d cX7_findCovers 5 (.getfield 56) 3 8 := ⟨by decide +kernel, rfl⟩
theorem dX7_findCovers_8 : ml_d cX7_findCovers 8 (.ishl) 1 9 := ⟨by decide +kernel, rfl⟩
theorem dX7_findCovers_9 : ml_j cX7_findCovers 9 (.if_icmp .ge) 68 12 := ⟨59, by decide +kernel, by decide, rfl⟩
theorem dX7_findCovers_12 : ml_d cX7_findCovers 12 (.iconst 1) 1 13 := ⟨by decide +kernel, rfl⟩
theorem dX7_findCovers_13 : ml_d cX7_findCovers 13 (.istore 4) 2 15 := ⟨by decide +kernel, rfl⟩
theorem dX7_findCovers_15 : ml_d cX7_findCovers 15 (.iconst 0) 1 16 := ⟨by decide +kernel, rfl⟩
theorem dX7_findCovers_16 : ml_d cX7_findCovers 16 (.istore 5) 2 18 := ⟨by decide +kernel, rfl⟩
theorem dX7_findCovers_18 : ml_d cX7_findCovers 18 (.iload 5) 2 20 := ⟨by decide +kernel, rfl⟩
theorem dX7_findCovers_20 : ml_d cX7_findCovers 20 (.iload_n 2) 1 21 := ⟨by decide +kernel, rfl⟩
theorem dX7_findCovers_21 : ml_j cX7_findCovers 21 (.if_icmp .ge) 54 24 := ⟨33, by decide +kernel, by decide, rfl⟩
theorem dX7_findCovers_24 : ml_d cX7_findCovers 24 (.iload 4) 2 26 := ⟨by decide +kernel, rfl⟩
theorem dX7_findCovers_26 : ml_j cX7_findCovers 26 (.ifCond .eq) 54 29 := ⟨28, by decide +kernel, by decide, rfl⟩
theorem dX7_findCovers_29 : ml_d cX7_findCovers 29 (.aload_n 1) 1 30 := ⟨by decide +kernel, rfl⟩
theorem dX7_findCovers_30 : ml_d cX7_findCovers 30 (.iload 5) 2 32 := ⟨by decide +kernel, rfl⟩
theorem dX7_findCovers_32 : ml_d cX7_findCovers 32 (.aaload) 1 33 := ⟨by decide +kernel, rfl⟩
theorem dX7_findCovers_33 : ml_d cX7_findCovers 33 (.getfield 125) 3 36 := ⟨by decide +kernel, rfl⟩
theorem dX7_findCovers_36 : ml_d cX7_findCovers 36 (.iload_n 3) 1 37 := ⟨by decide +kernel, rfl⟩
theorem dX7_findCovers_37 : ml_d cX7_findCovers 37 (.iand) 1 38 := ⟨by decide +kernel, rfl⟩
theorem dX7_findCovers_38 : ml_j cX7_findCovers 38 (.ifCond .eq) 45 41 := ⟨7, by decide +kernel, by decide, rfl⟩
theorem dX7_findCovers_41 : ml_d cX7_findCovers 41 (.iconst 1) 1 42 := ⟨by decide +kernel, rfl⟩
theorem dX7_findCovers_42 : ml_j cX7_findCovers 42 .goto 46 45 := ⟨4, by decide +kernel, by decide, rfl⟩
theorem dX7_findCovers_45 : ml_d cX7_findCovers 45 (.iconst 0) 1 46 := ⟨by decide +kernel, rfl⟩
theorem dX7_findCovers_46 : ml_d cX7_findCovers 46 (.istore 4) 2 48 := ⟨by decide +kernel, rfl⟩
theorem dX7_findCovers_48 : ml_d cX7_findCovers 48 (.iinc 5 1) 3 51 := ⟨by decide +kernel, rfl⟩
theorem dX7_findCovers_51 : ml_j cX7_findCovers 51 .goto 18 54 := ⟨(-33), by decide +kernel, by decide, rfl⟩
theorem dX7_findCovers_54 : ml_d cX7_findCovers 54 (.aload_n 0) 1 55 := ⟨by decide +kernel, rfl⟩
theorem dX7_findCovers_55 : ml_d cX7_findCovers 55 (.getfield 28) 3 58 := ⟨by decide +kernel, rfl⟩
theorem dX7_findCovers_58 : ml_d cX7_findCovers 58 (.iload_n 3) 1 59 := ⟨by decide +kernel, rfl⟩
theorem dX7_findCovers_59 : ml_d cX7_findCovers 59 (.iload 4) 2 61 := ⟨by decide +kernel, rfl⟩
theorem dX7_findCovers_61 : ml_d cX7_findCovers 61 (.bastore) 1 62 := ⟨by decide +kernel, rfl⟩
theorem dX7_findCovers_62 : ml_d cX7_findCovers 62 (.iinc 3 1) 3 65 := ⟨by decide +kernel, rfl⟩
theorem dX7_findCovers_65 : ml_j cX7_findCovers 65 .goto 2 68 := ⟨(-63), by decide +kernel, by decide, rfl⟩
theorem dX7_findCovers_68 : ml_d cX7_findCovers 68 (.return_) 1 69 := ⟨by decide +kernel, rfl⟩
def fX7_findCovers_46 (k2 : Nat → Nat → Int32 → Int32 → ml_M → Option ml_M) (k18 : Nat → Nat → Int32 → Int32 → Int32 → Int32 → ml_M → Option ml_M) (l0 : Nat) (l1 : Nat) (l2 : Int32) (l3 : Int32) (l5 : Int32) (t0 : Int32) (m : ml_M) : Option ml_M :=
    k18 l0 l1 l2 l3 t0 (l5 + (1 : Int32)) m
theorem vX7_findCovers_46 {E : ml_E} (hL : ml_eL E = 6) {rm : ml_M} (hr : ∀ (pc pc' : Nat) (lv : List (Nat × ml_X)), ml_d cX7_findCovers pc .return_ 1 pc' → True → ml_V E "LostRoom$Sharings" cX7_findCovers 2 false rm pc lv []) {k2 : Nat → Nat → Int32 → Int32 → ml_M → Option ml_M} (hk2 : ∀ (l0 : Nat) (l1 : Nat) (l2 : Int32) (l3 : Int32) (m : ml_M), k2 l0 l1 l2 l3 m = some rm → ml_V E "LostRoom$Sharings" cX7_findCovers 2 false m 2 [(0, ml_r l0), (1, ml_r l1), (2, ml_i l2), (3, ml_i l3)] []) {k18 : Nat → Nat → Int32 → Int32 → Int32 → Int32 → ml_M → Option ml_M} (hk18 : ∀ (l0 : Nat) (l1 : Nat) (l2 : Int32) (l3 : Int32) (l4 : Int32) (l5 : Int32) (m : ml_M), k18 l0 l1 l2 l3 l4 l5 m = some rm → ml_V E "LostRoom$Sharings" cX7_findCovers 2 false m 18 [(0, ml_r l0), (1, ml_r l1), (2, ml_i l2), (3, ml_i l3), (4, ml_i l4), (5, ml_i l5)] []) : ∀ (l0 : Nat) (l1 : Nat) (l2 : Int32) (l3 : Int32) (l5 : Int32) (t0 : Int32) (m : ml_M), fX7_findCovers_46 k2 k18 l0 l1 l2 l3 l5 t0 m = some rm → ml_V E "LostRoom$Sharings" cX7_findCovers 2 false m 46 [(0, ml_r l0), (1, ml_r l1), (2, ml_i l2), (3, ml_i l3), (5, ml_i l5)] [ml_i t0] := by
  intro l0 l1 l2 l3 l5 t0 m h
  unfold fX7_findCovers_46 at h
  exact ml_istore (lv' := [(4, ml_i t0), (0, ml_r l0), (1, ml_r l1), (2, ml_i l2), (3, ml_i l3), (5, ml_i l5)]) dX7_findCovers_46 (ml_hn hL rfl) rfl <| ml_iinc (lv' := [(5, ml_i (l5 + (1 : Int32))), (4, ml_i t0), (0, ml_r l0), (1, ml_r l1), (2, ml_i l2), (3, ml_i l3)]) dX7_findCovers_48 5 rfl (congrArg (l5 + ·) kc_i1) (ml_hn hL rfl) rfl <| ml_goto dX7_findCovers_51 <| ml_V.sub [2, 3, 4, 5, 1, 0] rfl (hk18 _ _ _ _ _ _ _ h)
def fX7_findCovers_54 (k2 : Nat → Nat → Int32 → Int32 → ml_M → Option ml_M) (l0 : Nat) (l1 : Nat) (l2 : Int32) (l3 : Int32) (l4 : Int32) (m : ml_M) : Option ml_M :=
    if (ml_K m l0).1 = 7 then
    ml_let (ml_R m l0 9) fun a1034 =>
    if ml_in m a1034 22 l3 then
    ml_let (ml_sI m a1034 l3.toNatClampNeg (l4 &&& 1)) fun m1036 =>
    k2 l0 l1 l2 (l3 + (1 : Int32)) m1036
    else none
    else none
theorem vX7_findCovers_54 {E : ml_E} (hL : ml_eL E = 6) {rm : ml_M} (hr : ∀ (pc pc' : Nat) (lv : List (Nat × ml_X)), ml_d cX7_findCovers pc .return_ 1 pc' → True → ml_V E "LostRoom$Sharings" cX7_findCovers 2 false rm pc lv []) {k2 : Nat → Nat → Int32 → Int32 → ml_M → Option ml_M} (hk2 : ∀ (l0 : Nat) (l1 : Nat) (l2 : Int32) (l3 : Int32) (m : ml_M), k2 l0 l1 l2 l3 m = some rm → ml_V E "LostRoom$Sharings" cX7_findCovers 2 false m 2 [(0, ml_r l0), (1, ml_r l1), (2, ml_i l2), (3, ml_i l3)] []) : ∀ (l0 : Nat) (l1 : Nat) (l2 : Int32) (l3 : Int32) (l4 : Int32) (m : ml_M), fX7_findCovers_54 k2 l0 l1 l2 l3 l4 m = some rm → ml_V E "LostRoom$Sharings" cX7_findCovers 2 false m 54 [(0, ml_r l0), (1, ml_r l1), (2, ml_i l2), (3, ml_i l3), (4, ml_i l4)] [] := by
  intro l0 l1 l2 l3 l4 m h
  unfold fX7_findCovers_54 at h
  exact ml_aload_n dX7_findCovers_54 0 rfl <| ml_ck_of h fun hc1033 h => ml_getR dX7_findCovers_55 wb_194 hc1033 <| ml_lx (mk := ml_r) h fun a1034 h => ml_iload_n dX7_findCovers_58 3 rfl <| ml_iload dX7_findCovers_59 4 rfl <| ml_ck_of h fun hi1035 h => ml_zast dX7_findCovers_61 hi1035 <| ml_lt (m := m) rfl h fun m1036 em1037 h => ml_iinc (lv' := [(3, ml_i (l3 + (1 : Int32))), (0, ml_r l0), (1, ml_r l1), (2, ml_i l2), (4, ml_i l4)]) dX7_findCovers_62 3 rfl (congrArg (l3 + ·) kc_i1) (ml_hn hL rfl) rfl <| ml_goto dX7_findCovers_65 <| ml_V.sub [1, 2, 3, 0] rfl (hk2 _ _ _ _ _ h)
def fX7_findCovers_18 (k2 : Nat → Nat → Int32 → Int32 → ml_M → Option ml_M) : Nat → Nat → Nat → Int32 → Int32 → Int32 → Int32 → ml_M → Option ml_M
  | 0, _, _, _, _, _, _, _ => none
  | fu + 1, l0, l1, l2, l3, l4, l5, m =>
    if l2 ≤ l5 then
    fX7_findCovers_54 k2 l0 l1 l2 l3 l4 m
    else
    if l4 = 0 then
    fX7_findCovers_54 k2 l0 l1 l2 l3 l4 m
    else
    if ml_in m l1 29 l5 then
    ml_let (ml_R m l1 l5.toNatClampNeg) fun a1039 =>
    if (ml_K m a1039).1 = 8 then
    if ((ml_I m a1039 5) &&& l3) = 0 then
    fX7_findCovers_46 k2 (fX7_findCovers_18 k2 fu) l0 l1 l2 l3 l5 (0 : Int32) m
    else
    fX7_findCovers_46 k2 (fX7_findCovers_18 k2 fu) l0 l1 l2 l3 l5 (1 : Int32) m
    else none
    else none
theorem vX7_findCovers_18 {E : ml_E} (hL : ml_eL E = 6) {rm : ml_M} (hr : ∀ (pc pc' : Nat) (lv : List (Nat × ml_X)), ml_d cX7_findCovers pc .return_ 1 pc' → True → ml_V E "LostRoom$Sharings" cX7_findCovers 2 false rm pc lv []) {k2 : Nat → Nat → Int32 → Int32 → ml_M → Option ml_M} (hk2 : ∀ (l0 : Nat) (l1 : Nat) (l2 : Int32) (l3 : Int32) (m : ml_M), k2 l0 l1 l2 l3 m = some rm → ml_V E "LostRoom$Sharings" cX7_findCovers 2 false m 2 [(0, ml_r l0), (1, ml_r l1), (2, ml_i l2), (3, ml_i l3)] []) : ∀ (fu : Nat) (l0 : Nat) (l1 : Nat) (l2 : Int32) (l3 : Int32) (l4 : Int32) (l5 : Int32) (m : ml_M), fX7_findCovers_18 k2 fu l0 l1 l2 l3 l4 l5 m = some rm → ml_V E "LostRoom$Sharings" cX7_findCovers 2 false m 18 [(0, ml_r l0), (1, ml_r l1), (2, ml_i l2), (3, ml_i l3), (4, ml_i l4), (5, ml_i l5)] [] := by
  intro fu
  induction fu with
  | zero => intro l0 l1 l2 l3 l4 l5 m h; exact ml_none h
  | succ fu ih =>
    intro l0 l1 l2 l3 l4 l5 m h
    have hk18 := ih
    unfold fX7_findCovers_18 at h
    exact ml_iload dX7_findCovers_18 5 rfl <| ml_iload_n dX7_findCovers_20 2 rfl <| ml_icmp_ge dX7_findCovers_21 h (fun _ h => ml_V.sub [0, 1, 2, 3, 4] rfl (vX7_findCovers_54 hL hr hk2 _ _ _ _ _ _ h)) (fun _ h => ml_iload dX7_findCovers_24 4 rfl <| ml_if_eq dX7_findCovers_26 h (fun _ h => ml_V.sub [0, 1, 2, 3, 4] rfl (vX7_findCovers_54 hL hr hk2 _ _ _ _ _ _ h)) (fun _ h => ml_aload_n dX7_findCovers_29 1 rfl <| ml_iload dX7_findCovers_30 5 rfl <| ml_ck_of h fun hi1038 h => ml_aald (kd := 29) dX7_findCovers_32 (by decide) hi1038 <| ml_lx (mk := ml_r) h fun a1039 h => ml_ck_of h fun hc1040 h => ml_getI dX7_findCovers_33 wb_189 hc1040 <| ml_iload_n dX7_findCovers_36 3 rfl <| ml_iand dX7_findCovers_37 <| ml_if_eq dX7_findCovers_38 h (fun _ h => ml_iconst dX7_findCovers_45 kc_i0 <| ml_V.sub [0, 1, 2, 3, 5] rfl (vX7_findCovers_46 hL hr hk2 hk18 _ _ _ _ _ _ _ h)) (fun _ h => ml_iconst dX7_findCovers_41 kc_i1 <| ml_goto dX7_findCovers_42 <| ml_V.sub [0, 1, 2, 3, 5] rfl (vX7_findCovers_46 hL hr hk2 hk18 _ _ _ _ _ _ _ h))))
def fX7_findCovers_2 : Nat → Nat → Nat → Int32 → Int32 → ml_M → Option ml_M
  | 0, _, _, _, _, _ => none
  | fu + 1, l0, l1, l2, l3, m =>
    if (ml_K m l0).1 = 7 then
    if ((1 : Int32) <<< ((ml_I m l0 7) &&& 31)) ≤ l3 then
    some m
    else
    fX7_findCovers_18 (fX7_findCovers_2 fu) ml_fu l0 l1 l2 l3 (1 : Int32) (0 : Int32) m
    else none
theorem vX7_findCovers_2 {E : ml_E} (hL : ml_eL E = 6) {rm : ml_M} (hr : ∀ (pc pc' : Nat) (lv : List (Nat × ml_X)), ml_d cX7_findCovers pc .return_ 1 pc' → True → ml_V E "LostRoom$Sharings" cX7_findCovers 2 false rm pc lv []) : ∀ (fu : Nat) (l0 : Nat) (l1 : Nat) (l2 : Int32) (l3 : Int32) (m : ml_M), fX7_findCovers_2 fu l0 l1 l2 l3 m = some rm → ml_V E "LostRoom$Sharings" cX7_findCovers 2 false m 2 [(0, ml_r l0), (1, ml_r l1), (2, ml_i l2), (3, ml_i l3)] [] := by
  intro fu
  induction fu with
  | zero => intro l0 l1 l2 l3 m h; exact ml_none h
  | succ fu ih =>
    intro l0 l1 l2 l3 m h
    have hk2 := ih
    unfold fX7_findCovers_2 at h
    exact ml_iload_n dX7_findCovers_2 3 rfl <| ml_iconst dX7_findCovers_3 kc_i1 <| ml_aload_n dX7_findCovers_4 0 rfl <| ml_ck_of h fun hc1041 h => ml_getI dX7_findCovers_5 wb_187 hc1041 <| ml_ishl dX7_findCovers_8 <| ml_icmp_ge dX7_findCovers_9 h (fun _ h => ml_rv hr dX7_findCovers_68 trivial h) (fun _ h => ml_iconst dX7_findCovers_12 kc_i1 <| ml_istore (lv' := [(4, ml_i (1 : Int32)), (0, ml_r l0), (1, ml_r l1), (2, ml_i l2), (3, ml_i l3)]) dX7_findCovers_13 (ml_hn hL rfl) rfl <| ml_iconst dX7_findCovers_15 kc_i0 <| ml_istore (lv' := [(5, ml_i (0 : Int32)), (4, ml_i (1 : Int32)), (0, ml_r l0), (1, ml_r l1), (2, ml_i l2), (3, ml_i l3)]) dX7_findCovers_16 (ml_hn hL rfl) rfl <| ml_V.sub [2, 3, 4, 5, 1, 0] rfl (vX7_findCovers_18 hL hr hk2 ml_fu _ _ _ _ _ _ _ h))
def fX7_findCovers (l0 : Nat) (l1 : Nat) (l2 : Int32) (m : ml_M) : Option ml_M :=
    fX7_findCovers_2 ml_fu l0 l1 l2 (0 : Int32) m
theorem wX7_findCovers_0 {E : ml_E} (hL : ml_eL E = 6) {rm : ml_M} (hr : ∀ (pc pc' : Nat) (lv : List (Nat × ml_X)), ml_d cX7_findCovers pc .return_ 1 pc' → True → ml_V E "LostRoom$Sharings" cX7_findCovers 2 false rm pc lv []) : ∀ (l0 : Nat) (l1 : Nat) (l2 : Int32) (m : ml_M), fX7_findCovers l0 l1 l2 m = some rm → ml_V E "LostRoom$Sharings" cX7_findCovers 2 false m 0 [(0, ml_r l0), (1, ml_r l1), (2, ml_i l2)] [] := by
  intro l0 l1 l2 m h
  unfold fX7_findCovers at h
  exact ml_iconst dX7_findCovers_0 kc_i0 <| ml_istore_n (lv' := [(3, ml_i (0 : Int32)), (0, ml_r l0), (1, ml_r l1), (2, ml_i l2)]) dX7_findCovers_1 (ml_hn hL rfl) rfl <| ml_V.sub [1, 2, 3, 0] rfl (vX7_findCovers_2 hL hr  ml_fu _ _ _ _ _ h)
theorem sX7_findCovers {l0 : Nat} {l1 : Nat} {l2 : Int32} {m : ml_M} {rm : ml_M} (h : fX7_findCovers l0 l1 l2 m = some rm) : ml_Sn yX7_findCovers cX7_findCovers 6 none 2 [ml_r l0, ml_r l1, ml_i l2] m none rm :=
  ml_Sn_of (P := True) (ini := false) (by decide +kernel) (Nat.le_of_ble_eq_true rfl) (fun h => by cases h) (fun _ => ml_RkV) fun E hL hr => wX7_findCovers_0 hL hr _ _ _ _ h
theorem dX7_note_0 : ml_d cX7_note 0 (.aload_n 0) 1 1 := ⟨by decide +kernel, rfl⟩
theorem dX7_note_1 : ml_d cX7_note 1 (.getfield 19) 3 4 := ⟨by decide +kernel, rfl⟩
theorem dX7_note_4 : ml_d cX7_note 4 (.iload_n 1) 1 5 := ⟨by decide +kernel, rfl⟩
theorem dX7_note_5 : ml_d cX7_note 5 (.dup2) 1 6 := ⟨by decide +kernel, rfl⟩
theorem dX7_note_6 : ml_d cX7_note 6 (.iaload) 1 7 := ⟨by decide +kernel, rfl⟩
theorem dX7_note_7 : ml_d cX7_note 7 (.iconst 1) 1 8 := ⟨by decide +kernel, rfl⟩
theorem dX7_note_8 : ml_d cX7_note 8 (.iadd) 1 9 := ⟨by decide +kernel, rfl⟩
theorem dX7_note_9 : ml_d cX7_note 9 (.iastore) 1 10 := ⟨by decide +kernel, rfl⟩
theorem dX7_note_10 : ml_d cX7_note 10 (.iconst 0) 1 11 := ⟨by decide +kernel, rfl⟩
theorem dX7_note_11 : ml_d cX7_note 11 (.istore_n 2) 1 12 := ⟨by decide +kernel, rfl⟩
theorem dX7_note_12 : ml_d cX7_note 12 (.iload_n 2) 1 13 := ⟨by decide +kernel, rfl⟩
theorem dX7_note_13 : ml_d cX7_note 13 (.aload_n 0) 1 14 := ⟨by decide +kernel, rfl⟩
theorem dX7_note_14 : ml_d cX7_note 14 (.getfield 52) 3 17 := ⟨by decide +kernel, rfl⟩
theorem dX7_note_17 : ml_j cX7_note 17 (.if_icmp .ge) 51 20 := ⟨34, by decide +kernel, by decide, rfl⟩
theorem dX7_note_20 : ml_d cX7_note 20 (.aload_n 0) 1 21 := ⟨by decide +kernel, rfl⟩
theorem dX7_note_21 : ml_d cX7_note 21 (.getfield 22) 3 24 := ⟨by decide +kernel, rfl⟩
theorem dX7_note_24 : ml_d cX7_note 24 (.iload_n 1) 1 25 := ⟨by decide +kernel, rfl⟩
theorem dX7_note_25 : ml_d cX7_note 25 (.bipush 64) 2 27 := ⟨by decide +kernel, rfl⟩
theorem dX7_note_27 : ml_d cX7_note 27 (.imul) 1 28 := ⟨by decide +kernel, rfl⟩
theorem dX7_note_28 : ml_d cX7_note 28 (.iload_n 2) 1 29 := ⟨by decide +kernel, rfl⟩
theorem dX7_note_29 : ml_d cX7_note 29 (.bipush 8) 2 31 := ⟨by decide +kernel, rfl⟩
theorem dX7_note_31 : ml_d cX7_note 31 (.imul) 1 32 := ⟨by decide +kernel, rfl⟩
theorem dX7_note_32 : ml_d cX7_note 32 (.iadd) 1 33 := ⟨by decide +kernel, rfl⟩
theorem dX7_note_33 : ml_d cX7_note 33 (.aload_n 0) 1 34 := ⟨by decide +kernel, rfl⟩
theorem dX7_note_34 : ml_d cX7_note 34 (.getfield 38) 3 37 := ⟨by decide +kernel, rfl⟩
theorem dX7_note_37 : ml_d cX7_note 37 (.iload_n 2) 1 38 := ⟨by decide +kernel, rfl⟩
theorem dX7_note_38 : ml_d cX7_note 38 (.iaload) 1 39 := ⟨by decide +kernel, rfl⟩
theorem dX7_note_39 : ml_d cX7_note 39 (.iadd) 1 40 := ⟨by decide +kernel, rfl⟩
theorem dX7_note_40 : ml_d cX7_note 40 (.dup2) 1 41 := ⟨by decide +kernel, rfl⟩
theorem dX7_note_41 : ml_d cX7_note 41 (.iaload) 1 42 := ⟨by decide +kernel, rfl⟩
theorem dX7_note_42 : ml_d cX7_note 42 (.iconst 1) 1 43 := ⟨by decide +kernel, rfl⟩
theorem dX7_note_43 : ml_d cX7_note 43 (.iadd) 1 44 := ⟨by decide +kernel, rfl⟩
theorem dX7_note_44 : ml_d cX7_note 44 (.iastore) 1 45 := ⟨by decide +kernel, rfl⟩
theorem dX7_note_45 : ml_d cX7_note 45 (.iinc 2 1) 3 48 := ⟨by decide +kernel, rfl⟩
theorem dX7_note_48 : ml_j cX7_note 48 .goto 12 51 := ⟨(-36), by decide +kernel, by decide, rfl⟩
theorem dX7_note_51 : ml_d cX7_note 51 (.aload_n 0) 1 52 := ⟨by decide +kernel, rfl⟩
theorem dX7_note_52 : ml_d cX7_note 52 (.getfield 72) 3 55 := ⟨by decide +kernel, rfl⟩
theorem dX7_note_55 : ml_d cX7_note 55 (.bipush (-9)) 2 57 := ⟨by decide +kernel, rfl⟩
theorem dX7_note_57 : ml_j cX7_note 57 (.if_icmp .eq) 69 60 := ⟨12, by decide +kernel, by decide, rfl⟩
theorem dX7_note_60 : ml_d cX7_note 60 (.iload_n 1) 1 61 := ⟨by decide +kernel, rfl⟩
theorem dX7_note_61 : ml_d cX7_note 61 (.aload_n 0) 1 62 := ⟨by decide +kernel, rfl⟩
theorem dX7_note_62 : ml_d cX7_note 62 (.getfield 72) 3 65 := ⟨by decide +kernel, rfl⟩
theorem dX7_note_65 : ml_j cX7_note 65 (.if_icmp .lt) 69 68 := ⟨4, by decide +kernel, by decide, rfl⟩
theorem dX7_note_68 : ml_d cX7_note 68 (.return_) 1 69 := ⟨by decide +kernel, rfl⟩
theorem dX7_note_69 : ml_d cX7_note 69 (.aload_n 0) 1 70 := ⟨by decide +kernel, rfl⟩
theorem dX7_note_70 : ml_d cX7_note 70 (.iload_n 1) 1 71 := ⟨by decide +kernel, rfl⟩
theorem dX7_note_71 : ml_d cX7_note 71 (.putfield 72) 3 74 := ⟨by decide +kernel, rfl⟩
theorem dX7_note_74 : ml_d cX7_note 74 (.aload_n 0) 1 75 := ⟨by decide +kernel, rfl⟩
theorem dX7_note_75 : ml_d cX7_note 75 (.getfield 38) 3 78 := ⟨by decide +kernel, rfl⟩
theorem dX7_note_78 : ml_d cX7_note 78 (.iconst 0) 1 79 := ⟨by decide +kernel, rfl⟩
theorem dX7_note_79 : ml_d cX7_note 79 (.aload_n 0) 1 80 := ⟨by decide +kernel, rfl⟩
theorem dX7_note_80 : ml_d cX7_note 80 (.getfield 15) 3 83 := ⟨by decide +kernel, rfl⟩
theorem dX7_note_83 : ml_d cX7_note 83 (.iconst 0) 1 84 := ⟨by decide +kernel, rfl⟩
theorem dX7_note_84 : ml_d cX7_note 84 (.bipush 8) 2 86 := ⟨by decide +kernel, rfl⟩
theorem dX7_note_86 : ml_d cX7_note 86 (.invokestatic 109) 3 89 := ⟨by decide +kernel, rfl⟩
theorem dX7_note_89 : ml_d cX7_note 89 (.return_) 1 90 := ⟨by decide +kernel, rfl⟩
def fX7_note_69 (l0 : Nat) (l1 : Int32) (m : ml_M) : Option ml_M :=
    if (ml_K m l0).1 = 7 then
    ml_let (ml_sI m l0 1 l1) fun m1043 =>
    ml_let (ml_R m1043 l0 12) fun a1045 =>
    ml_let (ml_R m1043 l0 2) fun a1046 =>
    if ml_cpo m1043 a1045 a1046 (0 : Int32) (0 : Int32) (8 : Int32) then
    ml_let (ml_cp m1043 a1045 (0 : Int32).toNatClampNeg a1046 (0 : Int32).toNatClampNeg (8 : Int32).toNatClampNeg) fun m1048 =>
    some m1048
    else none
    else none
theorem vX7_note_69 {E : ml_E} (hL : ml_eL E = 3) {rm : ml_M} (hr : ∀ (pc pc' : Nat) (lv : List (Nat × ml_X)), ml_d cX7_note pc .return_ 1 pc' → True → ml_V E "LostRoom$Sharings" cX7_note 2 false rm pc lv []) : ∀ (l0 : Nat) (l1 : Int32) (m : ml_M), fX7_note_69 l0 l1 m = some rm → ml_V E "LostRoom$Sharings" cX7_note 2 false m 69 [(0, ml_r l0), (1, ml_i l1)] [] := by
  intro l0 l1 m h
  unfold fX7_note_69 at h
  exact ml_aload_n dX7_note_69 0 rfl <| ml_iload_n dX7_note_70 1 rfl <| ml_ck_of h fun hc1042 h => ml_putI dX7_note_71 wb_195 hc1042 <| ml_lt (m := m) rfl h fun m1043 em1044 h => ml_aload_n dX7_note_74 0 rfl <| ml_getR dX7_note_75 wb_196 (ml_kk em1044 hc1042) <| ml_lx (mk := ml_r) h fun a1045 h => ml_iconst dX7_note_78 kc_i0 <| ml_aload_n dX7_note_79 0 rfl <| ml_getR dX7_note_80 wb_197 (ml_kk em1044 hc1042) <| ml_lx (mk := ml_r) h fun a1046 h => ml_iconst dX7_note_83 kc_i0 <| ml_bipush dX7_note_84 kc_b8 <| ml_ck_of h fun ho1047 h => ml_copys dX7_note_86 wb_198 (Nat.le_of_ble_eq_true rfl) (Nat.le_of_ble_eq_true rfl) ho1047 h fun m1048 em1049 h => ml_rv hr dX7_note_89 trivial h
def fX7_note_51 (l0 : Nat) (l1 : Int32) (m : ml_M) : Option ml_M :=
    if (ml_K m l0).1 = 7 then
    if (ml_I m l0 1) = (-9 : Int32) then
    fX7_note_69 l0 l1 m
    else
    if l1 < (ml_I m l0 1) then
    fX7_note_69 l0 l1 m
    else
    some m
    else none
theorem vX7_note_51 {E : ml_E} (hL : ml_eL E = 3) {rm : ml_M} (hr : ∀ (pc pc' : Nat) (lv : List (Nat × ml_X)), ml_d cX7_note pc .return_ 1 pc' → True → ml_V E "LostRoom$Sharings" cX7_note 2 false rm pc lv []) : ∀ (l0 : Nat) (l1 : Int32) (m : ml_M), fX7_note_51 l0 l1 m = some rm → ml_V E "LostRoom$Sharings" cX7_note 2 false m 51 [(0, ml_r l0), (1, ml_i l1)] [] := by
  intro l0 l1 m h
  unfold fX7_note_51 at h
  exact ml_aload_n dX7_note_51 0 rfl <| ml_ck_of h fun hc1050 h => ml_getI dX7_note_52 wb_199 hc1050 <| ml_bipush dX7_note_55 kc_bm9 <| ml_icmp_eq dX7_note_57 h (fun _ h => ml_V.sub [0, 1] rfl (vX7_note_69 hL hr  _ _ _ h)) (fun _ h => ml_iload_n dX7_note_60 1 rfl <| ml_aload_n dX7_note_61 0 rfl <| ml_getI dX7_note_62 wb_199 hc1050 <| ml_icmp_lt dX7_note_65 h (fun _ h => ml_V.sub [0, 1] rfl (vX7_note_69 hL hr  _ _ _ h)) (fun _ h => ml_rv hr dX7_note_68 trivial h))
def fX7_note_12 : Nat → Nat → Int32 → Int32 → ml_M → Option ml_M
  | 0, _, _, _, _ => none
  | fu + 1, l0, l1, l2, m =>
    if (ml_K m l0).1 = 7 then
    if (ml_I m l0 6) ≤ l2 then
    fX7_note_51 l0 l1 m
    else
    ml_let (ml_R m l0 4) fun a1052 =>
    ml_let (ml_R m l0 12) fun a1053 =>
    if ml_in m a1053 20 l2 then
    if ml_in m a1052 20 (((l1 * (64 : Int32)) + (l2 * (8 : Int32))) + (ml_I m a1053 l2.toNatClampNeg)) then
    if ml_in m a1052 20 (((l1 * (64 : Int32)) + (l2 * (8 : Int32))) + (ml_I m a1053 l2.toNatClampNeg)) then
    ml_let (ml_sI m a1052 (((l1 * (64 : Int32)) + (l2 * (8 : Int32))) + (ml_I m a1053 l2.toNatClampNeg)).toNatClampNeg ((ml_I m a1052 (((l1 * (64 : Int32)) + (l2 * (8 : Int32))) + (ml_I m a1053 l2.toNatClampNeg)).toNatClampNeg) + (1 : Int32))) fun m1057 =>
    (fX7_note_12 fu) l0 l1 (l2 + (1 : Int32)) m1057
    else none
    else none
    else none
    else none
theorem vX7_note_12 {E : ml_E} (hL : ml_eL E = 3) {rm : ml_M} (hr : ∀ (pc pc' : Nat) (lv : List (Nat × ml_X)), ml_d cX7_note pc .return_ 1 pc' → True → ml_V E "LostRoom$Sharings" cX7_note 2 false rm pc lv []) : ∀ (fu : Nat) (l0 : Nat) (l1 : Int32) (l2 : Int32) (m : ml_M), fX7_note_12 fu l0 l1 l2 m = some rm → ml_V E "LostRoom$Sharings" cX7_note 2 false m 12 [(0, ml_r l0), (1, ml_i l1), (2, ml_i l2)] [] := by
  intro fu
  induction fu with
  | zero => intro l0 l1 l2 m h; exact ml_none h
  | succ fu ih =>
    intro l0 l1 l2 m h
    have hk12 := ih
    unfold fX7_note_12 at h
    exact ml_iload_n dX7_note_12 2 rfl <| ml_aload_n dX7_note_13 0 rfl <| ml_ck_of h fun hc1051 h => ml_getI dX7_note_14 wb_200 hc1051 <| ml_icmp_ge dX7_note_17 h (fun _ h => ml_V.sub [0, 1] rfl (vX7_note_51 hL hr  _ _ _ h)) (fun _ h => ml_aload_n dX7_note_20 0 rfl <| ml_getR dX7_note_21 wb_201 hc1051 <| ml_lx (mk := ml_r) h fun a1052 h => ml_iload_n dX7_note_24 1 rfl <| ml_bipush dX7_note_25 kc_b64 <| ml_imul dX7_note_27 <| ml_iload_n dX7_note_28 2 rfl <| ml_bipush dX7_note_29 kc_b8 <| ml_imul dX7_note_31 <| ml_iadd dX7_note_32 <| ml_aload_n dX7_note_33 0 rfl <| ml_getR dX7_note_34 wb_196 hc1051 <| ml_lx (mk := ml_r) h fun a1053 h => ml_iload_n dX7_note_37 2 rfl <| ml_ck_of h fun hi1054 h => ml_iald dX7_note_38 hi1054 <| ml_iadd dX7_note_39 <| ml_dup2 dX7_note_40 rfl rfl <| ml_ck_of h fun hi1055 h => ml_iald dX7_note_41 hi1055 <| ml_iconst dX7_note_42 kc_i1 <| ml_iadd dX7_note_43 <| ml_ck_of h fun hi1056 h => ml_iast dX7_note_44 hi1056 <| ml_lt (m := m) rfl h fun m1057 em1058 h => ml_iinc (lv' := [(2, ml_i (l2 + (1 : Int32))), (0, ml_r l0), (1, ml_i l1)]) dX7_note_45 2 rfl (congrArg (l2 + ·) kc_i1) (ml_hn hL rfl) rfl <| ml_goto dX7_note_48 <| ml_V.sub [1, 2, 0] rfl (hk12 _ _ _ _ h))
def fX7_note (l0 : Nat) (l1 : Int32) (m : ml_M) : Option ml_M :=
    if (ml_K m l0).1 = 7 then
    ml_let (ml_R m l0 3) fun a1060 =>
    if ml_in m a1060 20 l1 then
    if ml_in m a1060 20 l1 then
    ml_let (ml_sI m a1060 l1.toNatClampNeg ((ml_I m a1060 l1.toNatClampNeg) + (1 : Int32))) fun m1063 =>
    fX7_note_12 ml_fu l0 l1 (0 : Int32) m1063
    else none
    else none
    else none
theorem wX7_note_0 {E : ml_E} (hL : ml_eL E = 3) {rm : ml_M} (hr : ∀ (pc pc' : Nat) (lv : List (Nat × ml_X)), ml_d cX7_note pc .return_ 1 pc' → True → ml_V E "LostRoom$Sharings" cX7_note 2 false rm pc lv []) : ∀ (l0 : Nat) (l1 : Int32) (m : ml_M), fX7_note l0 l1 m = some rm → ml_V E "LostRoom$Sharings" cX7_note 2 false m 0 [(0, ml_r l0), (1, ml_i l1)] [] := by
  intro l0 l1 m h
  unfold fX7_note at h
  exact ml_aload_n dX7_note_0 0 rfl <| ml_ck_of h fun hc1059 h => ml_getR dX7_note_1 wb_202 hc1059 <| ml_lx (mk := ml_r) h fun a1060 h => ml_iload_n dX7_note_4 1 rfl <| ml_dup2 dX7_note_5 rfl rfl <| ml_ck_of h fun hi1061 h => ml_iald dX7_note_6 hi1061 <| ml_iconst dX7_note_7 kc_i1 <| ml_iadd dX7_note_8 <| ml_ck_of h fun hi1062 h => ml_iast dX7_note_9 hi1062 <| ml_lt (m := m) rfl h fun m1063 em1064 h => ml_iconst dX7_note_10 kc_i0 <| ml_istore_n (lv' := [(2, ml_i (0 : Int32)), (0, ml_r l0), (1, ml_i l1)]) dX7_note_11 (ml_hn hL rfl) rfl <| ml_V.sub [1, 2, 0] rfl (vX7_note_12 hL hr  ml_fu _ _ _ _ h)
theorem sX7_note {l0 : Nat} {l1 : Int32} {m : ml_M} {rm : ml_M} (h : fX7_note l0 l1 m = some rm) : ml_Sn yX7_note cX7_note 3 none 2 [ml_r l0, ml_i l1] m none rm :=
  ml_Sn_of (P := True) (ini := false) (by decide +kernel) (Nat.le_of_ble_eq_true rfl) (fun h => by cases h) (fun _ => ml_RkV) fun E hL hr => wX7_note_0 hL hr _ _ _ h
theorem dX7_open_0 : ml_d cX7_open 0 (.iconst 1) 1 1 := ⟨by decide +kernel, rfl⟩
theorem dX7_open_1 : ml_d cX7_open 1 (.aload_n 0) 1 2 := ⟨by decide +kernel, rfl⟩
theorem dX7_open_2 : ml_d cX7_open 2 (.getfield 56) 3 5 := ⟨by decide +kernel, rfl⟩
theorem dX7_open_5 : ml_d cX7_open 5 (.ishl) 1 6 := ⟨by decide +kernel, rfl⟩
theorem dX7_open_6 : ml_d cX7_open 6 (.iconst 1) 1 7 := ⟨by decide +kernel, rfl⟩
theorem dX7_open_7 : ml_d cX7_open 7 (.isub) 1 8 := ⟨by decide +kernel, rfl⟩
theorem dX7_open_8 : ml_d cX7_open 8 (.iload_n 2) 1 9 := ⟨by decide +kernel, rfl⟩
theorem dX7_open_9 : ml_d cX7_open 9 (.iconst (-1)) 1 10 := ⟨by decide +kernel, rfl⟩
theorem dX7_open_10 : ml_d cX7_open 10 (.ixor) 1 11 := ⟨by decide +kernel, rfl⟩
theorem dX7_open_11 : ml_d cX7_open 11 (.iand) 1 12 := ⟨by decide +kernel, rfl⟩
theorem dX7_open_12 : ml_d cX7_open 12 (.istore_n 3) 1 13 := ⟨by decide +kernel, rfl⟩
theorem dX7_open_13 : ml_d cX7_open 13 (.aload_n 0) 1 14 := ⟨by decide +kernel, rfl⟩
theorem dX7_open_14 : ml_d cX7_open 14 (.getfield 47) 3 17 := ⟨by decide +kernel, rfl⟩
theorem dX7_open_17 : ml_d cX7_open 17 (.iload_n 1) 1 18 := ⟨by decide +kernel, rfl⟩
theorem dX7_open_18 : ml_d cX7_open 18 (.aaload) 1 19 := ⟨by decide +kernel, rfl⟩
theorem dX7_open_19 : ml_d cX7_open 19 (.astore 4) 2 21 := ⟨by decide +kernel, rfl⟩
theorem dX7_open_21 : ml_d cX7_open 21 (.iconst 0) 1 22 := ⟨by decide +kernel, rfl⟩
theorem dX7_open_22 : ml_d cX7_open 22 (.istore 5) 2 24 := ⟨by decide +kernel, rfl⟩
theorem dX7_open_24 : ml_d cX7_open 24 (.iload 5) 2 26 := ⟨by decide +kernel, rfl⟩
theorem dX7_open_26 : ml_d cX7_open 26 (.iload_n 1) 1 27 := ⟨by decide +kernel, rfl⟩
theorem dX7_open_27 : ml_j cX7_open 27 (.if_icmp .ge) 92 30 := ⟨65, by decide +kernel, by decide, rfl⟩
theorem dX7_open_30 : ml_d cX7_open 30 (.aload 4) 2 32 := ⟨by decide +kernel, rfl⟩
theorem dX7_open_32 : ml_d cX7_open 32 (.getfield 101) 3 35 := ⟨by decide +kernel, rfl⟩
theorem dX7_open_35 : ml_d cX7_open 35 (.iload 5) 2 37 := ⟨by decide +kernel, rfl⟩
theorem dX7_open_37 : ml_d cX7_open 37 (.invokestatic 93) 3 40 := ⟨by decide +kernel, rfl⟩
theorem dX7_open_40 : ml_j cX7_open 40 (.ifCond .eq) 58 43 := ⟨18, by decide +kernel, by decide, rfl⟩
theorem dX7_open_43 : ml_d cX7_open 43 (.iload_n 3) 1 44 := ⟨by decide +kernel, rfl⟩
theorem dX7_open_44 : ml_d cX7_open 44 (.aload_n 0) 1 45 := ⟨by decide +kernel, rfl⟩
theorem dX7_open_45 : ml_d cX7_open 45 (.getfield 32) 3 48 := ⟨by decide +kernel, rfl⟩
theorem dX7_open_48 : ml_d cX7_open 48 (.aload_n 0) 1 49 := ⟨by decide +kernel, rfl⟩
theorem dX7_open_49 : ml_d cX7_open 49 (.getfield 38) 3 52 := ⟨by decide +kernel, rfl⟩
theorem dX7_open_52 : ml_d cX7_open 52 (.iload 5) 2 54 := ⟨by decide +kernel, rfl⟩
theorem dX7_open_54 : ml_d cX7_open 54 (.iaload) 1 55 := ⟨by decide +kernel, rfl⟩
theorem dX7_open_55 : ml_d cX7_open 55 (.iaload) 1 56 := ⟨by decide +kernel, rfl⟩
theorem dX7_open_56 : ml_d cX7_open 56 (.iand) 1 57 := ⟨by decide +kernel, rfl⟩
theorem dX7_open_57 : ml_d cX7_open 57 (.istore_n 3) 1 58 := ⟨by decide +kernel, rfl⟩
theorem dX7_open_58 : ml_d cX7_open 58 (.aload 4) 2 60 := ⟨by decide +kernel, rfl⟩
theorem dX7_open_60 : ml_d cX7_open 60 (.getfield 106) 3 63 := ⟨by decide +kernel, rfl⟩
theorem dX7_open_63 : ml_d cX7_open 63 (.iload 5) 2 65 := ⟨by decide +kernel, rfl⟩
theorem dX7_open_65 : ml_d cX7_open 65 (.invokestatic 93) 3 68 := ⟨by decide +kernel, rfl⟩
theorem dX7_open_68 : ml_j cX7_open 68 (.ifCond .eq) 86 71 := ⟨18, by decide +kernel, by decide, rfl⟩
theorem dX7_open_71 : ml_d cX7_open 71 (.iload_n 3) 1 72 := ⟨by decide +kernel, rfl⟩
theorem dX7_open_72 : ml_d cX7_open 72 (.aload_n 0) 1 73 := ⟨by decide +kernel, rfl⟩
theorem dX7_open_73 : ml_d cX7_open 73 (.getfield 35) 3 76 := ⟨by decide +kernel, rfl⟩
theorem dX7_open_76 : ml_d cX7_open 76 (.aload_n 0) 1 77 := ⟨by decide +kernel, rfl⟩
theorem dX7_open_77 : ml_d cX7_open 77 (.getfield 38) 3 80 := ⟨by decide +kernel, rfl⟩
theorem dX7_open_80 : ml_d cX7_open 80 (.iload 5) 2 82 := ⟨by decide +kernel, rfl⟩
theorem dX7_open_82 : ml_d cX7_open 82 (.iaload) 1 83 := ⟨by decide +kernel, rfl⟩
theorem dX7_open_83 : ml_d cX7_open 83 (.iaload) 1 84 := ⟨by decide +kernel, rfl⟩
theorem dX7_open_84 : ml_d cX7_open 84 (.iand) 1 85 := ⟨by decide +kernel, rfl⟩
theorem dX7_open_85 : ml_d cX7_open 85 (.istore_n 3) 1 86 := ⟨by decide +kernel, rfl⟩
theorem dX7_open_86 : ml_d cX7_open 86 (.iinc 5 1) 3 89 := ⟨by decide +kernel, rfl⟩
theorem dX7_open_89 : ml_j cX7_open 89 .goto 24 92 := ⟨(-65), by decide +kernel, by decide, rfl⟩
theorem dX7_open_92 : ml_d cX7_open 92 (.iload_n 3) 1 93 := ⟨by decide +kernel, rfl⟩
theorem dX7_open_93 : ml_d cX7_open 93 (.ireturn) 1 94 := ⟨by decide +kernel, rfl⟩
def fX7_open_86 (k24 : Nat → Int32 → Int32 → Nat → Int32 → ml_M → Option Int32) (l0 : Nat) (l1 : Int32) (l3 : Int32) (l4 : Nat) (l5 : Int32) (m : ml_M) : Option Int32 :=
    k24 l0 l1 l3 l4 (l5 + (1 : Int32)) m
theorem vX7_open_86 {E : ml_E} (hL : ml_eL E = 6) {rv : Int32} {m : ml_M} (hr : ∀ (pc pc' : Nat) (lv : List (Nat × ml_X)), ml_d cX7_open pc .ireturn 1 pc' → True → ml_V E "LostRoom$Sharings" cX7_open 3 false m pc lv [ml_i rv]) {k24 : Nat → Int32 → Int32 → Nat → Int32 → ml_M → Option Int32} (hk24 : ∀ (l0 : Nat) (l1 : Int32) (l3 : Int32) (l4 : Nat) (l5 : Int32), k24 l0 l1 l3 l4 l5 m = some rv → ml_V E "LostRoom$Sharings" cX7_open 3 false m 24 [(0, ml_r l0), (1, ml_i l1), (3, ml_i l3), (4, ml_r l4), (5, ml_i l5)] []) : ∀ (l0 : Nat) (l1 : Int32) (l3 : Int32) (l4 : Nat) (l5 : Int32), fX7_open_86 k24 l0 l1 l3 l4 l5 m = some rv → ml_V E "LostRoom$Sharings" cX7_open 3 false m 86 [(0, ml_r l0), (1, ml_i l1), (3, ml_i l3), (4, ml_r l4), (5, ml_i l5)] [] := by
  intro l0 l1 l3 l4 l5 h
  unfold fX7_open_86 at h
  exact ml_iinc (lv' := [(5, ml_i (l5 + (1 : Int32))), (0, ml_r l0), (1, ml_i l1), (3, ml_i l3), (4, ml_r l4)]) dX7_open_86 4 rfl (congrArg (l5 + ·) kc_i1) (ml_hn hL rfl) rfl <| ml_goto dX7_open_89 <| ml_V.sub [1, 2, 3, 4, 0] rfl (hk24 _ _ _ _ _ h)
def fX7_open_58 (k24 : Nat → Int32 → Int32 → Nat → Int32 → ml_M → Option Int32) (l0 : Nat) (l1 : Int32) (l3 : Int32) (l4 : Nat) (l5 : Int32) (m : ml_M) : Option Int32 :=
    if (ml_K m l4).1 = 9 then
    ml_b1 (fX10_has (ml_I m l4 2) l5 m) fun r1067 =>
    if r1067 = 0 then
    fX7_open_86 k24 l0 l1 l3 l4 l5 m
    else
    if (ml_K m l0).1 = 7 then
    ml_let (ml_R m l0 11) fun a1069 =>
    ml_let (ml_R m l0 12) fun a1070 =>
    if ml_in m a1070 20 l5 then
    if ml_in m a1069 20 (ml_I m a1070 l5.toNatClampNeg) then
    ml_let (l3 &&& (ml_I m a1069 (ml_I m a1070 l5.toNatClampNeg).toNatClampNeg)) fun x1073 =>
    fX7_open_86 k24 l0 l1 x1073 l4 l5 m
    else none
    else none
    else none
    else none
theorem vX7_open_58 {E : ml_E} (hL : ml_eL E = 6) {rv : Int32} {m : ml_M} (hr : ∀ (pc pc' : Nat) (lv : List (Nat × ml_X)), ml_d cX7_open pc .ireturn 1 pc' → True → ml_V E "LostRoom$Sharings" cX7_open 3 false m pc lv [ml_i rv]) {k24 : Nat → Int32 → Int32 → Nat → Int32 → ml_M → Option Int32} (hk24 : ∀ (l0 : Nat) (l1 : Int32) (l3 : Int32) (l4 : Nat) (l5 : Int32), k24 l0 l1 l3 l4 l5 m = some rv → ml_V E "LostRoom$Sharings" cX7_open 3 false m 24 [(0, ml_r l0), (1, ml_i l1), (3, ml_i l3), (4, ml_r l4), (5, ml_i l5)] []) : ∀ (l0 : Nat) (l1 : Int32) (l3 : Int32) (l4 : Nat) (l5 : Int32), fX7_open_58 k24 l0 l1 l3 l4 l5 m = some rv → ml_V E "LostRoom$Sharings" cX7_open 3 false m 58 [(0, ml_r l0), (1, ml_i l1), (3, ml_i l3), (4, ml_r l4), (5, ml_i l5)] [] := by
  intro l0 l1 l3 l4 l5 h
  unfold fX7_open_58 at h
  exact ml_aload dX7_open_58 3 rfl <| ml_ck_of h fun hc1065 h => ml_getI dX7_open_60 wb_203 hc1065 <| ml_iload dX7_open_63 4 rfl <| ml_b1_of h fun r1067 hv1066 h => ml_callSN (host := "LostRoom") dX7_open_65 (by decide) wb_190 (sX10_has hv1066) rfl (Nat.le_of_ble_eq_true rfl) (Nat.le_of_ble_eq_true rfl) rfl <| ml_if_eq dX7_open_68 h (fun _ h => ml_V.sub [0, 1, 2, 3, 4] rfl (vX7_open_86 hL hr hk24 _ _ _ _ _ h)) (fun _ h => ml_iload_n dX7_open_71 2 rfl <| ml_aload_n dX7_open_72 0 rfl <| ml_ck_of h fun hc1068 h => ml_getR dX7_open_73 wb_186 hc1068 <| ml_lx (mk := ml_r) h fun a1069 h => ml_aload_n dX7_open_76 0 rfl <| ml_getR dX7_open_77 wb_196 hc1068 <| ml_lx (mk := ml_r) h fun a1070 h => ml_iload dX7_open_80 4 rfl <| ml_ck_of h fun hi1071 h => ml_iald dX7_open_82 hi1071 <| ml_ck_of h fun hi1072 h => ml_iald dX7_open_83 hi1072 <| ml_iand dX7_open_84 <| ml_lx (mk := ml_i) h fun x1073 h => ml_istore_n (lv' := [(3, ml_i x1073), (0, ml_r l0), (1, ml_i l1), (4, ml_r l4), (5, ml_i l5)]) dX7_open_85 (ml_hn hL rfl) rfl <| ml_V.sub [1, 2, 0, 3, 4] rfl (vX7_open_86 hL hr hk24 _ _ _ _ _ h))
def fX7_open_24 : Nat → Nat → Int32 → Int32 → Nat → Int32 → ml_M → Option Int32
  | 0, _, _, _, _, _, _ => none
  | fu + 1, l0, l1, l3, l4, l5, m =>
    if l1 ≤ l5 then
    some l3
    else
    if (ml_K m l4).1 = 9 then
    ml_b1 (fX10_has (ml_I m l4 3) l5 m) fun r1076 =>
    if r1076 = 0 then
    fX7_open_58 (fX7_open_24 fu) l0 l1 l3 l4 l5 m
    else
    if (ml_K m l0).1 = 7 then
    ml_let (ml_R m l0 10) fun a1078 =>
    ml_let (ml_R m l0 12) fun a1079 =>
    if ml_in m a1079 20 l5 then
    if ml_in m a1078 20 (ml_I m a1079 l5.toNatClampNeg) then
    ml_let (l3 &&& (ml_I m a1078 (ml_I m a1079 l5.toNatClampNeg).toNatClampNeg)) fun x1082 =>
    fX7_open_58 (fX7_open_24 fu) l0 l1 x1082 l4 l5 m
    else none
    else none
    else none
    else none
theorem vX7_open_24 {E : ml_E} (hL : ml_eL E = 6) {rv : Int32} {m : ml_M} (hr : ∀ (pc pc' : Nat) (lv : List (Nat × ml_X)), ml_d cX7_open pc .ireturn 1 pc' → True → ml_V E "LostRoom$Sharings" cX7_open 3 false m pc lv [ml_i rv]) : ∀ (fu : Nat) (l0 : Nat) (l1 : Int32) (l3 : Int32) (l4 : Nat) (l5 : Int32), fX7_open_24 fu l0 l1 l3 l4 l5 m = some rv → ml_V E "LostRoom$Sharings" cX7_open 3 false m 24 [(0, ml_r l0), (1, ml_i l1), (3, ml_i l3), (4, ml_r l4), (5, ml_i l5)] [] := by
  intro fu
  induction fu with
  | zero => intro l0 l1 l3 l4 l5 h; exact ml_none h
  | succ fu ih =>
    intro l0 l1 l3 l4 l5 h
    have hk24 := ih
    unfold fX7_open_24 at h
    exact ml_iload dX7_open_24 4 rfl <| ml_iload_n dX7_open_26 1 rfl <| ml_icmp_ge dX7_open_27 h (fun _ h => ml_iload_n dX7_open_92 2 rfl <| ml_rp (mk := ml_i) hr dX7_open_93 (fun _ => trivial) h) (fun _ h => ml_aload dX7_open_30 3 rfl <| ml_ck_of h fun hc1074 h => ml_getI dX7_open_32 wb_204 hc1074 <| ml_iload dX7_open_35 4 rfl <| ml_b1_of h fun r1076 hv1075 h => ml_callSN (host := "LostRoom") dX7_open_37 (by decide) wb_190 (sX10_has hv1075) rfl (Nat.le_of_ble_eq_true rfl) (Nat.le_of_ble_eq_true rfl) rfl <| ml_if_eq dX7_open_40 h (fun _ h => ml_V.sub [0, 1, 2, 3, 4] rfl (vX7_open_58 hL hr hk24 _ _ _ _ _ h)) (fun _ h => ml_iload_n dX7_open_43 2 rfl <| ml_aload_n dX7_open_44 0 rfl <| ml_ck_of h fun hc1077 h => ml_getR dX7_open_45 wb_188 hc1077 <| ml_lx (mk := ml_r) h fun a1078 h => ml_aload_n dX7_open_48 0 rfl <| ml_getR dX7_open_49 wb_196 hc1077 <| ml_lx (mk := ml_r) h fun a1079 h => ml_iload dX7_open_52 4 rfl <| ml_ck_of h fun hi1080 h => ml_iald dX7_open_54 hi1080 <| ml_ck_of h fun hi1081 h => ml_iald dX7_open_55 hi1081 <| ml_iand dX7_open_56 <| ml_lx (mk := ml_i) h fun x1082 h => ml_istore_n (lv' := [(3, ml_i x1082), (0, ml_r l0), (1, ml_i l1), (4, ml_r l4), (5, ml_i l5)]) dX7_open_57 (ml_hn hL rfl) rfl <| ml_V.sub [1, 2, 0, 3, 4] rfl (vX7_open_58 hL hr hk24 _ _ _ _ _ h)))
def fX7_open (l0 : Nat) (l1 : Int32) (l2 : Int32) (m : ml_M) : Option Int32 :=
    if (ml_K m l0).1 = 7 then
    ml_let ((((1 : Int32) <<< ((ml_I m l0 7) &&& 31)) - (1 : Int32)) &&& (l2 ^^^ (-1 : Int32))) fun x1084 =>
    ml_let (ml_R m l0 5) fun a1085 =>
    if ml_in m a1085 30 l1 then
    ml_let (ml_R m a1085 l1.toNatClampNeg) fun a1087 =>
    fX7_open_24 ml_fu l0 l1 x1084 a1087 (0 : Int32) m
    else none
    else none
theorem wX7_open_0 {E : ml_E} (hL : ml_eL E = 6) {rv : Int32} {m : ml_M} (hr : ∀ (pc pc' : Nat) (lv : List (Nat × ml_X)), ml_d cX7_open pc .ireturn 1 pc' → True → ml_V E "LostRoom$Sharings" cX7_open 3 false m pc lv [ml_i rv]) : ∀ (l0 : Nat) (l1 : Int32) (l2 : Int32), fX7_open l0 l1 l2 m = some rv → ml_V E "LostRoom$Sharings" cX7_open 3 false m 0 [(0, ml_r l0), (1, ml_i l1), (2, ml_i l2)] [] := by
  intro l0 l1 l2 h
  unfold fX7_open at h
  exact ml_iconst dX7_open_0 kc_i1 <| ml_aload_n dX7_open_1 0 rfl <| ml_ck_of h fun hc1083 h => ml_getI dX7_open_2 wb_187 hc1083 <| ml_ishl dX7_open_5 <| ml_iconst dX7_open_6 kc_i1 <| ml_isub dX7_open_7 <| ml_iload_n dX7_open_8 2 rfl <| ml_iconst dX7_open_9 kc_im1 <| ml_ixor dX7_open_10 <| ml_iand dX7_open_11 <| ml_lx (mk := ml_i) h fun x1084 h => ml_istore_n (lv' := [(3, ml_i x1084), (0, ml_r l0), (1, ml_i l1), (2, ml_i l2)]) dX7_open_12 (ml_hn hL rfl) rfl <| ml_aload_n dX7_open_13 1 rfl <| ml_getR dX7_open_14 wb_205 hc1083 <| ml_lx (mk := ml_r) h fun a1085 h => ml_iload_n dX7_open_17 2 rfl <| ml_ck_of h fun hi1086 h => ml_aald (kd := 30) dX7_open_18 (by decide) hi1086 <| ml_lx (mk := ml_r) h fun a1087 h => ml_astore (lv' := [(4, ml_r a1087), (3, ml_i x1084), (0, ml_r l0), (1, ml_i l1), (2, ml_i l2)]) dX7_open_19 (ml_hn hL rfl) rfl <| ml_iconst dX7_open_21 kc_i0 <| ml_istore (lv' := [(5, ml_i (0 : Int32)), (4, ml_r a1087), (3, ml_i x1084), (0, ml_r l0), (1, ml_i l1), (2, ml_i l2)]) dX7_open_22 (ml_hn hL rfl) rfl <| ml_V.sub [3, 4, 2, 1, 0] rfl (vX7_open_24 hL hr  ml_fu _ _ _ _ _ h)
theorem sX7_open {l0 : Nat} {l1 : Int32} {l2 : Int32} {m : ml_M} {rv : Int32} (h : fX7_open l0 l1 l2 m = some rv) : ml_Sn yX7_open cX7_open 6 (some .int) 3 [ml_r l0, ml_i l1, ml_i l2] m (some (ml_i rv)) m :=
  ml_Sn_of (P := True) (ini := false) (by decide +kernel) (Nat.le_of_ble_eq_true rfl) (fun h => by cases h) (fun _ => ml_RkI rv) fun E hL hr => wX7_open_0 hL hr _ _ _ h
theorem dX7_give_0 : ml_d cX7_give 0 (.iload_n 1) 1 1 := ⟨by decide +kernel, rfl⟩
theorem dX7_give_1 : ml_d cX7_give 1 (.aload_n 0) 1 2 := ⟨by decide +kernel, rfl⟩
theorem dX7_give_2 : ml_d cX7_give 2 (.getfield 52) 3 5 := ⟨by decide +kernel, rfl⟩
theorem dX7_give_5 : ml_j cX7_give 5 (.if_icmp .lt) 23 8 := ⟨18, by decide +kernel, by decide, rfl⟩
theorem dX7_give_8 : ml_d cX7_give 8 (.aload_n 0) 1 9 := ⟨by decide +kernel, rfl⟩
theorem dX7_give_9 : ml_d cX7_give 9 (.getfield 28) 3 12 := ⟨by decide +kernel, rfl⟩
theorem dX7_give_12 : ml_d cX7_give 12 (.iload_n 2) 1 13 := ⟨by decide +kernel, rfl⟩
theorem dX7_give_13 : ml_d cX7_give 13 (.baload) 1 14 := ⟨by decide +kernel, rfl⟩
theorem dX7_give_14 : ml_j cX7_give 14 (.ifCond .eq) 22 17 := ⟨8, by decide +kernel, by decide, rfl⟩
theorem dX7_give_17 : ml_d cX7_give 17 (.aload_n 0) 1 18 := ⟨by decide +kernel, rfl⟩
theorem dX7_give_18 : ml_d cX7_give 18 (.iload_n 3) 1 19 := ⟨by decide +kernel, rfl⟩
theorem dX7_give_19 : ml_d cX7_give 19 (.invokevirtual 97) 3 22 := ⟨by decide +kernel, rfl⟩
theorem dX7_give_22 : ml_d cX7_give 22 (.return_) 1 23 := ⟨by decide +kernel, rfl⟩
theorem dX7_give_23 : ml_d cX7_give 23 (.aload_n 0) 1 24 := ⟨by decide +kernel, rfl⟩
theorem dX7_give_24 : ml_d cX7_give 24 (.iload_n 1) 1 25 := ⟨by decide +kernel, rfl⟩
theorem dX7_give_25 : ml_d cX7_give 25 (.iload_n 2) 1 26 := ⟨by decide +kernel, rfl⟩
theorem dX7_give_26 : ml_d cX7_give 26 (.invokevirtual 89) 3 29 := ⟨by decide +kernel, rfl⟩
theorem dX7_give_29 : ml_d cX7_give 29 (.istore 4) 2 31 := ⟨by decide +kernel, rfl⟩
theorem dX7_give_31 : ml_d cX7_give 31 (.iconst 0) 1 32 := ⟨by decide +kernel, rfl⟩
theorem dX7_give_32 : ml_d cX7_give 32 (.istore 5) 2 34 := ⟨by decide +kernel, rfl⟩
theorem dX7_give_34 : ml_d cX7_give 34 (.iload 5) 2 36 := ⟨by decide +kernel, rfl⟩
theorem dX7_give_36 : ml_d cX7_give 36 (.aload_n 0) 1 37 := ⟨by decide +kernel, rfl⟩
theorem dX7_give_37 : ml_d cX7_give 37 (.getfield 56) 3 40 := ⟨by decide +kernel, rfl⟩
theorem dX7_give_40 : ml_j cX7_give 40 (.if_icmp .ge) 97 43 := ⟨57, by decide +kernel, by decide, rfl⟩
theorem dX7_give_43 : ml_d cX7_give 43 (.iload 4) 2 45 := ⟨by decide +kernel, rfl⟩
theorem dX7_give_45 : ml_d cX7_give 45 (.iload 5) 2 47 := ⟨by decide +kernel, rfl⟩
theorem dX7_give_47 : ml_d cX7_give 47 (.invokestatic 93) 3 50 := ⟨by decide +kernel, rfl⟩
theorem dX7_give_50 : ml_j cX7_give 50 (.ifCond .ne) 56 53 := ⟨6, by decide +kernel, by decide, rfl⟩
theorem dX7_give_53 : ml_j cX7_give 53 .goto 91 56 := ⟨38, by decide +kernel, by decide, rfl⟩
theorem dX7_give_56 : ml_d cX7_give 56 (.aload_n 0) 1 57 := ⟨by decide +kernel, rfl⟩
theorem dX7_give_57 : ml_d cX7_give 57 (.getfield 38) 3 60 := ⟨by decide +kernel, rfl⟩
theorem dX7_give_60 : ml_d cX7_give 60 (.iload_n 1) 1 61 := ⟨by decide +kernel, rfl⟩
theorem dX7_give_61 : ml_d cX7_give 61 (.iload 5) 2 63 := ⟨by decide +kernel, rfl⟩
theorem dX7_give_63 : ml_d cX7_give 63 (.iastore) 1 64 := ⟨by decide +kernel, rfl⟩
theorem dX7_give_64 : ml_d cX7_give 64 (.aload_n 0) 1 65 := ⟨by decide +kernel, rfl⟩
theorem dX7_give_65 : ml_d cX7_give 65 (.iload_n 1) 1 66 := ⟨by decide +kernel, rfl⟩
theorem dX7_give_66 : ml_d cX7_give 66 (.iconst 1) 1 67 := ⟨by decide +kernel, rfl⟩
theorem dX7_give_67 : ml_d cX7_give 67 (.iadd) 1 68 := ⟨by decide +kernel, rfl⟩
theorem dX7_give_68 : ml_d cX7_give 68 (.iload_n 2) 1 69 := ⟨by decide +kernel, rfl⟩
theorem dX7_give_69 : ml_d cX7_give 69 (.iconst 1) 1 70 := ⟨by decide +kernel, rfl⟩
theorem dX7_give_70 : ml_d cX7_give 70 (.iload 5) 2 72 := ⟨by decide +kernel, rfl⟩
theorem dX7_give_72 : ml_d cX7_give 72 (.ishl) 1 73 := ⟨by decide +kernel, rfl⟩
theorem dX7_give_73 : ml_d cX7_give 73 (.ior) 1 74 := ⟨by decide +kernel, rfl⟩
theorem dX7_give_74 : ml_d cX7_give 74 (.iload_n 3) 1 75 := ⟨by decide +kernel, rfl⟩
theorem dX7_give_75 : ml_d cX7_give 75 (.aload_n 0) 1 76 := ⟨by decide +kernel, rfl⟩
theorem dX7_give_76 : ml_d cX7_give 76 (.getfield 25) 3 79 := ⟨by decide +kernel, rfl⟩
theorem dX7_give_79 : ml_d cX7_give 79 (.iload_n 1) 1 80 := ⟨by decide +kernel, rfl⟩
theorem dX7_give_80 : ml_d cX7_give 80 (.bipush 8) 2 82 := ⟨by decide +kernel, rfl⟩
theorem dX7_give_82 : ml_d cX7_give 82 (.imul) 1 83 := ⟨by decide +kernel, rfl⟩
theorem dX7_give_83 : ml_d cX7_give 83 (.iload 5) 2 85 := ⟨by decide +kernel, rfl⟩
theorem dX7_give_85 : ml_d cX7_give 85 (.iadd) 1 86 := ⟨by decide +kernel, rfl⟩
theorem dX7_give_86 : ml_d cX7_give 86 (.iaload) 1 87 := ⟨by decide +kernel, rfl⟩
theorem dX7_give_87 : ml_d cX7_give 87 (.iadd) 1 88 := ⟨by decide +kernel, rfl⟩
theorem dX7_give_88 : ml_d cX7_give 88 (.invokestatic 81) 3 91 := ⟨by decide +kernel, rfl⟩
theorem dX7_give_91 : ml_d cX7_give 91 (.iinc 5 1) 3 94 := ⟨by decide +kernel, rfl⟩
theorem dX7_give_94 : ml_j cX7_give 94 .goto 34 97 := ⟨(-60), by decide +kernel, by decide, rfl⟩
theorem dX7_give_97 : ml_d cX7_give 97 (.return_) 1 98 := ⟨by decide +kernel, rfl⟩
def fX7_give_91 (kr : Nat → Int32 → Int32 → Int32 → ml_M → Option ml_M) (k34 : Nat → Int32 → Int32 → Int32 → Int32 → Int32 → ml_M → Option ml_M) (l0 : Nat) (l1 : Int32) (l2 : Int32) (l3 : Int32) (l4 : Int32) (l5 : Int32) (m : ml_M) : Option ml_M :=
    k34 l0 l1 l2 l3 l4 (l5 + (1 : Int32)) m
theorem vX7_give_91 {E : ml_E} (hL : ml_eL E = 6) {rm : ml_M} {dr : Nat} (hr : ∀ (pc pc' : Nat) (lv : List (Nat × ml_X)), ml_d cX7_give pc .return_ 1 pc' → True → ml_V E "LostRoom$Sharings" cX7_give (dr + 1) false rm pc lv []) {kr : Nat → Int32 → Int32 → Int32 → ml_M → Option ml_M} (hkr : ∀ (r1 : Nat) (r2 : Int32) (r3 : Int32) (r4 : Int32) (m m' : ml_M), kr r1 r2 r3 r4 m = some m' → ml_Sn yX7_give cX7_give 6 none dr [ml_r r1, ml_i r2, ml_i r3, ml_i r4] m none m') (hdr : 4 ≤ dr) {k34 : Nat → Int32 → Int32 → Int32 → Int32 → Int32 → ml_M → Option ml_M} (hk34 : ∀ (l0 : Nat) (l1 : Int32) (l2 : Int32) (l3 : Int32) (l4 : Int32) (l5 : Int32) (m : ml_M), k34 l0 l1 l2 l3 l4 l5 m = some rm → ml_V E "LostRoom$Sharings" cX7_give (dr + 1) false m 34 [(0, ml_r l0), (1, ml_i l1), (2, ml_i l2), (3, ml_i l3), (4, ml_i l4), (5, ml_i l5)] []) : ∀ (l0 : Nat) (l1 : Int32) (l2 : Int32) (l3 : Int32) (l4 : Int32) (l5 : Int32) (m : ml_M), fX7_give_91 kr k34 l0 l1 l2 l3 l4 l5 m = some rm → ml_V E "LostRoom$Sharings" cX7_give (dr + 1) false m 91 [(0, ml_r l0), (1, ml_i l1), (2, ml_i l2), (3, ml_i l3), (4, ml_i l4), (5, ml_i l5)] [] := by
  intro l0 l1 l2 l3 l4 l5 m h
  unfold fX7_give_91 at h
  exact ml_iinc (lv' := [(5, ml_i (l5 + (1 : Int32))), (0, ml_r l0), (1, ml_i l1), (2, ml_i l2), (3, ml_i l3), (4, ml_i l4)]) dX7_give_91 5 rfl (congrArg (l5 + ·) kc_i1) (ml_hn hL rfl) rfl <| ml_goto dX7_give_94 <| ml_V.sub [1, 2, 3, 4, 5, 0] rfl (hk34 _ _ _ _ _ _ _ h)
def fX7_give_34 (kr : Nat → Int32 → Int32 → Int32 → ml_M → Option ml_M) : Nat → Nat → Int32 → Int32 → Int32 → Int32 → Int32 → ml_M → Option ml_M
  | 0, _, _, _, _, _, _, _ => none
  | fu + 1, l0, l1, l2, l3, l4, l5, m =>
    if (ml_K m l0).1 = 7 then
    if (ml_I m l0 7) ≤ l5 then
    some m
    else
    ml_b1 (fX10_has l4 l5 m) fun r1090 =>
    if r1090 = 0 then
    fX7_give_91 kr (fX7_give_34 kr fu) l0 l1 l2 l3 l4 l5 m
    else
    ml_let (ml_R m l0 12) fun a1091 =>
    if ml_in m a1091 20 l1 then
    ml_let (ml_sI m a1091 l1.toNatClampNeg l5) fun m1093 =>
    ml_let (ml_R m1093 l0 8) fun a1095 =>
    if ml_in m1093 a1095 20 ((l1 * (8 : Int32)) + l5) then
    ml_b1 (kr l0 (l1 + (1 : Int32)) (l2 ||| ((1 : Int32) <<< (l5 &&& 31))) (l3 + (ml_I m1093 a1095 ((l1 * (8 : Int32)) + l5).toNatClampNeg)) m1093) fun m1098 =>
    fX7_give_91 kr (fX7_give_34 kr fu) l0 l1 l2 l3 l4 l5 m1098
    else none
    else none
    else none
theorem vX7_give_34 {E : ml_E} (hL : ml_eL E = 6) {rm : ml_M} {dr : Nat} (hr : ∀ (pc pc' : Nat) (lv : List (Nat × ml_X)), ml_d cX7_give pc .return_ 1 pc' → True → ml_V E "LostRoom$Sharings" cX7_give (dr + 1) false rm pc lv []) {kr : Nat → Int32 → Int32 → Int32 → ml_M → Option ml_M} (hkr : ∀ (r1 : Nat) (r2 : Int32) (r3 : Int32) (r4 : Int32) (m m' : ml_M), kr r1 r2 r3 r4 m = some m' → ml_Sn yX7_give cX7_give 6 none dr [ml_r r1, ml_i r2, ml_i r3, ml_i r4] m none m') (hdr : 4 ≤ dr) : ∀ (fu : Nat) (l0 : Nat) (l1 : Int32) (l2 : Int32) (l3 : Int32) (l4 : Int32) (l5 : Int32) (m : ml_M), fX7_give_34 kr fu l0 l1 l2 l3 l4 l5 m = some rm → ml_V E "LostRoom$Sharings" cX7_give (dr + 1) false m 34 [(0, ml_r l0), (1, ml_i l1), (2, ml_i l2), (3, ml_i l3), (4, ml_i l4), (5, ml_i l5)] [] := by
  intro fu
  induction fu with
  | zero => intro l0 l1 l2 l3 l4 l5 m h; exact ml_none h
  | succ fu ih =>
    intro l0 l1 l2 l3 l4 l5 m h
    have hk34 := ih
    unfold fX7_give_34 at h
    exact ml_iload dX7_give_34 5 rfl <| ml_aload_n dX7_give_36 0 rfl <| ml_ck_of h fun hc1088 h => ml_getI dX7_give_37 wb_187 hc1088 <| ml_icmp_ge dX7_give_40 h (fun _ h => ml_rv hr dX7_give_97 trivial h) (fun _ h => ml_iload dX7_give_43 4 rfl <| ml_iload dX7_give_45 5 rfl <| ml_b1_of h fun r1090 hv1089 h => ml_callSN (host := "LostRoom") dX7_give_47 (by decide) wb_190 (sX10_has hv1089) rfl (by omega) (Nat.le_of_ble_eq_true rfl) rfl <| ml_if_ne dX7_give_50 h (fun _ h => ml_aload_n dX7_give_56 0 rfl <| ml_getR dX7_give_57 wb_196 hc1088 <| ml_lx (mk := ml_r) h fun a1091 h => ml_iload_n dX7_give_60 1 rfl <| ml_iload dX7_give_61 5 rfl <| ml_ck_of h fun hi1092 h => ml_iast dX7_give_63 hi1092 <| ml_lt (m := m) rfl h fun m1093 em1094 h => ml_aload_n dX7_give_64 0 rfl <| ml_iload_n dX7_give_65 1 rfl <| ml_iconst dX7_give_66 kc_i1 <| ml_iadd dX7_give_67 <| ml_iload_n dX7_give_68 2 rfl <| ml_iconst dX7_give_69 kc_i1 <| ml_iload dX7_give_70 5 rfl <| ml_ishl dX7_give_72 <| ml_ior dX7_give_73 <| ml_iload_n dX7_give_74 3 rfl <| ml_aload_n dX7_give_75 0 rfl <| ml_getR dX7_give_76 wb_191 (ml_kk em1094 hc1088) <| ml_lx (mk := ml_r) h fun a1095 h => ml_iload_n dX7_give_79 1 rfl <| ml_bipush dX7_give_80 kc_b8 <| ml_imul dX7_give_82 <| ml_iload dX7_give_83 5 rfl <| ml_iadd dX7_give_85 <| ml_ck_of h fun hi1096 h => ml_iald dX7_give_86 hi1096 <| ml_iadd dX7_give_87 <| ml_b1_of h fun m1098 hv1097 h => ml_callS dX7_give_88 wm_325 wb_206 (hkr _ _ _ _ _ _ hv1097) rfl (by omega) (Nat.le_of_ble_eq_true rfl) rfl <| ml_V.sub [0, 1, 2, 3, 4, 5] rfl (vX7_give_91 hL hr hkr hdr hk34 _ _ _ _ _ _ _ h)) (fun _ h => ml_goto dX7_give_53 <| ml_V.sub [0, 1, 2, 3, 4, 5] rfl (vX7_give_91 hL hr hkr hdr hk34 _ _ _ _ _ _ _ h)))
def fX7_give_b (kr : Nat → Int32 → Int32 → Int32 → ml_M → Option ml_M) (l0 : Nat) (l1 : Int32) (l2 : Int32) (l3 : Int32) (m : ml_M) : Option ml_M :=
    if (ml_K m l0).1 = 7 then
    if l1 < (ml_I m l0 6) then
    ml_b1 (fX7_open l0 l1 l2 m) fun r1101 =>
    fX7_give_34 kr ml_fu l0 l1 l2 l3 r1101 (0 : Int32) m
    else
    ml_let (ml_R m l0 9) fun a1102 =>
    if ml_in m a1102 22 l2 then
    if (ml_I m a1102 l2.toNatClampNeg) = 0 then
    some m
    else
    ml_b1 (fX7_note l0 l3 m) fun m1105 =>
    some m1105
    else none
    else none
theorem wX7_give_0 {E : ml_E} (hL : ml_eL E = 6) {rm : ml_M} {dr : Nat} (hr : ∀ (pc pc' : Nat) (lv : List (Nat × ml_X)), ml_d cX7_give pc .return_ 1 pc' → True → ml_V E "LostRoom$Sharings" cX7_give (dr + 1) false rm pc lv []) {kr : Nat → Int32 → Int32 → Int32 → ml_M → Option ml_M} (hkr : ∀ (r1 : Nat) (r2 : Int32) (r3 : Int32) (r4 : Int32) (m m' : ml_M), kr r1 r2 r3 r4 m = some m' → ml_Sn yX7_give cX7_give 6 none dr [ml_r r1, ml_i r2, ml_i r3, ml_i r4] m none m') (hdr : 4 ≤ dr) : ∀ (l0 : Nat) (l1 : Int32) (l2 : Int32) (l3 : Int32) (m : ml_M), fX7_give_b kr l0 l1 l2 l3 m = some rm → ml_V E "LostRoom$Sharings" cX7_give (dr + 1) false m 0 [(0, ml_r l0), (1, ml_i l1), (2, ml_i l2), (3, ml_i l3)] [] := by
  intro l0 l1 l2 l3 m h
  unfold fX7_give_b at h
  exact ml_iload_n dX7_give_0 1 rfl <| ml_aload_n dX7_give_1 0 rfl <| ml_ck_of h fun hc1099 h => ml_getI dX7_give_2 wb_200 hc1099 <| ml_icmp_lt dX7_give_5 h (fun _ h => ml_aload_n dX7_give_23 0 rfl <| ml_iload_n dX7_give_24 1 rfl <| ml_iload_n dX7_give_25 2 rfl <| ml_b1_of h fun r1101 hv1100 h => ml_callV dX7_give_26 wm_329 wb_207 hc1099 (sX7_open hv1100) rfl (by omega) (Nat.le_of_ble_eq_true rfl) rfl <| ml_istore (lv' := [(4, ml_i r1101), (0, ml_r l0), (1, ml_i l1), (2, ml_i l2), (3, ml_i l3)]) dX7_give_29 (ml_hn hL rfl) rfl <| ml_iconst dX7_give_31 kc_i0 <| ml_istore (lv' := [(5, ml_i (0 : Int32)), (4, ml_i r1101), (0, ml_r l0), (1, ml_i l1), (2, ml_i l2), (3, ml_i l3)]) dX7_give_32 (ml_hn hL rfl) rfl <| ml_V.sub [2, 3, 4, 5, 1, 0] rfl (vX7_give_34 hL hr hkr hdr ml_fu _ _ _ _ _ _ _ h)) (fun _ h => ml_aload_n dX7_give_8 0 rfl <| ml_getR dX7_give_9 wb_194 hc1099 <| ml_lx (mk := ml_r) h fun a1102 h => ml_iload_n dX7_give_12 2 rfl <| ml_ck_of h fun hi1103 h => ml_zald dX7_give_13 hi1103 <| ml_if_eq dX7_give_14 h (fun _ h => ml_rv hr dX7_give_22 trivial h) (fun _ h => ml_aload_n dX7_give_17 0 rfl <| ml_iload_n dX7_give_18 3 rfl <| ml_b1_of h fun m1105 hv1104 h => ml_callV dX7_give_19 wm_333 wb_208 hc1099 (sX7_note hv1104) rfl (by omega) (Nat.le_of_ble_eq_true rfl) rfl <| ml_rv hr dX7_give_22 trivial h))
def fX7_give : Nat → Nat → Int32 → Int32 → Int32 → ml_M → Option ml_M
  | 0, _, _, _, _, _ => none
  | fu + 1, l0, l1, l2, l3, m => fX7_give_b (fX7_give fu) l0 l1 l2 l3 m
theorem sX7_give_r : ∀ (fu : Nat) (l0 : Nat) (l1 : Int32) (l2 : Int32) (l3 : Int32) (m rm : ml_M), fX7_give fu l0 l1 l2 l3 m = some rm → ml_Sn yX7_give cX7_give 6 none (4 + fu) [ml_r l0, ml_i l1, ml_i l2, ml_i l3] m none rm := by
  intro fu
  induction fu with
  | zero => intro l0 l1 l2 l3 m rm h; exact ml_none h
  | succ fu ih =>
    intro l0 l1 l2 l3 m rm h
    exact ml_Sn_of (P := True) (ini := false) (by decide +kernel) (Nat.le_of_ble_eq_true rfl) (fun h => by cases h) (fun _ => ml_RkV) fun E hL hr => wX7_give_0 (dr := 4 + fu) hL hr ih (Nat.le_add_right _ _) _ _ _ _ _ h
theorem sX7_give {l0 : Nat} {l1 : Int32} {l2 : Int32} {l3 : Int32} {m rm : ml_M} (h : fX7_give 12 l0 l1 l2 l3 m = some rm) : ml_Sn yX7_give cX7_give 6 none 16 [ml_r l0, ml_i l1, ml_i l2, ml_i l3] m none rm := sX7_give_r 12 l0 l1 l2 l3 m rm h
theorem dX7_gather_0 : ml_d cX7_gather 0 (.aload_n 0) 1 1 := ⟨by decide +kernel, rfl⟩
theorem dX7_gather_1 : ml_d cX7_gather 1 (.aload_n 1) 1 2 := ⟨by decide +kernel, rfl⟩
theorem dX7_gather_2 : ml_d cX7_gather 2 (.getfield 41) 3 5 := ⟨by decide +kernel, rfl⟩
theorem dX7_gather_5 : ml_d cX7_gather 5 (.putfield 47) 3 8 := ⟨by decide +kernel, rfl⟩
theorem dX7_gather_8 : ml_d cX7_gather 8 (.aload_n 0) 1 9 := ⟨by decide +kernel, rfl⟩
theorem dX7_gather_9 : ml_d cX7_gather 9 (.aload_n 1) 1 10 := ⟨by decide +kernel, rfl⟩
theorem dX7_gather_10 : ml_d cX7_gather 10 (.getfield 48) 3 13 := ⟨by decide +kernel, rfl⟩
theorem dX7_gather_13 : ml_d cX7_gather 13 (.putfield 52) 3 16 := ⟨by decide +kernel, rfl⟩
theorem dX7_gather_16 : ml_d cX7_gather 16 (.aload_n 0) 1 17 := ⟨by decide +kernel, rfl⟩
theorem dX7_gather_17 : ml_d cX7_gather 17 (.aload_n 1) 1 18 := ⟨by decide +kernel, rfl⟩
theorem dX7_gather_18 : ml_d cX7_gather 18 (.getfield 53) 3 21 := ⟨by decide +kernel, rfl⟩
theorem dX7_gather_21 : ml_d cX7_gather 21 (.putfield 56) 3 24 := ⟨by decide +kernel, rfl⟩
theorem dX7_gather_24 : ml_d cX7_gather 24 (.aload_n 0) 1 25 := ⟨by decide +kernel, rfl⟩
theorem dX7_gather_25 : ml_d cX7_gather 25 (.aload_n 1) 1 26 := ⟨by decide +kernel, rfl⟩
theorem dX7_gather_26 : ml_d cX7_gather 26 (.getfield 57) 3 29 := ⟨by decide +kernel, rfl⟩
theorem dX7_gather_29 : ml_d cX7_gather 29 (.invokevirtual 61) 3 32 := ⟨by decide +kernel, rfl⟩
theorem dX7_gather_32 : ml_d cX7_gather 32 (.aload_n 0) 1 33 := ⟨by decide +kernel, rfl⟩
theorem dX7_gather_33 : ml_d cX7_gather 33 (.aload_n 2) 1 34 := ⟨by decide +kernel, rfl⟩
theorem dX7_gather_34 : ml_d cX7_gather 34 (.iload_n 3) 1 35 := ⟨by decide +kernel, rfl⟩
theorem dX7_gather_35 : ml_d cX7_gather 35 (.invokevirtual 65) 3 38 := ⟨by decide +kernel, rfl⟩
theorem dX7_gather_38 : ml_d cX7_gather 38 (.aload_n 0) 1 39 := ⟨by decide +kernel, rfl⟩
theorem dX7_gather_39 : ml_d cX7_gather 39 (.aload_n 2) 1 40 := ⟨by decide +kernel, rfl⟩
theorem dX7_gather_40 : ml_d cX7_gather 40 (.iload_n 3) 1 41 := ⟨by decide +kernel, rfl⟩
theorem dX7_gather_41 : ml_d cX7_gather 41 (.invokevirtual 69) 3 44 := ⟨by decide +kernel, rfl⟩
theorem dX7_gather_44 : ml_d cX7_gather 44 (.aload_n 0) 1 45 := ⟨by decide +kernel, rfl⟩
theorem dX7_gather_45 : ml_d cX7_gather 45 (.bipush (-9)) 2 47 := ⟨by decide +kernel, rfl⟩
theorem dX7_gather_47 : ml_d cX7_gather 47 (.putfield 72) 3 50 := ⟨by decide +kernel, rfl⟩
theorem dX7_gather_50 : ml_d cX7_gather 50 (.aload_n 0) 1 51 := ⟨by decide +kernel, rfl⟩
theorem dX7_gather_51 : ml_d cX7_gather 51 (.getfield 19) 3 54 := ⟨by decide +kernel, rfl⟩
theorem dX7_gather_54 : ml_d cX7_gather 54 (.iconst 0) 1 55 := ⟨by decide +kernel, rfl⟩
theorem dX7_gather_55 : ml_d cX7_gather 55 (.invokestatic 75) 3 58 := ⟨by decide +kernel, rfl⟩
theorem dX7_gather_58 : ml_d cX7_gather 58 (.aload_n 0) 1 59 := ⟨by decide +kernel, rfl⟩
theorem dX7_gather_59 : ml_d cX7_gather 59 (.getfield 22) 3 62 := ⟨by decide +kernel, rfl⟩
theorem dX7_gather_62 : ml_d cX7_gather 62 (.iconst 0) 1 63 := ⟨by decide +kernel, rfl⟩
theorem dX7_gather_63 : ml_d cX7_gather 63 (.invokestatic 75) 3 66 := ⟨by decide +kernel, rfl⟩
theorem dX7_gather_66 : ml_d cX7_gather 66 (.aload_n 0) 1 67 := ⟨by decide +kernel, rfl⟩
theorem dX7_gather_67 : ml_d cX7_gather 67 (.iconst 0) 1 68 := ⟨by decide +kernel, rfl⟩
theorem dX7_gather_68 : ml_d cX7_gather 68 (.iconst 0) 1 69 := ⟨by decide +kernel, rfl⟩
theorem dX7_gather_69 : ml_d cX7_gather 69 (.iconst 0) 1 70 := ⟨by decide +kernel, rfl⟩
theorem dX7_gather_70 : ml_d cX7_gather 70 (.invokestatic 81) 3 73 := ⟨by decide +kernel, rfl⟩
theorem dX7_gather_73 : ml_d cX7_gather 73 (.iconst 1) 1 74 := ⟨by decide +kernel, rfl⟩
theorem dX7_gather_74 : ml_d cX7_gather 74 (.istore 4) 2 76 := ⟨by decide +kernel, rfl⟩
theorem dX7_gather_76 : ml_d cX7_gather 76 (.iload 4) 2 78 := ⟨by decide +kernel, rfl⟩
theorem dX7_gather_78 : ml_d cX7_gather 78 (.bipush 20) 2 80 := ⟨by decide +kernel, rfl⟩
theorem dX7_gather_80 : ml_j cX7_gather 80 (.if_icmp .gt) 155 83 := ⟨75, by decide +kernel, by decide, rfl⟩
theorem dX7_gather_83 : ml_d cX7_gather 83 (.aload_n 0) 1 84 := ⟨by decide +kernel, rfl⟩
theorem dX7_gather_84 : ml_d cX7_gather 84 (.getfield 19) 3 87 := ⟨by decide +kernel, rfl⟩
theorem dX7_gather_87 : ml_d cX7_gather 87 (.iload 4) 2 89 := ⟨by decide +kernel, rfl⟩
theorem dX7_gather_89 : ml_d cX7_gather 89 (.dup2) 1 90 := ⟨by decide +kernel, rfl⟩
theorem dX7_gather_90 : ml_d cX7_gather 90 (.iaload) 1 91 := ⟨by decide +kernel, rfl⟩
theorem dX7_gather_91 : ml_d cX7_gather 91 (.aload_n 0) 1 92 := ⟨by decide +kernel, rfl⟩
theorem dX7_gather_92 : ml_d cX7_gather 92 (.getfield 19) 3 95 := ⟨by decide +kernel, rfl⟩
theorem dX7_gather_95 : ml_d cX7_gather 95 (.iload 4) 2 97 := ⟨by decide +kernel, rfl⟩
theorem dX7_gather_97 : ml_d cX7_gather 97 (.iconst 1) 1 98 := ⟨by decide +kernel, rfl⟩
theorem dX7_gather_98 : ml_d cX7_gather 98 (.isub) 1 99 := ⟨by decide +kernel, rfl⟩
theorem dX7_gather_99 : ml_d cX7_gather 99 (.iaload) 1 100 := ⟨by decide +kernel, rfl⟩
theorem dX7_gather_100 : ml_d cX7_gather 100 (.iadd) 1 101 := ⟨by decide +kernel, rfl⟩
theorem dX7_gather_101 : ml_d cX7_gather 101 (.iastore) 1 102 := ⟨by decide +kernel, rfl⟩
theorem dX7_gather_102 : ml_d cX7_gather 102 (.iconst 0) 1 103 := ⟨by decide +kernel, rfl⟩
theorem dX7_gather_103 : ml_d cX7_gather 103 (.istore 5) 2 105 := ⟨by decide +kernel, rfl⟩
theorem dX7_gather_105 : ml_d cX7_gather 105 (.iload 5) 2 107 := ⟨by decide +kernel, rfl⟩
theorem dX7_gather_107 : ml_d cX7_gather 107 (.bipush 64) 2 109 := ⟨by decide +kernel, rfl⟩
theorem dX7_gather_109 : ml_j cX7_gather 109 (.if_icmp .ge) 149 112 := ⟨40, by decide +kernel, by decide, rfl⟩
theorem dX7_gather_112 : ml_d cX7_gather 112 (.aload_n 0) 1 113 := ⟨by decide +kernel, rfl⟩
theorem dX7_gather_113 : ml_d cX7_gather 113 (.getfield 22) 3 116 := ⟨by decide +kernel, rfl⟩
theorem dX7_gather_116 : ml_d cX7_gather 116 (.iload 4) 2 118 := ⟨by decide +kernel, rfl⟩
theorem dX7_gather_118 : ml_d cX7_gather 118 (.bipush 64) 2 120 := ⟨by decide +kernel, rfl⟩
theorem dX7_gather_120 : ml_d cX7_gather 120 (.imul) 1 121 := ⟨by decide +kernel, rfl⟩
theorem dX7_gather_121 : ml_d cX7_gather 121 (.iload 5) 2 123 := ⟨by decide +kernel, rfl⟩
theorem dX7_gather_123 : ml_d cX7_gather 123 (.iadd) 1 124 := ⟨by decide +kernel, rfl⟩
theorem dX7_gather_124 : ml_d cX7_gather 124 (.dup2) 1 125 := ⟨by decide +kernel, rfl⟩
theorem dX7_gather_125 : ml_d cX7_gather 125 (.iaload) 1 126 := ⟨by decide +kernel, rfl⟩
theorem dX7_gather_126 : ml_d cX7_gather 126 (.aload_n 0) 1 127 := ⟨by decide +kernel, rfl⟩
theorem dX7_gather_127 : ml_d cX7_gather 127 (.getfield 22) 3 130 := ⟨by decide +kernel, rfl⟩
theorem dX7_gather_130 : ml_d cX7_gather 130 (.iload 4) 2 132 := ⟨by decide +kernel, rfl⟩
theorem dX7_gather_132 : ml_d cX7_gather 132 (.iconst 1) 1 133 := ⟨by decide +kernel, rfl⟩
theorem dX7_gather_133 : ml_d cX7_gather 133 (.isub) 1 134 := ⟨by decide +kernel, rfl⟩
theorem dX7_gather_134 : ml_d cX7_gather 134 (.bipush 64) 2 136 := ⟨by decide +kernel, rfl⟩
theorem dX7_gather_136 : ml_d cX7_gather 136 (.imul) 1 137 := ⟨by decide +kernel, rfl⟩
theorem dX7_gather_137 : ml_d cX7_gather 137 (.iload 5) 2 139 := ⟨by decide +kernel, rfl⟩
theorem dX7_gather_139 : ml_d cX7_gather 139 (.iadd) 1 140 := ⟨by decide +kernel, rfl⟩
theorem dX7_gather_140 : ml_d cX7_gather 140 (.iaload) 1 141 := ⟨by decide +kernel, rfl⟩
theorem dX7_gather_141 : ml_d cX7_gather 141 (.iadd) 1 142 := ⟨by decide +kernel, rfl⟩
theorem dX7_gather_142 : ml_d cX7_gather 142 (.iastore) 1 143 := ⟨by decide +kernel, rfl⟩
theorem dX7_gather_143 : ml_d cX7_gather 143 (.iinc 5 1) 3 146 := ⟨by decide +kernel, rfl⟩
theorem dX7_gather_146 : ml_j cX7_gather 146 .goto 105 149 := ⟨(-41), by decide +kernel, by decide, rfl⟩
theorem dX7_gather_149 : ml_d cX7_gather 149 (.iinc 4 1) 3 152 := ⟨by decide +kernel, rfl⟩
theorem dX7_gather_152 : ml_j cX7_gather 152 .goto 76 155 := ⟨(-76), by decide +kernel, by decide, rfl⟩
theorem dX7_gather_155 : ml_d cX7_gather 155 (.aload_n 0) 1 156 := ⟨by decide +kernel, rfl⟩
theorem dX7_gather_156 : ml_d cX7_gather 156 (.iconst 0) 1 157 := ⟨by decide +kernel, rfl⟩
theorem dX7_gather_157 : ml_d cX7_gather 157 (.putfield 9) 3 160 := ⟨by decide +kernel, rfl⟩
theorem dX7_gather_160 : ml_d cX7_gather 160 (.return_) 1 161 := ⟨by decide +kernel, rfl⟩
def fX7_gather_149 (k76 : Nat → Int32 → ml_M → Option ml_M) (l0 : Nat) (l4 : Int32) (m : ml_M) : Option ml_M :=
    k76 l0 (l4 + (1 : Int32)) m
theorem vX7_gather_149 {E : ml_E} (hL : ml_eL E = 6) {rm : ml_M} (hr : ∀ (pc pc' : Nat) (lv : List (Nat × ml_X)), ml_d cX7_gather pc .return_ 1 pc' → True → ml_V E "LostRoom$Sharings" cX7_gather 17 false rm pc lv []) {k76 : Nat → Int32 → ml_M → Option ml_M} (hk76 : ∀ (l0 : Nat) (l4 : Int32) (m : ml_M), k76 l0 l4 m = some rm → ml_V E "LostRoom$Sharings" cX7_gather 17 false m 76 [(0, ml_r l0), (4, ml_i l4)] []) : ∀ (l0 : Nat) (l4 : Int32) (m : ml_M), fX7_gather_149 k76 l0 l4 m = some rm → ml_V E "LostRoom$Sharings" cX7_gather 17 false m 149 [(0, ml_r l0), (4, ml_i l4)] [] := by
  intro l0 l4 m h
  unfold fX7_gather_149 at h
  exact ml_iinc (lv' := [(4, ml_i (l4 + (1 : Int32))), (0, ml_r l0)]) dX7_gather_149 1 rfl (congrArg (l4 + ·) kc_i1) (ml_hn hL rfl) rfl <| ml_goto dX7_gather_152 <| ml_V.sub [1, 0] rfl (hk76 _ _ _ h)
def fX7_gather_105 (k76 : Nat → Int32 → ml_M → Option ml_M) : Nat → Nat → Int32 → Int32 → ml_M → Option ml_M
  | 0, _, _, _, _ => none
  | fu + 1, l0, l4, l5, m =>
    if (64 : Int32) ≤ l5 then
    fX7_gather_149 k76 l0 l4 m
    else
    if (ml_K m l0).1 = 7 then
    ml_let (ml_R m l0 4) fun a1107 =>
    if ml_in m a1107 20 ((l4 * (64 : Int32)) + l5) then
    ml_let (ml_R m l0 4) fun a1109 =>
    if ml_in m a1109 20 (((l4 - (1 : Int32)) * (64 : Int32)) + l5) then
    if ml_in m a1107 20 ((l4 * (64 : Int32)) + l5) then
    ml_let (ml_sI m a1107 ((l4 * (64 : Int32)) + l5).toNatClampNeg ((ml_I m a1107 ((l4 * (64 : Int32)) + l5).toNatClampNeg) + (ml_I m a1109 (((l4 - (1 : Int32)) * (64 : Int32)) + l5).toNatClampNeg))) fun m1112 =>
    (fX7_gather_105 k76 fu) l0 l4 (l5 + (1 : Int32)) m1112
    else none
    else none
    else none
    else none
theorem vX7_gather_105 {E : ml_E} (hL : ml_eL E = 6) {rm : ml_M} (hr : ∀ (pc pc' : Nat) (lv : List (Nat × ml_X)), ml_d cX7_gather pc .return_ 1 pc' → True → ml_V E "LostRoom$Sharings" cX7_gather 17 false rm pc lv []) {k76 : Nat → Int32 → ml_M → Option ml_M} (hk76 : ∀ (l0 : Nat) (l4 : Int32) (m : ml_M), k76 l0 l4 m = some rm → ml_V E "LostRoom$Sharings" cX7_gather 17 false m 76 [(0, ml_r l0), (4, ml_i l4)] []) : ∀ (fu : Nat) (l0 : Nat) (l4 : Int32) (l5 : Int32) (m : ml_M), fX7_gather_105 k76 fu l0 l4 l5 m = some rm → ml_V E "LostRoom$Sharings" cX7_gather 17 false m 105 [(0, ml_r l0), (4, ml_i l4), (5, ml_i l5)] [] := by
  intro fu
  induction fu with
  | zero => intro l0 l4 l5 m h; exact ml_none h
  | succ fu ih =>
    intro l0 l4 l5 m h
    have hk105 := ih
    unfold fX7_gather_105 at h
    exact ml_iload dX7_gather_105 2 rfl <| ml_bipush dX7_gather_107 kc_b64 <| ml_icmp_ge dX7_gather_109 h (fun _ h => ml_V.sub [0, 1] rfl (vX7_gather_149 hL hr hk76 _ _ _ h)) (fun _ h => ml_aload_n dX7_gather_112 0 rfl <| ml_ck_of h fun hc1106 h => ml_getR dX7_gather_113 wb_201 hc1106 <| ml_lx (mk := ml_r) h fun a1107 h => ml_iload dX7_gather_116 1 rfl <| ml_bipush dX7_gather_118 kc_b64 <| ml_imul dX7_gather_120 <| ml_iload dX7_gather_121 2 rfl <| ml_iadd dX7_gather_123 <| ml_dup2 dX7_gather_124 rfl rfl <| ml_ck_of h fun hi1108 h => ml_iald dX7_gather_125 hi1108 <| ml_aload_n dX7_gather_126 0 rfl <| ml_getR dX7_gather_127 wb_201 hc1106 <| ml_lx (mk := ml_r) h fun a1109 h => ml_iload dX7_gather_130 1 rfl <| ml_iconst dX7_gather_132 kc_i1 <| ml_isub dX7_gather_133 <| ml_bipush dX7_gather_134 kc_b64 <| ml_imul dX7_gather_136 <| ml_iload dX7_gather_137 2 rfl <| ml_iadd dX7_gather_139 <| ml_ck_of h fun hi1110 h => ml_iald dX7_gather_140 hi1110 <| ml_iadd dX7_gather_141 <| ml_ck_of h fun hi1111 h => ml_iast dX7_gather_142 hi1111 <| ml_lt (m := m) rfl h fun m1112 em1113 h => ml_iinc (lv' := [(5, ml_i (l5 + (1 : Int32))), (0, ml_r l0), (4, ml_i l4)]) dX7_gather_143 2 rfl (congrArg (l5 + ·) kc_i1) (ml_hn hL rfl) rfl <| ml_goto dX7_gather_146 <| ml_V.sub [1, 2, 0] rfl (hk105 _ _ _ _ h))
def fX7_gather_155 (l0 : Nat) (m : ml_M) : Option ml_M :=
    if (ml_K m l0).1 = 7 then
    ml_let (ml_sI m l0 0 (0 : Int32)) fun m1115 =>
    some m1115
    else none
theorem vX7_gather_155 {E : ml_E} (hL : ml_eL E = 6) {rm : ml_M} (hr : ∀ (pc pc' : Nat) (lv : List (Nat × ml_X)), ml_d cX7_gather pc .return_ 1 pc' → True → ml_V E "LostRoom$Sharings" cX7_gather 17 false rm pc lv []) : ∀ (l0 : Nat) (m : ml_M), fX7_gather_155 l0 m = some rm → ml_V E "LostRoom$Sharings" cX7_gather 17 false m 155 [(0, ml_r l0)] [] := by
  intro l0 m h
  unfold fX7_gather_155 at h
  exact ml_aload_n dX7_gather_155 0 rfl <| ml_iconst dX7_gather_156 kc_i0 <| ml_ck_of h fun hc1114 h => ml_putZ dX7_gather_157 wb_209 hc1114 (Or.inl rfl) <| ml_lt (m := m) rfl h fun m1115 em1116 h => ml_rv hr dX7_gather_160 trivial h
def fX7_gather_76 : Nat → Nat → Int32 → ml_M → Option ml_M
  | 0, _, _, _ => none
  | fu + 1, l0, l4, m =>
    if (20 : Int32) < l4 then
    fX7_gather_155 l0 m
    else
    if (ml_K m l0).1 = 7 then
    ml_let (ml_R m l0 3) fun a1118 =>
    if ml_in m a1118 20 l4 then
    ml_let (ml_R m l0 3) fun a1120 =>
    if ml_in m a1120 20 (l4 - (1 : Int32)) then
    if ml_in m a1118 20 l4 then
    ml_let (ml_sI m a1118 l4.toNatClampNeg ((ml_I m a1118 l4.toNatClampNeg) + (ml_I m a1120 (l4 - (1 : Int32)).toNatClampNeg))) fun m1123 =>
    fX7_gather_105 (fX7_gather_76 fu) ml_fu l0 l4 (0 : Int32) m1123
    else none
    else none
    else none
    else none
theorem vX7_gather_76 {E : ml_E} (hL : ml_eL E = 6) {rm : ml_M} (hr : ∀ (pc pc' : Nat) (lv : List (Nat × ml_X)), ml_d cX7_gather pc .return_ 1 pc' → True → ml_V E "LostRoom$Sharings" cX7_gather 17 false rm pc lv []) : ∀ (fu : Nat) (l0 : Nat) (l4 : Int32) (m : ml_M), fX7_gather_76 fu l0 l4 m = some rm → ml_V E "LostRoom$Sharings" cX7_gather 17 false m 76 [(0, ml_r l0), (4, ml_i l4)] [] := by
  intro fu
  induction fu with
  | zero => intro l0 l4 m h; exact ml_none h
  | succ fu ih =>
    intro l0 l4 m h
    have hk76 := ih
    unfold fX7_gather_76 at h
    exact ml_iload dX7_gather_76 1 rfl <| ml_bipush dX7_gather_78 kc_b20 <| ml_icmp_gt dX7_gather_80 h (fun _ h => ml_V.sub [0] rfl (vX7_gather_155 hL hr  _ _ h)) (fun _ h => ml_aload_n dX7_gather_83 0 rfl <| ml_ck_of h fun hc1117 h => ml_getR dX7_gather_84 wb_202 hc1117 <| ml_lx (mk := ml_r) h fun a1118 h => ml_iload dX7_gather_87 1 rfl <| ml_dup2 dX7_gather_89 rfl rfl <| ml_ck_of h fun hi1119 h => ml_iald dX7_gather_90 hi1119 <| ml_aload_n dX7_gather_91 0 rfl <| ml_getR dX7_gather_92 wb_202 hc1117 <| ml_lx (mk := ml_r) h fun a1120 h => ml_iload dX7_gather_95 1 rfl <| ml_iconst dX7_gather_97 kc_i1 <| ml_isub dX7_gather_98 <| ml_ck_of h fun hi1121 h => ml_iald dX7_gather_99 hi1121 <| ml_iadd dX7_gather_100 <| ml_ck_of h fun hi1122 h => ml_iast dX7_gather_101 hi1122 <| ml_lt (m := m) rfl h fun m1123 em1124 h => ml_iconst dX7_gather_102 kc_i0 <| ml_istore (lv' := [(5, ml_i (0 : Int32)), (0, ml_r l0), (4, ml_i l4)]) dX7_gather_103 (ml_hn hL rfl) rfl <| ml_V.sub [1, 2, 0] rfl (vX7_gather_105 hL hr hk76 ml_fu _ _ _ _ h))
def fX7_gather (l0 : Nat) (l1 : Nat) (l2 : Nat) (l3 : Int32) (m : ml_M) : Option ml_M :=
    if (ml_K m l1).1 = 1 then
    ml_let (ml_R m l1 1) fun a1126 =>
    if (ml_K m l0).1 = 7 then
    ml_let (ml_sR m l0 5 a1126) fun m1128 =>
    ml_let (ml_sI m1128 l0 6 (ml_I m1128 l1 3)) fun m1130 =>
    ml_let (ml_sI m1130 l0 7 (ml_I m1130 l1 2)) fun m1132 =>
    ml_let (ml_R m1132 l1 0) fun a1134 =>
    ml_b1 (fX7_compareYears l0 a1134 m1132) fun m1136 =>
    if (ml_K m1136 l0).1 = 7 then
    ml_b1 (fX7_countStrangers l0 l2 l3 m1136) fun m1139 =>
    if (ml_K m1139 l0).1 = 7 then
    ml_b1 (fX7_findCovers l0 l2 l3 m1139) fun m1142 =>
    if (ml_K m1142 l0).1 = 7 then
    ml_let (ml_sI m1142 l0 1 (-9 : Int32)) fun m1144 =>
    ml_let (ml_R m1144 l0 3) fun a1146 =>
    ml_b1 (fJ7_fill_53178 a1146 (0 : Int32) m1144) fun m1148 =>
    if (ml_K m1148 l0).1 = 7 then
    ml_let (ml_R m1148 l0 4) fun a1150 =>
    ml_b1 (fJ7_fill_53178 a1150 (0 : Int32) m1148) fun m1152 =>
    ml_b1 (fX7_give 12 l0 (0 : Int32) (0 : Int32) (0 : Int32) m1152) fun m1154 =>
    fX7_gather_76 ml_fu l0 (1 : Int32) m1154
    else none
    else none
    else none
    else none
    else none
    else none
theorem wX7_gather_0 {E : ml_E} (hL : ml_eL E = 6) {rm : ml_M} (hr : ∀ (pc pc' : Nat) (lv : List (Nat × ml_X)), ml_d cX7_gather pc .return_ 1 pc' → True → ml_V E "LostRoom$Sharings" cX7_gather 17 false rm pc lv []) : ∀ (l0 : Nat) (l1 : Nat) (l2 : Nat) (l3 : Int32) (m : ml_M), fX7_gather l0 l1 l2 l3 m = some rm → ml_V E "LostRoom$Sharings" cX7_gather 17 false m 0 [(0, ml_r l0), (1, ml_r l1), (2, ml_r l2), (3, ml_i l3)] [] := by
  intro l0 l1 l2 l3 m h
  unfold fX7_gather at h
  exact ml_aload_n dX7_gather_0 0 rfl <| ml_aload_n dX7_gather_1 1 rfl <| ml_ck_of h fun hc1125 h => ml_getR dX7_gather_2 wb_210 hc1125 <| ml_lx (mk := ml_r) h fun a1126 h => ml_ck_of h fun hc1127 h => ml_putR dX7_gather_5 wb_211 hc1127 <| ml_lt (m := m) rfl h fun m1128 em1129 h => ml_aload_n dX7_gather_8 0 rfl <| ml_aload_n dX7_gather_9 1 rfl <| ml_getI dX7_gather_10 wb_212 (ml_kk em1129 hc1125) <| ml_putI dX7_gather_13 wb_213 (ml_kk em1129 hc1127) <| ml_lt (m := m1128) rfl h fun m1130 em1131 h => ml_aload_n dX7_gather_16 0 rfl <| ml_aload_n dX7_gather_17 1 rfl <| ml_getI dX7_gather_18 wb_214 (ml_kk em1131 (ml_kk em1129 hc1125)) <| ml_putI dX7_gather_21 wb_215 (ml_kk em1131 (ml_kk em1129 hc1127)) <| ml_lt (m := m1130) rfl h fun m1132 em1133 h => ml_aload_n dX7_gather_24 0 rfl <| ml_aload_n dX7_gather_25 1 rfl <| ml_getR dX7_gather_26 wb_216 (ml_kk em1133 (ml_kk em1131 (ml_kk em1129 hc1125))) <| ml_lx (mk := ml_r) h fun a1134 h => ml_b1_of h fun m1136 hv1135 h => ml_callV dX7_gather_29 wm_341 wb_217 (ml_kk em1133 (ml_kk em1131 (ml_kk em1129 hc1127))) (sX7_compareYears hv1135) rfl (Nat.le_of_ble_eq_true rfl) (Nat.le_of_ble_eq_true rfl) rfl <| ml_aload_n dX7_gather_32 0 rfl <| ml_aload_n dX7_gather_33 2 rfl <| ml_iload_n dX7_gather_34 3 rfl <| ml_ck_of h fun hc1138 h => ml_b1_of h fun m1139 hv1137 h => ml_callV dX7_gather_35 wm_345 wb_218 hc1138 (sX7_countStrangers hv1137) rfl (Nat.le_of_ble_eq_true rfl) (Nat.le_of_ble_eq_true rfl) rfl <| ml_aload_n dX7_gather_38 0 rfl <| ml_aload_n dX7_gather_39 2 rfl <| ml_iload_n dX7_gather_40 3 rfl <| ml_ck_of h fun hc1141 h => ml_b1_of h fun m1142 hv1140 h => ml_callV dX7_gather_41 wm_349 wb_219 hc1141 (sX7_findCovers hv1140) rfl (Nat.le_of_ble_eq_true rfl) (Nat.le_of_ble_eq_true rfl) rfl <| ml_aload_n dX7_gather_44 0 rfl <| ml_bipush dX7_gather_45 kc_bm9 <| ml_ck_of h fun hc1143 h => ml_putI dX7_gather_47 wb_195 hc1143 <| ml_lt (m := m1142) rfl h fun m1144 em1145 h => ml_aload_n dX7_gather_50 0 rfl <| ml_getR dX7_gather_51 wb_202 (ml_kk em1145 hc1143) <| ml_lx (mk := ml_r) h fun a1146 h => ml_iconst dX7_gather_54 kc_i0 <| ml_b1_of h fun m1148 hv1147 h => ml_callS dX7_gather_55 wm_316 wb_193 (sJ7_fill_53178 hv1147) rfl (Nat.le_of_ble_eq_true rfl) (Nat.le_of_ble_eq_true rfl) rfl <| ml_aload_n dX7_gather_58 0 rfl <| ml_ck_of h fun hc1149 h => ml_getR dX7_gather_59 wb_201 hc1149 <| ml_lx (mk := ml_r) h fun a1150 h => ml_iconst dX7_gather_62 kc_i0 <| ml_b1_of h fun m1152 hv1151 h => ml_callS dX7_gather_63 wm_316 wb_193 (sJ7_fill_53178 hv1151) rfl (Nat.le_of_ble_eq_true rfl) (Nat.le_of_ble_eq_true rfl) rfl <| ml_aload_n dX7_gather_66 0 rfl <| ml_iconst dX7_gather_67 kc_i0 <| ml_iconst dX7_gather_68 kc_i0 <| ml_iconst dX7_gather_69 kc_i0 <| ml_b1_of h fun m1154 hv1153 h => ml_callS dX7_gather_70 wm_325 wb_206 (sX7_give hv1153) rfl (Nat.le_of_ble_eq_true rfl) (Nat.le_of_ble_eq_true rfl) rfl <| ml_iconst dX7_gather_73 kc_i1 <| ml_istore (lv' := [(4, ml_i (1 : Int32)), (0, ml_r l0), (1, ml_r l1), (2, ml_r l2), (3, ml_i l3)]) dX7_gather_74 (ml_hn hL rfl) rfl <| ml_V.sub [1, 0] rfl (vX7_gather_76 hL hr  ml_fu _ _ _ h)
theorem sX7_gather {l0 : Nat} {l1 : Nat} {l2 : Nat} {l3 : Int32} {m : ml_M} {rm : ml_M} (h : fX7_gather l0 l1 l2 l3 m = some rm) : ml_Sn yX7_gather cX7_gather 6 none 17 [ml_r l0, ml_r l1, ml_r l2, ml_i l3] m none rm :=
  ml_Sn_of (P := True) (ini := false) (by decide +kernel) (Nat.le_of_ble_eq_true rfl) (fun h => by cases h) (fun _ => ml_RkV) fun E hL hr => wX7_gather_0 hL hr _ _ _ _ _ h
theorem dX10_refreshSharings_0 : ml_d cX10_refreshSharings 0 (.aload_n 0) 1 1 := ⟨by decide +kernel, rfl⟩
theorem dX10_refreshSharings_1 : ml_d cX10_refreshSharings 1 (.getfield 61) 3 4 := ⟨by decide +kernel, rfl⟩
theorem dX10_refreshSharings_4 : ml_d cX10_refreshSharings 4 (.getfield 130) 3 7 := ⟨by decide +kernel, rfl⟩
theorem dX10_refreshSharings_7 : ml_j cX10_refreshSharings 7 (.ifCond .eq) 29 10 := ⟨22, by decide +kernel, by decide, rfl⟩
theorem dX10_refreshSharings_10 : ml_d cX10_refreshSharings 10 (.aload_n 0) 1 11 := ⟨by decide +kernel, rfl⟩
theorem dX10_refreshSharings_11 : ml_d cX10_refreshSharings 11 (.getfield 61) 3 14 := ⟨by decide +kernel, rfl⟩
theorem dX10_refreshSharings_14 : ml_d cX10_refreshSharings 14 (.aload_n 0) 1 15 := ⟨by decide +kernel, rfl⟩
theorem dX10_refreshSharings_15 : ml_d cX10_refreshSharings 15 (.getfield 26) 3 18 := ⟨by decide +kernel, rfl⟩
theorem dX10_refreshSharings_18 : ml_d cX10_refreshSharings 18 (.aload_n 0) 1 19 := ⟨by decide +kernel, rfl⟩
theorem dX10_refreshSharings_19 : ml_d cX10_refreshSharings 19 (.getfield 36) 3 22 := ⟨by decide +kernel, rfl⟩
theorem dX10_refreshSharings_22 : ml_d cX10_refreshSharings 22 (.aload_n 0) 1 23 := ⟨by decide +kernel, rfl⟩
theorem dX10_refreshSharings_23 : ml_d cX10_refreshSharings 23 (.getfield 118) 3 26 := ⟨by decide +kernel, rfl⟩
theorem dX10_refreshSharings_26 : ml_d cX10_refreshSharings 26 (.invokevirtual 414) 3 29 := ⟨by decide +kernel, rfl⟩
theorem dX10_refreshSharings_29 : ml_d cX10_refreshSharings 29 (.return_) 1 30 := ⟨by decide +kernel, rfl⟩
def fX10_refreshSharings (l0 : Nat) (m : ml_M) : Option ml_M :=
    if (ml_K m l0).1 = 10 then
    ml_let (ml_R m l0 12) fun a1156 =>
    if (ml_K m a1156).1 = 7 then
    if (ml_I m a1156 0) = 0 then
    some m
    else
    ml_let (ml_R m l0 12) fun a1158 =>
    ml_let (ml_R m l0 2) fun a1159 =>
    ml_let (ml_R m l0 4) fun a1160 =>
    if (ml_K m a1158).1 = 7 then
    ml_b1 (fX7_gather a1158 a1159 a1160 (ml_I m l0 5) m) fun m1163 =>
    some m1163
    else none
    else none
    else none
theorem wX10_refreshSharings_0 {E : ml_E} (hL : ml_eL E = 1) {rm : ml_M} (hr : ∀ (pc pc' : Nat) (lv : List (Nat × ml_X)), ml_d cX10_refreshSharings pc .return_ 1 pc' → True → ml_V E "LostRoom" cX10_refreshSharings 18 false rm pc lv []) : ∀ (l0 : Nat) (m : ml_M), fX10_refreshSharings l0 m = some rm → ml_V E "LostRoom" cX10_refreshSharings 18 false m 0 [(0, ml_r l0)] [] := by
  intro l0 m h
  unfold fX10_refreshSharings at h
  exact ml_aload_n dX10_refreshSharings_0 0 rfl <| ml_ck_of h fun hc1155 h => ml_getR dX10_refreshSharings_1 wb_67 hc1155 <| ml_lx (mk := ml_r) h fun a1156 h => ml_ck_of h fun hc1157 h => ml_getI dX10_refreshSharings_4 wb_220 hc1157 <| ml_if_eq dX10_refreshSharings_7 h (fun _ h => ml_rv hr dX10_refreshSharings_29 trivial h) (fun _ h => ml_aload_n dX10_refreshSharings_10 0 rfl <| ml_getR dX10_refreshSharings_11 wb_67 hc1155 <| ml_lx (mk := ml_r) h fun a1158 h => ml_aload_n dX10_refreshSharings_14 0 rfl <| ml_getR dX10_refreshSharings_15 wb_71 hc1155 <| ml_lx (mk := ml_r) h fun a1159 h => ml_aload_n dX10_refreshSharings_18 0 rfl <| ml_getR dX10_refreshSharings_19 wb_78 hc1155 <| ml_lx (mk := ml_r) h fun a1160 h => ml_aload_n dX10_refreshSharings_22 0 rfl <| ml_getI dX10_refreshSharings_23 wb_77 hc1155 <| ml_ck_of h fun hc1162 h => ml_b1_of h fun m1163 hv1161 h => ml_callV dX10_refreshSharings_26 wm_353 wb_221 hc1162 (sX7_gather hv1161) rfl (Nat.le_of_ble_eq_true rfl) (Nat.le_of_ble_eq_true rfl) rfl <| ml_rv hr dX10_refreshSharings_29 trivial h)
theorem sX10_refreshSharings {l0 : Nat} {m : ml_M} {rm : ml_M} (h : fX10_refreshSharings l0 m = some rm) : ml_Sn yX10_refreshSharings cX10_refreshSharings 1 none 18 [ml_r l0] m none rm :=
  ml_Sn_of (P := True) (ini := false) (by decide +kernel) (Nat.le_of_ble_eq_true rfl) (fun h => by cases h) (fun _ => ml_RkV) fun E hL hr => wX10_refreshSharings_0 hL hr _ _ h
theorem dX10_share_0 : ml_d cX10_share 0 (.iload_n 1) 1 1 := ⟨by decide +kernel, rfl⟩
theorem dX10_share_1 : ml_d cX10_share 1 (.invokestatic 82) 3 4 := ⟨by decide +kernel, rfl⟩
theorem dX10_share_4 : ml_j cX10_share 4 (.ifCond .ne) 9 7 := ⟨5, by decide +kernel, by decide, rfl⟩
theorem dX10_share_7 : ml_d cX10_share 7 (.iconst (-1)) 1 8 := ⟨by decide +kernel, rfl⟩
theorem dX10_share_8 : ml_d cX10_share 8 (.ireturn) 1 9 := ⟨by decide +kernel, rfl⟩
theorem dX10_share_9 : ml_d cX10_share 9 (.aload_n 0) 1 10 := ⟨by decide +kernel, rfl⟩
theorem dX10_share_10 : ml_d cX10_share 10 (.invokevirtual 243) 3 13 := ⟨by decide +kernel, rfl⟩
theorem dX10_share_13 : ml_d cX10_share 13 (.aload_n 0) 1 14 := ⟨by decide +kernel, rfl⟩
theorem dX10_share_14 : ml_d cX10_share 14 (.getfield 61) 3 17 := ⟨by decide +kernel, rfl⟩
theorem dX10_share_17 : ml_d cX10_share 17 (.getfield 246) 3 20 := ⟨by decide +kernel, rfl⟩
theorem dX10_share_20 : ml_d cX10_share 20 (.bipush (-9)) 2 22 := ⟨by decide +kernel, rfl⟩
theorem dX10_share_22 : ml_j cX10_share 22 (.if_icmp .ne) 28 25 := ⟨6, by decide +kernel, by decide, rfl⟩
theorem dX10_share_25 : ml_d cX10_share 25 (.bipush (-9)) 2 27 := ⟨by decide +kernel, rfl⟩
theorem dX10_share_27 : ml_d cX10_share 27 (.ireturn) 1 28 := ⟨by decide +kernel, rfl⟩
theorem dX10_share_28 : ml_d cX10_share 28 (.aload_n 0) 1 29 := ⟨by decide +kernel, rfl⟩
theorem dX10_share_29 : ml_d cX10_share 29 (.getfield 11) 3 32 := ⟨by decide +kernel, rfl⟩
theorem dX10_share_32 : ml_d cX10_share 32 (.iload_n 1) 1 33 := ⟨by decide +kernel, rfl⟩
theorem dX10_share_33 : ml_d cX10_share 33 (.aload_n 0) 1 34 := ⟨by decide +kernel, rfl⟩
theorem dX10_share_34 : ml_d cX10_share 34 (.getfield 61) 3 37 := ⟨by decide +kernel, rfl⟩
theorem dX10_share_37 : ml_d cX10_share 37 (.getfield 249) 3 40 := ⟨by decide +kernel, rfl⟩
theorem dX10_share_40 : ml_d cX10_share 40 (.aload_n 0) 1 41 := ⟨by decide +kernel, rfl⟩
theorem dX10_share_41 : ml_d cX10_share 41 (.getfield 26) 3 44 := ⟨by decide +kernel, rfl⟩
theorem dX10_share_44 : ml_d cX10_share 44 (.getfield 135) 3 47 := ⟨by decide +kernel, rfl⟩
theorem dX10_share_47 : ml_d cX10_share 47 (.invokestatic 252) 3 50 := ⟨by decide +kernel, rfl⟩
theorem dX10_share_50 : ml_d cX10_share 50 (.aastore) 1 51 := ⟨by decide +kernel, rfl⟩
theorem dX10_share_51 : ml_d cX10_share 51 (.aload_n 0) 1 52 := ⟨by decide +kernel, rfl⟩
theorem dX10_share_52 : ml_d cX10_share 52 (.getfield 61) 3 55 := ⟨by decide +kernel, rfl⟩
theorem dX10_share_55 : ml_d cX10_share 55 (.getfield 246) 3 58 := ⟨by decide +kernel, rfl⟩
theorem dX10_share_58 : ml_d cX10_share 58 (.ireturn) 1 59 := ⟨by decide +kernel, rfl⟩
def fX10_share (l0 : Nat) (l1 : Int32) (m : ml_M) : Option (Int32 × ml_M) :=
    ml_b1 (fX10_isRow l1 m) fun r1165 =>
    if r1165 = 0 then
    some ((-1 : Int32), m)
    else
    if (ml_K m l0).1 = 10 then
    ml_b1 (fX10_refreshSharings l0 m) fun m1168 =>
    if (ml_K m1168 l0).1 = 10 then
    ml_let (ml_R m1168 l0 12) fun a1170 =>
    if (ml_K m1168 a1170).1 = 7 then
    if (ml_I m1168 a1170 1) = (-9 : Int32) then
    some ((-9 : Int32), m1168)
    else
    ml_let (ml_R m1168 l0 0) fun a1172 =>
    ml_let (ml_R m1168 l0 12) fun a1173 =>
    if (ml_K m1168 a1173).1 = 7 then
    ml_let (ml_R m1168 a1173 2) fun a1175 =>
    ml_let (ml_R m1168 l0 2) fun a1176 =>
    if (ml_K m1168 a1176).1 = 1 then
    ml_b2 (fJ7_copyOf_59c91 a1175 (ml_I m1168 a1176 3) m1168) fun a1179 m1180 =>
    if (ml_K m1180 a1179).1 = 20 then
    if ml_in m1180 a1172 23 l1 then
    ml_let (ml_sR m1180 a1172 l1.toNatClampNeg a1179) fun m1183 =>
    if (ml_K m1183 l0).1 = 10 then
    ml_let (ml_R m1183 l0 12) fun a1186 =>
    if (ml_K m1183 a1186).1 = 7 then
    some ((ml_I m1183 a1186 1), m1183)
    else none
    else none
    else none
    else none
    else none
    else none
    else none
    else none
    else none
theorem wX10_share_0 {E : ml_E} (hL : ml_eL E = 2) {rv : Int32} {rm : ml_M} (hr : ∀ (pc pc' : Nat) (lv : List (Nat × ml_X)), ml_d cX10_share pc .ireturn 1 pc' → True → ml_V E "LostRoom" cX10_share 19 false rm pc lv [ml_i rv]) : ∀ (l0 : Nat) (l1 : Int32) (m : ml_M), fX10_share l0 l1 m = some (rv, rm) → ml_V E "LostRoom" cX10_share 19 false m 0 [(0, ml_r l0), (1, ml_i l1)] [] := by
  intro l0 l1 m h
  unfold fX10_share at h
  exact ml_iload_n dX10_share_0 1 rfl <| ml_b1_of h fun r1165 hv1164 h => ml_callS dX10_share_1 wm_356 wb_222 (sX10_isRow hv1164) rfl (Nat.le_of_ble_eq_true rfl) (Nat.le_of_ble_eq_true rfl) rfl <| ml_if_ne dX10_share_4 h (fun _ h => ml_aload_n dX10_share_9 0 rfl <| ml_ck_of h fun hc1167 h => ml_b1_of h fun m1168 hv1166 h => ml_callV dX10_share_10 wm_360 wb_223 hc1167 (sX10_refreshSharings hv1166) rfl (Nat.le_of_ble_eq_true rfl) (Nat.le_of_ble_eq_true rfl) rfl <| ml_aload_n dX10_share_13 0 rfl <| ml_ck_of h fun hc1169 h => ml_getR dX10_share_14 wb_67 hc1169 <| ml_lx (mk := ml_r) h fun a1170 h => ml_ck_of h fun hc1171 h => ml_getI dX10_share_17 wb_224 hc1171 <| ml_bipush dX10_share_20 kc_bm9 <| ml_icmp_ne dX10_share_22 h (fun _ h => ml_aload_n dX10_share_28 0 rfl <| ml_getR dX10_share_29 wb_225 hc1169 <| ml_lx (mk := ml_r) h fun a1172 h => ml_iload_n dX10_share_32 1 rfl <| ml_aload_n dX10_share_33 0 rfl <| ml_getR dX10_share_34 wb_67 hc1169 <| ml_lx (mk := ml_r) h fun a1173 h => ml_ck_of h fun hc1174 h => ml_getR dX10_share_37 wb_226 hc1174 <| ml_lx (mk := ml_r) h fun a1175 h => ml_aload_n dX10_share_40 0 rfl <| ml_getR dX10_share_41 wb_71 hc1169 <| ml_lx (mk := ml_r) h fun a1176 h => ml_ck_of h fun hc1177 h => ml_getI dX10_share_44 wb_72 hc1177 <| ml_b2_of h fun a1179 m1180 hv1178 h => ml_callS dX10_share_47 wm_365 wb_227 (sJ7_copyOf_59c91 hv1178) rfl (Nat.le_of_ble_eq_true rfl) (Nat.le_of_ble_eq_true rfl) rfl <| ml_ck_of h fun hc1182 h => ml_ck_of h fun hi1181 h => ml_aastA (kd := 23) (ka := 20) dX10_share_50 (by decide) hi1181 hc1182 <| ml_lt (m := m1180) rfl h fun m1183 em1184 h => ml_aload_n dX10_share_51 0 rfl <| ml_ck_of h fun hc1185 h => ml_getR dX10_share_52 wb_67 hc1185 <| ml_lx (mk := ml_r) h fun a1186 h => ml_ck_of h fun hc1187 h => ml_getI dX10_share_55 wb_224 hc1187 <| ml_rI (mk := ml_i) hr dX10_share_58 (fun _ => trivial) h) (fun _ h => ml_bipush dX10_share_25 kc_bm9 <| ml_rI (mk := ml_i) hr dX10_share_27 (fun _ => trivial) h)) (fun _ h => ml_iconst dX10_share_7 kc_im1 <| ml_rI (mk := ml_i) hr dX10_share_8 (fun _ => trivial) h)
theorem sX10_share {l0 : Nat} {l1 : Int32} {m : ml_M} {rv : Int32} {rm : ml_M} (h : fX10_share l0 l1 m = some (rv, rm)) : ml_Sn yX10_share cX10_share 2 (some .int) 19 [ml_r l0, ml_i l1] m (some (ml_i rv)) rm :=
  ml_Sn_of (P := True) (ini := false) (by decide +kernel) (Nat.le_of_ble_eq_true rfl) (fun h => by cases h) (fun _ => ml_RkI rv) fun E hL hr => wX10_share_0 hL hr _ _ _ h
theorem dX10_many_0 : ml_d cX10_many 0 (.aload_n 0) 1 1 := ⟨by decide +kernel, rfl⟩
theorem dX10_many_1 : ml_d cX10_many 1 (.getfield 206) 3 4 := ⟨by decide +kernel, rfl⟩
theorem dX10_many_4 : ml_d cX10_many 4 (.lreturn) 1 5 := ⟨by decide +kernel, rfl⟩
def fX10_many (l0 : Nat) (m : ml_M) : Option Int64 :=
    if (ml_K m l0).1 = 10 then
    some (ml_J m l0 16)
    else none
theorem wX10_many_0 {E : ml_E} (hL : ml_eL E = 1) {rv : Int64} {m : ml_M} (hr : ∀ (pc pc' : Nat) (lv : List (Nat × ml_X)), ml_d cX10_many pc .lreturn 1 pc' → True → ml_V E "LostRoom" cX10_many 2 false m pc lv [ml_l rv]) : ∀ (l0 : Nat), fX10_many l0 m = some rv → ml_V E "LostRoom" cX10_many 2 false m 0 [(0, ml_r l0)] [] := by
  intro l0 h
  unfold fX10_many at h
  exact ml_aload_n dX10_many_0 0 rfl <| ml_ck_of h fun hc1188 h => ml_getJ dX10_many_1 wb_228 hc1188 <| ml_rp (mk := ml_l) hr dX10_many_4 (fun _ => trivial) h
theorem sX10_many {l0 : Nat} {m : ml_M} {rv : Int64} (h : fX10_many l0 m = some rv) : ml_Sn yX10_many cX10_many 1 (some .long) 2 [ml_r l0] m (some (ml_l rv)) m :=
  ml_Sn_of (P := True) (ini := false) (by decide +kernel) (Nat.le_of_ble_eq_true rfl) (fun h => by cases h) (fun _ => ml_RkJ rv) fun E hL hr => wX10_many_0 hL hr _ h
theorem dX10_canFollow_0 : ml_d cX10_canFollow 0 (.iload_n 1) 1 1 := ⟨by decide +kernel, rfl⟩
theorem dX10_canFollow_1 : ml_d cX10_canFollow 1 (.iload_n 2) 1 2 := ⟨by decide +kernel, rfl⟩
theorem dX10_canFollow_2 : ml_d cX10_canFollow 2 (.invokestatic 216) 3 5 := ⟨by decide +kernel, rfl⟩
theorem dX10_canFollow_5 : ml_j cX10_canFollow 5 (.ifCond .ne) 31 8 := ⟨26, by decide +kernel, by decide, rfl⟩
theorem dX10_canFollow_8 : ml_d cX10_canFollow 8 (.aload_n 0) 1 9 := ⟨by decide +kernel, rfl⟩
theorem dX10_canFollow_9 : ml_d cX10_canFollow 9 (.getfield 26) 3 12 := ⟨by decide +kernel, rfl⟩
theorem dX10_canFollow_12 : ml_d cX10_canFollow 12 (.getfield 219) 3 15 := ⟨by decide +kernel, rfl⟩
theorem dX10_canFollow_15 : ml_d cX10_canFollow 15 (.iload_n 2) 1 16 := ⟨by decide +kernel, rfl⟩
theorem dX10_canFollow_16 : ml_d cX10_canFollow 16 (.aaload) 1 17 := ⟨by decide +kernel, rfl⟩
theorem dX10_canFollow_17 : ml_d cX10_canFollow 17 (.getfield 408) 3 20 := ⟨by decide +kernel, rfl⟩
theorem dX10_canFollow_20 : ml_d cX10_canFollow 20 (.iload_n 1) 1 21 := ⟨by decide +kernel, rfl⟩
theorem dX10_canFollow_21 : ml_d cX10_canFollow 21 (.iconst (-1)) 1 22 := ⟨by decide +kernel, rfl⟩
theorem dX10_canFollow_22 : ml_d cX10_canFollow 22 (.ixor) 1 23 := ⟨by decide +kernel, rfl⟩
theorem dX10_canFollow_23 : ml_d cX10_canFollow 23 (.iand) 1 24 := ⟨by decide +kernel, rfl⟩
theorem dX10_canFollow_24 : ml_j cX10_canFollow 24 (.ifCond .ne) 31 27 := ⟨7, by decide +kernel, by decide, rfl⟩
theorem dX10_canFollow_27 : ml_d cX10_canFollow 27 (.iconst 1) 1 28 := ⟨by decide +kernel, rfl⟩
theorem dX10_canFollow_28 : ml_j cX10_canFollow 28 .goto 32 31 := ⟨4, by decide +kernel, by decide, rfl⟩
theorem dX10_canFollow_31 : ml_d cX10_canFollow 31 (.iconst 0) 1 32 := ⟨by decide +kernel, rfl⟩
theorem dX10_canFollow_32 : ml_d cX10_canFollow 32 (.ireturn) 1 33 := ⟨by decide +kernel, rfl⟩
def fX10_canFollow (l0 : Nat) (l1 : Int32) (l2 : Int32) (m : ml_M) : Option Int32 :=
    ml_b1 (fX10_has l1 l2 m) fun r1190 =>
    if r1190 = 0 then
    if (ml_K m l0).1 = 10 then
    ml_let (ml_R m l0 2) fun a1192 =>
    if (ml_K m a1192).1 = 1 then
    ml_let (ml_R m a1192 1) fun a1194 =>
    if ml_in m a1194 30 l2 then
    ml_let (ml_R m a1194 l2.toNatClampNeg) fun a1196 =>
    if (ml_K m a1196).1 = 9 then
    if ((ml_I m a1196 3) &&& (l1 ^^^ (-1 : Int32))) = 0 then
    some (1 : Int32)
    else
    some (0 : Int32)
    else none
    else none
    else none
    else none
    else
    some (0 : Int32)
theorem wX10_canFollow_0 {E : ml_E} (hL : ml_eL E = 3) {rv : Int32} {m : ml_M} (hr : ∀ (pc pc' : Nat) (lv : List (Nat × ml_X)), ml_d cX10_canFollow pc .ireturn 1 pc' → (rv = 0 ∨ rv = 1) → ml_V E "LostRoom" cX10_canFollow 3 false m pc lv [ml_i rv]) : ∀ (l0 : Nat) (l1 : Int32) (l2 : Int32), fX10_canFollow l0 l1 l2 m = some rv → ml_V E "LostRoom" cX10_canFollow 3 false m 0 [(0, ml_r l0), (1, ml_i l1), (2, ml_i l2)] [] := by
  intro l0 l1 l2 h
  unfold fX10_canFollow at h
  exact ml_iload_n dX10_canFollow_0 1 rfl <| ml_iload_n dX10_canFollow_1 2 rfl <| ml_b1_of h fun r1190 hv1189 h => ml_callS dX10_canFollow_2 wm_366 wb_190 (sX10_has hv1189) rfl (Nat.le_of_ble_eq_true rfl) (Nat.le_of_ble_eq_true rfl) rfl <| ml_if_ne dX10_canFollow_5 h (fun _ h => ml_iconst dX10_canFollow_31 kc_i0 <| ml_rp (mk := ml_i) hr dX10_canFollow_32 (fun e => Or.inl e.symm) h) (fun _ h => ml_aload_n dX10_canFollow_8 0 rfl <| ml_ck_of h fun hc1191 h => ml_getR dX10_canFollow_9 wb_71 hc1191 <| ml_lx (mk := ml_r) h fun a1192 h => ml_ck_of h fun hc1193 h => ml_getR dX10_canFollow_12 wb_180 hc1193 <| ml_lx (mk := ml_r) h fun a1194 h => ml_iload_n dX10_canFollow_15 2 rfl <| ml_ck_of h fun hi1195 h => ml_aald (kd := 30) dX10_canFollow_16 (by decide) hi1195 <| ml_lx (mk := ml_r) h fun a1196 h => ml_ck_of h fun hc1197 h => ml_getI dX10_canFollow_17 wb_229 hc1197 <| ml_iload_n dX10_canFollow_20 1 rfl <| ml_iconst dX10_canFollow_21 kc_im1 <| ml_ixor dX10_canFollow_22 <| ml_iand dX10_canFollow_23 <| ml_if_ne dX10_canFollow_24 h (fun _ h => ml_iconst dX10_canFollow_31 kc_i0 <| ml_rp (mk := ml_i) hr dX10_canFollow_32 (fun e => Or.inl e.symm) h) (fun _ h => ml_iconst dX10_canFollow_27 kc_i1 <| ml_goto dX10_canFollow_28 <| ml_rp (mk := ml_i) hr dX10_canFollow_32 (fun e => Or.inr e.symm) h))
theorem sX10_canFollow {l0 : Nat} {l1 : Int32} {l2 : Int32} {m : ml_M} {rv : Int32} (h : fX10_canFollow l0 l1 l2 m = some rv) : ml_Sn yX10_canFollow cX10_canFollow 3 (some .boolean) 3 [ml_r l0, ml_i l1, ml_i l2] m (some (ml_i rv)) m :=
  ml_Sn_of (P := (rv = 0 ∨ rv = 1)) (ini := false) (by decide +kernel) (Nat.le_of_ble_eq_true rfl) (fun h => by cases h) (fun hz => ml_RkZ rv hz) fun E hL hr => wX10_canFollow_0 hL hr _ _ _ h
theorem dX10_firstToFollow_0 : ml_d cX10_firstToFollow 0 (.iconst 0) 1 1 := ⟨by decide +kernel, rfl⟩
theorem dX10_firstToFollow_1 : ml_d cX10_firstToFollow 1 (.istore_n 2) 1 2 := ⟨by decide +kernel, rfl⟩
theorem dX10_firstToFollow_2 : ml_d cX10_firstToFollow 2 (.iload_n 2) 1 3 := ⟨by decide +kernel, rfl⟩
theorem dX10_firstToFollow_3 : ml_d cX10_firstToFollow 3 (.aload_n 0) 1 4 := ⟨by decide +kernel, rfl⟩
theorem dX10_firstToFollow_4 : ml_d cX10_firstToFollow 4 (.getfield 26) 3 7 := ⟨by decide +kernel, rfl⟩
theorem dX10_firstToFollow_7 : ml_d cX10_firstToFollow 7 (.getfield 135) 3 10 := ⟨by decide +kernel, rfl⟩
theorem dX10_firstToFollow_10 : ml_j cX10_firstToFollow 10 (.if_icmp .ge) 30 13 := ⟨20, by decide +kernel, by decide, rfl⟩
theorem dX10_firstToFollow_13 : ml_d cX10_firstToFollow 13 (.aload_n 0) 1 14 := ⟨by decide +kernel, rfl⟩
theorem dX10_firstToFollow_14 : ml_d cX10_firstToFollow 14 (.iload_n 1) 1 15 := ⟨by decide +kernel, rfl⟩
theorem dX10_firstToFollow_15 : ml_d cX10_firstToFollow 15 (.iload_n 2) 1 16 := ⟨by decide +kernel, rfl⟩
theorem dX10_firstToFollow_16 : ml_d cX10_firstToFollow 16 (.invokevirtual 411) 3 19 := ⟨by decide +kernel, rfl⟩
theorem dX10_firstToFollow_19 : ml_j cX10_firstToFollow 19 (.ifCond .eq) 24 22 := ⟨5, by decide +kernel, by decide, rfl⟩
theorem dX10_firstToFollow_22 : ml_d cX10_firstToFollow 22 (.iload_n 2) 1 23 := ⟨by decide +kernel, rfl⟩
theorem dX10_firstToFollow_23 : ml_d cX10_firstToFollow 23 (.ireturn) 1 24 := ⟨by decide +kernel, rfl⟩
theorem dX10_firstToFollow_24 : ml_d cX10_firstToFollow 24 (.iinc 2 1) 3 27 := ⟨by decide +kernel, rfl⟩
theorem dX10_firstToFollow_27 : ml_j cX10_firstToFollow 27 .goto 2 30 := ⟨(-25), by decide +kernel, by decide, rfl⟩
theorem dX10_firstToFollow_30 : ml_d cX10_firstToFollow 30 (.bipush (-9)) 2 32 := ⟨by decide +kernel, rfl⟩
theorem dX10_firstToFollow_32 : ml_d cX10_firstToFollow 32 (.ireturn) 1 33 := ⟨by decide +kernel, rfl⟩
def fX10_firstToFollow_2 : Nat → Nat → Int32 → Int32 → ml_M → Option Int32
  | 0, _, _, _, _ => none
  | fu + 1, l0, l1, l2, m =>
    if (ml_K m l0).1 = 10 then
    ml_let (ml_R m l0 2) fun a1199 =>
    if (ml_K m a1199).1 = 1 then
    if (ml_I m a1199 3) ≤ l2 then
    some (-9 : Int32)
    else
    ml_b1 (fX10_canFollow l0 l1 l2 m) fun r1202 =>
    if r1202 = 0 then
    (fX10_firstToFollow_2 fu) l0 l1 (l2 + (1 : Int32)) m
    else
    some l2
    else none
    else none
theorem vX10_firstToFollow_2 {E : ml_E} (hL : ml_eL E = 3) {rv : Int32} {m : ml_M} (hr : ∀ (pc pc' : Nat) (lv : List (Nat × ml_X)), ml_d cX10_firstToFollow pc .ireturn 1 pc' → True → ml_V E "LostRoom" cX10_firstToFollow 4 false m pc lv [ml_i rv]) : ∀ (fu : Nat) (l0 : Nat) (l1 : Int32) (l2 : Int32), fX10_firstToFollow_2 fu l0 l1 l2 m = some rv → ml_V E "LostRoom" cX10_firstToFollow 4 false m 2 [(0, ml_r l0), (1, ml_i l1), (2, ml_i l2)] [] := by
  intro fu
  induction fu with
  | zero => intro l0 l1 l2 h; exact ml_none h
  | succ fu ih =>
    intro l0 l1 l2 h
    have hk2 := ih
    unfold fX10_firstToFollow_2 at h
    exact ml_iload_n dX10_firstToFollow_2 2 rfl <| ml_aload_n dX10_firstToFollow_3 0 rfl <| ml_ck_of h fun hc1198 h => ml_getR dX10_firstToFollow_4 wb_71 hc1198 <| ml_lx (mk := ml_r) h fun a1199 h => ml_ck_of h fun hc1200 h => ml_getI dX10_firstToFollow_7 wb_72 hc1200 <| ml_icmp_ge dX10_firstToFollow_10 h (fun _ h => ml_bipush dX10_firstToFollow_30 kc_bm9 <| ml_rp (mk := ml_i) hr dX10_firstToFollow_32 (fun _ => trivial) h) (fun _ h => ml_aload_n dX10_firstToFollow_13 0 rfl <| ml_iload_n dX10_firstToFollow_14 1 rfl <| ml_iload_n dX10_firstToFollow_15 2 rfl <| ml_b1_of h fun r1202 hv1201 h => ml_callV dX10_firstToFollow_16 wm_371 wb_230 hc1198 (sX10_canFollow hv1201) rfl (Nat.le_of_ble_eq_true rfl) (Nat.le_of_ble_eq_true rfl) rfl <| ml_if_eq dX10_firstToFollow_19 h (fun _ h => ml_iinc (lv' := [(2, ml_i (l2 + (1 : Int32))), (0, ml_r l0), (1, ml_i l1)]) dX10_firstToFollow_24 2 rfl (congrArg (l2 + ·) kc_i1) (ml_hn hL rfl) rfl <| ml_goto dX10_firstToFollow_27 <| ml_V.sub [1, 2, 0] rfl (hk2 _ _ _ h)) (fun _ h => ml_iload_n dX10_firstToFollow_22 2 rfl <| ml_rp (mk := ml_i) hr dX10_firstToFollow_23 (fun _ => trivial) h))
def fX10_firstToFollow (l0 : Nat) (l1 : Int32) (m : ml_M) : Option Int32 :=
    fX10_firstToFollow_2 ml_fu l0 l1 (0 : Int32) m
theorem wX10_firstToFollow_0 {E : ml_E} (hL : ml_eL E = 3) {rv : Int32} {m : ml_M} (hr : ∀ (pc pc' : Nat) (lv : List (Nat × ml_X)), ml_d cX10_firstToFollow pc .ireturn 1 pc' → True → ml_V E "LostRoom" cX10_firstToFollow 4 false m pc lv [ml_i rv]) : ∀ (l0 : Nat) (l1 : Int32), fX10_firstToFollow l0 l1 m = some rv → ml_V E "LostRoom" cX10_firstToFollow 4 false m 0 [(0, ml_r l0), (1, ml_i l1)] [] := by
  intro l0 l1 h
  unfold fX10_firstToFollow at h
  exact ml_iconst dX10_firstToFollow_0 kc_i0 <| ml_istore_n (lv' := [(2, ml_i (0 : Int32)), (0, ml_r l0), (1, ml_i l1)]) dX10_firstToFollow_1 (ml_hn hL rfl) rfl <| ml_V.sub [1, 2, 0] rfl (vX10_firstToFollow_2 hL hr  ml_fu _ _ _ h)
theorem sX10_firstToFollow {l0 : Nat} {l1 : Int32} {m : ml_M} {rv : Int32} (h : fX10_firstToFollow l0 l1 m = some rv) : ml_Sn yX10_firstToFollow cX10_firstToFollow 3 (some .int) 4 [ml_r l0, ml_i l1] m (some (ml_i rv)) m :=
  ml_Sn_of (P := True) (ini := false) (by decide +kernel) (Nat.le_of_ble_eq_true rfl) (fun h => by cases h) (fun _ => ml_RkI rv) fun E hL hr => wX10_firstToFollow_0 hL hr _ _ h
theorem dX10_ordersOfAll_0 : ml_d cX10_ordersOfAll 0 (.aload_n 0) 1 1 := ⟨by decide +kernel, rfl⟩
theorem dX10_ordersOfAll_1 : ml_d cX10_ordersOfAll 1 (.getfield 26) 3 4 := ⟨by decide +kernel, rfl⟩
theorem dX10_ordersOfAll_4 : ml_d cX10_ordersOfAll 4 (.getfield 135) 3 7 := ⟨by decide +kernel, rfl⟩
theorem dX10_ordersOfAll_7 : ml_d cX10_ordersOfAll 7 (.istore_n 1) 1 8 := ⟨by decide +kernel, rfl⟩
theorem dX10_ordersOfAll_8 : ml_d cX10_ordersOfAll 8 (.iconst 1) 1 9 := ⟨by decide +kernel, rfl⟩
theorem dX10_ordersOfAll_9 : ml_d cX10_ordersOfAll 9 (.iload_n 1) 1 10 := ⟨by decide +kernel, rfl⟩
theorem dX10_ordersOfAll_10 : ml_d cX10_ordersOfAll 10 (.ishl) 1 11 := ⟨by decide +kernel, rfl⟩
theorem dX10_ordersOfAll_11 : ml_d cX10_ordersOfAll 11 (.newarray .int) 2 13 := ⟨by decide +kernel, rfl⟩
theorem dX10_ordersOfAll_13 : ml_d cX10_ordersOfAll 13 (.astore_n 2) 1 14 := ⟨by decide +kernel, rfl⟩
theorem dX10_ordersOfAll_14 : ml_d cX10_ordersOfAll 14 (.aload_n 2) 1 15 := ⟨by decide +kernel, rfl⟩
theorem dX10_ordersOfAll_15 : ml_d cX10_ordersOfAll 15 (.aload_n 2) 1 16 := ⟨by decide +kernel, rfl⟩
theorem dX10_ordersOfAll_16 : ml_d cX10_ordersOfAll 16 (.arraylength) 1 17 := ⟨by decide +kernel, rfl⟩
theorem dX10_ordersOfAll_17 : ml_d cX10_ordersOfAll 17 (.iconst 1) 1 18 := ⟨by decide +kernel, rfl⟩
theorem dX10_ordersOfAll_18 : ml_d cX10_ordersOfAll 18 (.isub) 1 19 := ⟨by decide +kernel, rfl⟩
theorem dX10_ordersOfAll_19 : ml_d cX10_ordersOfAll 19 (.iconst 1) 1 20 := ⟨by decide +kernel, rfl⟩
theorem dX10_ordersOfAll_20 : ml_d cX10_ordersOfAll 20 (.iastore) 1 21 := ⟨by decide +kernel, rfl⟩
theorem dX10_ordersOfAll_21 : ml_d cX10_ordersOfAll 21 (.aload_n 2) 1 22 := ⟨by decide +kernel, rfl⟩
theorem dX10_ordersOfAll_22 : ml_d cX10_ordersOfAll 22 (.arraylength) 1 23 := ⟨by decide +kernel, rfl⟩
theorem dX10_ordersOfAll_23 : ml_d cX10_ordersOfAll 23 (.iconst 2) 1 24 := ⟨by decide +kernel, rfl⟩
theorem dX10_ordersOfAll_24 : ml_d cX10_ordersOfAll 24 (.isub) 1 25 := ⟨by decide +kernel, rfl⟩
theorem dX10_ordersOfAll_25 : ml_d cX10_ordersOfAll 25 (.istore_n 3) 1 26 := ⟨by decide +kernel, rfl⟩
theorem dX10_ordersOfAll_26 : ml_d cX10_ordersOfAll 26 (.iload_n 3) 1 27 := ⟨by decide +kernel, rfl⟩
theorem dX10_ordersOfAll_27 : ml_j cX10_ordersOfAll 27 (.ifCond .lt) 75 30 := ⟨48, by decide +kernel, by decide, rfl⟩
theorem dX10_ordersOfAll_30 : ml_d cX10_ordersOfAll 30 (.iconst 0) 1 31 := ⟨by decide +kernel, rfl⟩
theorem dX10_ordersOfAll_31 : ml_d cX10_ordersOfAll 31 (.istore 4) 2 33 := ⟨by decide +kernel, rfl⟩
theorem dX10_ordersOfAll_33 : ml_d cX10_ordersOfAll 33 (.iload 4) 2 35 := ⟨by decide +kernel, rfl⟩
theorem dX10_ordersOfAll_35 : ml_d cX10_ordersOfAll 35 (.iload_n 1) 1 36 := ⟨by decide +kernel, rfl⟩
theorem dX10_ordersOfAll_36 : ml_j cX10_ordersOfAll 36 (.if_icmp .ge) 69 39 := ⟨33, by decide +kernel, by decide, rfl⟩
theorem dX10_ordersOfAll_39 : ml_d cX10_ordersOfAll 39 (.aload_n 0) 1 40 := ⟨by decide +kernel, rfl⟩
theorem dX10_ordersOfAll_40 : ml_d cX10_ordersOfAll 40 (.iload_n 3) 1 41 := ⟨by decide +kernel, rfl⟩
theorem dX10_ordersOfAll_41 : ml_d cX10_ordersOfAll 41 (.iload 4) 2 43 := ⟨by decide +kernel, rfl⟩
theorem dX10_ordersOfAll_43 : ml_d cX10_ordersOfAll 43 (.invokevirtual 411) 3 46 := ⟨by decide +kernel, rfl⟩
theorem dX10_ordersOfAll_46 : ml_j cX10_ordersOfAll 46 (.ifCond .eq) 63 49 := ⟨17, by decide +kernel, by decide, rfl⟩
theorem dX10_ordersOfAll_49 : ml_d cX10_ordersOfAll 49 (.aload_n 2) 1 50 := ⟨by decide +kernel, rfl⟩
theorem dX10_ordersOfAll_50 : ml_d cX10_ordersOfAll 50 (.iload_n 3) 1 51 := ⟨by decide +kernel, rfl⟩
theorem dX10_ordersOfAll_51 : ml_d cX10_ordersOfAll 51 (.dup2) 1 52 := ⟨by decide +kernel, rfl⟩
theorem dX10_ordersOfAll_52 : ml_d cX10_ordersOfAll 52 (.iaload) 1 53 := ⟨by decide +kernel, rfl⟩
theorem dX10_ordersOfAll_53 : ml_d cX10_ordersOfAll 53 (.aload_n 2) 1 54 := ⟨by decide +kernel, rfl⟩
theorem dX10_ordersOfAll_54 : ml_d cX10_ordersOfAll 54 (.iload_n 3) 1 55 := ⟨by decide +kernel, rfl⟩
theorem dX10_ordersOfAll_55 : ml_d cX10_ordersOfAll 55 (.iconst 1) 1 56 := ⟨by decide +kernel, rfl⟩
theorem dX10_ordersOfAll_56 : ml_d cX10_ordersOfAll 56 (.iload 4) 2 58 := ⟨by decide +kernel, rfl⟩
theorem dX10_ordersOfAll_58 : ml_d cX10_ordersOfAll 58 (.ishl) 1 59 := ⟨by decide +kernel, rfl⟩
theorem dX10_ordersOfAll_59 : ml_d cX10_ordersOfAll 59 (.ior) 1 60 := ⟨by decide +kernel, rfl⟩
theorem dX10_ordersOfAll_60 : ml_d cX10_ordersOfAll 60 (.iaload) 1 61 := ⟨by decide +kernel, rfl⟩
theorem dX10_ordersOfAll_61 : ml_d cX10_ordersOfAll 61 (.iadd) 1 62 := ⟨by decide +kernel, rfl⟩
theorem dX10_ordersOfAll_62 : ml_d cX10_ordersOfAll 62 (.iastore) 1 63 := ⟨by decide +kernel, rfl⟩
theorem dX10_ordersOfAll_63 : ml_d cX10_ordersOfAll 63 (.iinc 4 1) 3 66 := ⟨by decide +kernel, rfl⟩
theorem dX10_ordersOfAll_66 : ml_j cX10_ordersOfAll 66 .goto 33 69 := ⟨(-33), by decide +kernel, by decide, rfl⟩
theorem dX10_ordersOfAll_69 : ml_d cX10_ordersOfAll 69 (.iinc 3 (-1)) 3 72 := ⟨by decide +kernel, rfl⟩
theorem dX10_ordersOfAll_72 : ml_j cX10_ordersOfAll 72 .goto 26 75 := ⟨(-46), by decide +kernel, by decide, rfl⟩
theorem dX10_ordersOfAll_75 : ml_d cX10_ordersOfAll 75 (.aload_n 2) 1 76 := ⟨by decide +kernel, rfl⟩
theorem dX10_ordersOfAll_76 : ml_d cX10_ordersOfAll 76 (.iconst 0) 1 77 := ⟨by decide +kernel, rfl⟩
theorem dX10_ordersOfAll_77 : ml_d cX10_ordersOfAll 77 (.iaload) 1 78 := ⟨by decide +kernel, rfl⟩
theorem dX10_ordersOfAll_78 : ml_d cX10_ordersOfAll 78 (.ireturn) 1 79 := ⟨by decide +kernel, rfl⟩
def fX10_ordersOfAll_63 (k26 : Nat → Int32 → Nat → Int32 → ml_M → Option (Int32 × ml_M)) (k33 : Nat → Int32 → Nat → Int32 → Int32 → ml_M → Option (Int32 × ml_M)) (l0 : Nat) (l1 : Int32) (l2 : Nat) (l3 : Int32) (l4 : Int32) (m : ml_M) : Option (Int32 × ml_M) :=
    k33 l0 l1 l2 l3 (l4 + (1 : Int32)) m
theorem vX10_ordersOfAll_63 {E : ml_E} (hL : ml_eL E = 5) {rv : Int32} {rm : ml_M} (hr : ∀ (pc pc' : Nat) (lv : List (Nat × ml_X)), ml_d cX10_ordersOfAll pc .ireturn 1 pc' → True → ml_V E "LostRoom" cX10_ordersOfAll 4 false rm pc lv [ml_i rv]) {k26 : Nat → Int32 → Nat → Int32 → ml_M → Option (Int32 × ml_M)} (hk26 : ∀ (l0 : Nat) (l1 : Int32) (l2 : Nat) (l3 : Int32) (m : ml_M), k26 l0 l1 l2 l3 m = some (rv, rm) → ml_V E "LostRoom" cX10_ordersOfAll 4 false m 26 [(0, ml_r l0), (1, ml_i l1), (2, ml_r l2), (3, ml_i l3)] []) {k33 : Nat → Int32 → Nat → Int32 → Int32 → ml_M → Option (Int32 × ml_M)} (hk33 : ∀ (l0 : Nat) (l1 : Int32) (l2 : Nat) (l3 : Int32) (l4 : Int32) (m : ml_M), k33 l0 l1 l2 l3 l4 m = some (rv, rm) → ml_V E "LostRoom" cX10_ordersOfAll 4 false m 33 [(0, ml_r l0), (1, ml_i l1), (2, ml_r l2), (3, ml_i l3), (4, ml_i l4)] []) : ∀ (l0 : Nat) (l1 : Int32) (l2 : Nat) (l3 : Int32) (l4 : Int32) (m : ml_M), fX10_ordersOfAll_63 k26 k33 l0 l1 l2 l3 l4 m = some (rv, rm) → ml_V E "LostRoom" cX10_ordersOfAll 4 false m 63 [(0, ml_r l0), (1, ml_i l1), (2, ml_r l2), (3, ml_i l3), (4, ml_i l4)] [] := by
  intro l0 l1 l2 l3 l4 m h
  unfold fX10_ordersOfAll_63 at h
  exact ml_iinc (lv' := [(4, ml_i (l4 + (1 : Int32))), (0, ml_r l0), (1, ml_i l1), (2, ml_r l2), (3, ml_i l3)]) dX10_ordersOfAll_63 4 rfl (congrArg (l4 + ·) kc_i1) (ml_hn hL rfl) rfl <| ml_goto dX10_ordersOfAll_66 <| ml_V.sub [1, 2, 3, 4, 0] rfl (hk33 _ _ _ _ _ _ h)
def fX10_ordersOfAll_69 (k26 : Nat → Int32 → Nat → Int32 → ml_M → Option (Int32 × ml_M)) (l0 : Nat) (l1 : Int32) (l2 : Nat) (l3 : Int32) (m : ml_M) : Option (Int32 × ml_M) :=
    k26 l0 l1 l2 (l3 + (-1 : Int32)) m
theorem vX10_ordersOfAll_69 {E : ml_E} (hL : ml_eL E = 5) {rv : Int32} {rm : ml_M} (hr : ∀ (pc pc' : Nat) (lv : List (Nat × ml_X)), ml_d cX10_ordersOfAll pc .ireturn 1 pc' → True → ml_V E "LostRoom" cX10_ordersOfAll 4 false rm pc lv [ml_i rv]) {k26 : Nat → Int32 → Nat → Int32 → ml_M → Option (Int32 × ml_M)} (hk26 : ∀ (l0 : Nat) (l1 : Int32) (l2 : Nat) (l3 : Int32) (m : ml_M), k26 l0 l1 l2 l3 m = some (rv, rm) → ml_V E "LostRoom" cX10_ordersOfAll 4 false m 26 [(0, ml_r l0), (1, ml_i l1), (2, ml_r l2), (3, ml_i l3)] []) : ∀ (l0 : Nat) (l1 : Int32) (l2 : Nat) (l3 : Int32) (m : ml_M), fX10_ordersOfAll_69 k26 l0 l1 l2 l3 m = some (rv, rm) → ml_V E "LostRoom" cX10_ordersOfAll 4 false m 69 [(0, ml_r l0), (1, ml_i l1), (2, ml_r l2), (3, ml_i l3)] [] := by
  intro l0 l1 l2 l3 m h
  unfold fX10_ordersOfAll_69 at h
  exact ml_iinc (lv' := [(3, ml_i (l3 + (-1 : Int32))), (0, ml_r l0), (1, ml_i l1), (2, ml_r l2)]) dX10_ordersOfAll_69 3 rfl (congrArg (l3 + ·) kc_im1) (ml_hn hL rfl) rfl <| ml_goto dX10_ordersOfAll_72 <| ml_V.sub [1, 2, 3, 0] rfl (hk26 _ _ _ _ _ h)
def fX10_ordersOfAll_33 (k26 : Nat → Int32 → Nat → Int32 → ml_M → Option (Int32 × ml_M)) : Nat → Nat → Int32 → Nat → Int32 → Int32 → ml_M → Option (Int32 × ml_M)
  | 0, _, _, _, _, _, _ => none
  | fu + 1, l0, l1, l2, l3, l4, m =>
    if l1 ≤ l4 then
    fX10_ordersOfAll_69 k26 l0 l1 l2 l3 m
    else
    if (ml_K m l0).1 = 10 then
    ml_b1 (fX10_canFollow l0 l3 l4 m) fun r1205 =>
    if r1205 = 0 then
    fX10_ordersOfAll_63 k26 (fX10_ordersOfAll_33 k26 fu) l0 l1 l2 l3 l4 m
    else
    if ml_in m l2 20 l3 then
    if ml_in m l2 20 (l3 ||| ((1 : Int32) <<< (l4 &&& 31))) then
    if ml_in m l2 20 l3 then
    ml_let (ml_sI m l2 l3.toNatClampNeg ((ml_I m l2 l3.toNatClampNeg) + (ml_I m l2 (l3 ||| ((1 : Int32) <<< (l4 &&& 31))).toNatClampNeg))) fun m1209 =>
    fX10_ordersOfAll_63 k26 (fX10_ordersOfAll_33 k26 fu) l0 l1 l2 l3 l4 m1209
    else none
    else none
    else none
    else none
theorem vX10_ordersOfAll_33 {E : ml_E} (hL : ml_eL E = 5) {rv : Int32} {rm : ml_M} (hr : ∀ (pc pc' : Nat) (lv : List (Nat × ml_X)), ml_d cX10_ordersOfAll pc .ireturn 1 pc' → True → ml_V E "LostRoom" cX10_ordersOfAll 4 false rm pc lv [ml_i rv]) {k26 : Nat → Int32 → Nat → Int32 → ml_M → Option (Int32 × ml_M)} (hk26 : ∀ (l0 : Nat) (l1 : Int32) (l2 : Nat) (l3 : Int32) (m : ml_M), k26 l0 l1 l2 l3 m = some (rv, rm) → ml_V E "LostRoom" cX10_ordersOfAll 4 false m 26 [(0, ml_r l0), (1, ml_i l1), (2, ml_r l2), (3, ml_i l3)] []) : ∀ (fu : Nat) (l0 : Nat) (l1 : Int32) (l2 : Nat) (l3 : Int32) (l4 : Int32) (m : ml_M), fX10_ordersOfAll_33 k26 fu l0 l1 l2 l3 l4 m = some (rv, rm) → ml_V E "LostRoom" cX10_ordersOfAll 4 false m 33 [(0, ml_r l0), (1, ml_i l1), (2, ml_r l2), (3, ml_i l3), (4, ml_i l4)] [] := by
  intro fu
  induction fu with
  | zero => intro l0 l1 l2 l3 l4 m h; exact ml_none h
  | succ fu ih =>
    intro l0 l1 l2 l3 l4 m h
    have hk33 := ih
    unfold fX10_ordersOfAll_33 at h
    exact ml_iload dX10_ordersOfAll_33 4 rfl <| ml_iload_n dX10_ordersOfAll_35 1 rfl <| ml_icmp_ge dX10_ordersOfAll_36 h (fun _ h => ml_V.sub [0, 1, 2, 3] rfl (vX10_ordersOfAll_69 hL hr hk26 _ _ _ _ _ h)) (fun _ h => ml_aload_n dX10_ordersOfAll_39 0 rfl <| ml_iload_n dX10_ordersOfAll_40 3 rfl <| ml_iload dX10_ordersOfAll_41 4 rfl <| ml_ck_of h fun hc1204 h => ml_b1_of h fun r1205 hv1203 h => ml_callV dX10_ordersOfAll_43 wm_371 wb_230 hc1204 (sX10_canFollow hv1203) rfl (Nat.le_of_ble_eq_true rfl) (Nat.le_of_ble_eq_true rfl) rfl <| ml_if_eq dX10_ordersOfAll_46 h (fun _ h => ml_V.sub [0, 1, 2, 3, 4] rfl (vX10_ordersOfAll_63 hL hr hk26 hk33 _ _ _ _ _ _ h)) (fun _ h => ml_aload_n dX10_ordersOfAll_49 2 rfl <| ml_iload_n dX10_ordersOfAll_50 3 rfl <| ml_dup2 dX10_ordersOfAll_51 rfl rfl <| ml_ck_of h fun hi1206 h => ml_iald dX10_ordersOfAll_52 hi1206 <| ml_aload_n dX10_ordersOfAll_53 2 rfl <| ml_iload_n dX10_ordersOfAll_54 3 rfl <| ml_iconst dX10_ordersOfAll_55 kc_i1 <| ml_iload dX10_ordersOfAll_56 4 rfl <| ml_ishl dX10_ordersOfAll_58 <| ml_ior dX10_ordersOfAll_59 <| ml_ck_of h fun hi1207 h => ml_iald dX10_ordersOfAll_60 hi1207 <| ml_iadd dX10_ordersOfAll_61 <| ml_ck_of h fun hi1208 h => ml_iast dX10_ordersOfAll_62 hi1208 <| ml_lt (m := m) rfl h fun m1209 em1210 h => ml_V.sub [0, 1, 2, 3, 4] rfl (vX10_ordersOfAll_63 hL hr hk26 hk33 _ _ _ _ _ _ h)))
def fX10_ordersOfAll_75 (l2 : Nat) (m : ml_M) : Option (Int32 × ml_M) :=
    if ml_in m l2 20 (0 : Int32) then
    some ((ml_I m l2 (0 : Int32).toNatClampNeg), m)
    else none
theorem vX10_ordersOfAll_75 {E : ml_E} (hL : ml_eL E = 5) {rv : Int32} {rm : ml_M} (hr : ∀ (pc pc' : Nat) (lv : List (Nat × ml_X)), ml_d cX10_ordersOfAll pc .ireturn 1 pc' → True → ml_V E "LostRoom" cX10_ordersOfAll 4 false rm pc lv [ml_i rv]) : ∀ (l2 : Nat) (m : ml_M), fX10_ordersOfAll_75 l2 m = some (rv, rm) → ml_V E "LostRoom" cX10_ordersOfAll 4 false m 75 [(2, ml_r l2)] [] := by
  intro l2 m h
  unfold fX10_ordersOfAll_75 at h
  exact ml_aload_n dX10_ordersOfAll_75 0 rfl <| ml_iconst dX10_ordersOfAll_76 kc_i0 <| ml_ck_of h fun hi1211 h => ml_iald dX10_ordersOfAll_77 hi1211 <| ml_rI (mk := ml_i) hr dX10_ordersOfAll_78 (fun _ => trivial) h
def fX10_ordersOfAll_26 : Nat → Nat → Int32 → Nat → Int32 → ml_M → Option (Int32 × ml_M)
  | 0, _, _, _, _, _ => none
  | fu + 1, l0, l1, l2, l3, m =>
    if l3 < 0 then
    fX10_ordersOfAll_75 l2 m
    else
    fX10_ordersOfAll_33 (fX10_ordersOfAll_26 fu) ml_fu l0 l1 l2 l3 (0 : Int32) m
theorem vX10_ordersOfAll_26 {E : ml_E} (hL : ml_eL E = 5) {rv : Int32} {rm : ml_M} (hr : ∀ (pc pc' : Nat) (lv : List (Nat × ml_X)), ml_d cX10_ordersOfAll pc .ireturn 1 pc' → True → ml_V E "LostRoom" cX10_ordersOfAll 4 false rm pc lv [ml_i rv]) : ∀ (fu : Nat) (l0 : Nat) (l1 : Int32) (l2 : Nat) (l3 : Int32) (m : ml_M), fX10_ordersOfAll_26 fu l0 l1 l2 l3 m = some (rv, rm) → ml_V E "LostRoom" cX10_ordersOfAll 4 false m 26 [(0, ml_r l0), (1, ml_i l1), (2, ml_r l2), (3, ml_i l3)] [] := by
  intro fu
  induction fu with
  | zero => intro l0 l1 l2 l3 m h; exact ml_none h
  | succ fu ih =>
    intro l0 l1 l2 l3 m h
    have hk26 := ih
    unfold fX10_ordersOfAll_26 at h
    exact ml_iload_n dX10_ordersOfAll_26 3 rfl <| ml_if_lt dX10_ordersOfAll_27 h (fun _ h => ml_V.sub [2] rfl (vX10_ordersOfAll_75 hL hr  _ _ h)) (fun _ h => ml_iconst dX10_ordersOfAll_30 kc_i0 <| ml_istore (lv' := [(4, ml_i (0 : Int32)), (0, ml_r l0), (1, ml_i l1), (2, ml_r l2), (3, ml_i l3)]) dX10_ordersOfAll_31 (ml_hn hL rfl) rfl <| ml_V.sub [1, 2, 3, 4, 0] rfl (vX10_ordersOfAll_33 hL hr hk26 ml_fu _ _ _ _ _ _ h))
def fX10_ordersOfAll (l0 : Nat) (m : ml_M) : Option (Int32 × ml_M) :=
    if (ml_K m l0).1 = 10 then
    ml_let (ml_R m l0 2) fun a1213 =>
    if (ml_K m a1213).1 = 1 then
    ml_let (ml_I m a1213 3) fun x1215 =>
    if ml_len ((1 : Int32) <<< (x1215 &&& 31)) then
    ml_let (ml_n m + 1) fun a1217 =>
    ml_let (ml_al m 20 ((1 : Int32) <<< (x1215 &&& 31)).toNatClampNeg ((1 : Int32) <<< (x1215 &&& 31)).toNatClampNeg) fun m1218 =>
    if ml_in m1218 a1217 20 ((Int32.ofNat (ml_K m1218 a1217).2) - (1 : Int32)) then
    ml_let (ml_sI m1218 a1217 ((Int32.ofNat (ml_K m1218 a1217).2) - (1 : Int32)).toNatClampNeg (1 : Int32)) fun m1222 =>
    ml_let ((Int32.ofNat (ml_K m1222 a1217).2) - (2 : Int32)) fun x1224 =>
    fX10_ordersOfAll_26 ml_fu l0 x1215 a1217 x1224 m1222
    else none
    else none
    else none
    else none
theorem wX10_ordersOfAll_0 {E : ml_E} (hL : ml_eL E = 5) {rv : Int32} {rm : ml_M} (hr : ∀ (pc pc' : Nat) (lv : List (Nat × ml_X)), ml_d cX10_ordersOfAll pc .ireturn 1 pc' → True → ml_V E "LostRoom" cX10_ordersOfAll 4 false rm pc lv [ml_i rv]) : ∀ (l0 : Nat) (m : ml_M), fX10_ordersOfAll l0 m = some (rv, rm) → ml_V E "LostRoom" cX10_ordersOfAll 4 false m 0 [(0, ml_r l0)] [] := by
  intro l0 m h
  unfold fX10_ordersOfAll at h
  exact ml_aload_n dX10_ordersOfAll_0 0 rfl <| ml_ck_of h fun hc1212 h => ml_getR dX10_ordersOfAll_1 wb_71 hc1212 <| ml_lx (mk := ml_r) h fun a1213 h => ml_ck_of h fun hc1214 h => ml_getI dX10_ordersOfAll_4 wb_72 hc1214 <| ml_lx (mk := ml_i) h fun x1215 h => ml_istore_n (lv' := [(1, ml_i x1215), (0, ml_r l0)]) dX10_ordersOfAll_7 (ml_hn hL rfl) rfl <| ml_iconst dX10_ordersOfAll_8 kc_i1 <| ml_iload_n dX10_ordersOfAll_9 0 rfl <| ml_ishl dX10_ordersOfAll_10 <| ml_ck_of h fun hl1216 h => ml_newAs (kd := 20) dX10_ordersOfAll_11 wb_0 hl1216 h fun a1217 m1218 hn1219 hc1220 h => ml_astore_n (lv' := [(2, ml_r a1217), (1, ml_i x1215), (0, ml_r l0)]) dX10_ordersOfAll_13 (ml_hn hL rfl) rfl <| ml_aload_n dX10_ordersOfAll_14 0 rfl <| ml_aload_n dX10_ordersOfAll_15 0 rfl <| ml_alen (kd := 20) dX10_ordersOfAll_16 (by decide) hc1220 <| ml_iconst dX10_ordersOfAll_17 kc_i1 <| ml_isub dX10_ordersOfAll_18 <| ml_iconst dX10_ordersOfAll_19 kc_i1 <| ml_ck_of h fun hi1221 h => ml_iast dX10_ordersOfAll_20 hi1221 <| ml_lt (m := m1218) rfl h fun m1222 em1223 h => ml_aload_n dX10_ordersOfAll_21 0 rfl <| ml_alen (kd := 20) dX10_ordersOfAll_22 (by decide) (ml_kk em1223 hi1221.1) <| ml_iconst dX10_ordersOfAll_23 kc_i2 <| ml_isub dX10_ordersOfAll_24 <| ml_lx (mk := ml_i) h fun x1224 h => ml_istore_n (lv' := [(3, ml_i x1224), (2, ml_r a1217), (1, ml_i x1215), (0, ml_r l0)]) dX10_ordersOfAll_25 (ml_hn hL rfl) rfl <| ml_V.sub [3, 2, 1, 0] rfl (vX10_ordersOfAll_26 hL hr  ml_fu _ _ _ _ _ h)
theorem sX10_ordersOfAll {l0 : Nat} {m : ml_M} {rv : Int32} {rm : ml_M} (h : fX10_ordersOfAll l0 m = some (rv, rm)) : ml_Sn yX10_ordersOfAll cX10_ordersOfAll 5 (some .int) 4 [ml_r l0] m (some (ml_i rv)) rm :=
  ml_Sn_of (P := True) (ini := false) (by decide +kernel) (Nat.le_of_ble_eq_true rfl) (fun h => by cases h) (fun _ => ml_RkI rv) fun E hL hr => wX10_ordersOfAll_0 hL hr _ _ h
theorem dX10_piling_0 : ml_d cX10_piling 0 (.iload_n 1) 1 1 := ⟨by decide +kernel, rfl⟩
theorem dX10_piling_1 : ml_d cX10_piling 1 (.invokestatic 82) 3 4 := ⟨by decide +kernel, rfl⟩
theorem dX10_piling_4 : ml_j cX10_piling 4 (.ifCond .ne) 9 7 := ⟨5, by decide +kernel, by decide, rfl⟩
theorem dX10_piling_7 : ml_d cX10_piling 7 (.iconst (-1)) 1 8 := ⟨by decide +kernel, rfl⟩
theorem dX10_piling_8 : ml_d cX10_piling 8 (.ireturn) 1 9 := ⟨by decide +kernel, rfl⟩
theorem dX10_piling_9 : ml_d cX10_piling 9 (.aload_n 0) 1 10 := ⟨by decide +kernel, rfl⟩
theorem dX10_piling_10 : ml_d cX10_piling 10 (.getfield 26) 3 13 := ⟨by decide +kernel, rfl⟩
theorem dX10_piling_13 : ml_d cX10_piling 13 (.getfield 135) 3 16 := ⟨by decide +kernel, rfl⟩
theorem dX10_piling_16 : ml_d cX10_piling 16 (.newarray .int) 2 18 := ⟨by decide +kernel, rfl⟩
theorem dX10_piling_18 : ml_d cX10_piling 18 (.astore_n 2) 1 19 := ⟨by decide +kernel, rfl⟩
theorem dX10_piling_19 : ml_d cX10_piling 19 (.iconst 0) 1 20 := ⟨by decide +kernel, rfl⟩
theorem dX10_piling_20 : ml_d cX10_piling 20 (.istore_n 3) 1 21 := ⟨by decide +kernel, rfl⟩
theorem dX10_piling_21 : ml_d cX10_piling 21 (.iconst 0) 1 22 := ⟨by decide +kernel, rfl⟩
theorem dX10_piling_22 : ml_d cX10_piling 22 (.istore 4) 2 24 := ⟨by decide +kernel, rfl⟩
theorem dX10_piling_24 : ml_d cX10_piling 24 (.iload 4) 2 26 := ⟨by decide +kernel, rfl⟩
theorem dX10_piling_26 : ml_d cX10_piling 26 (.aload_n 2) 1 27 := ⟨by decide +kernel, rfl⟩
theorem dX10_piling_27 : ml_d cX10_piling 27 (.arraylength) 1 28 := ⟨by decide +kernel, rfl⟩
theorem dX10_piling_28 : ml_j cX10_piling 28 (.if_icmp .ge) 67 31 := ⟨39, by decide +kernel, by decide, rfl⟩
theorem dX10_piling_31 : ml_d cX10_piling 31 (.aload_n 0) 1 32 := ⟨by decide +kernel, rfl⟩
theorem dX10_piling_32 : ml_d cX10_piling 32 (.iload_n 3) 1 33 := ⟨by decide +kernel, rfl⟩
theorem dX10_piling_33 : ml_d cX10_piling 33 (.invokevirtual 236) 3 36 := ⟨by decide +kernel, rfl⟩
theorem dX10_piling_36 : ml_d cX10_piling 36 (.istore 5) 2 38 := ⟨by decide +kernel, rfl⟩
theorem dX10_piling_38 : ml_d cX10_piling 38 (.iload 5) 2 40 := ⟨by decide +kernel, rfl⟩
theorem dX10_piling_40 : ml_d cX10_piling 40 (.bipush (-9)) 2 42 := ⟨by decide +kernel, rfl⟩
theorem dX10_piling_42 : ml_j cX10_piling 42 (.if_icmp .ne) 48 45 := ⟨6, by decide +kernel, by decide, rfl⟩
theorem dX10_piling_45 : ml_d cX10_piling 45 (.bipush (-9)) 2 47 := ⟨by decide +kernel, rfl⟩
theorem dX10_piling_47 : ml_d cX10_piling 47 (.ireturn) 1 48 := ⟨by decide +kernel, rfl⟩
theorem dX10_piling_48 : ml_d cX10_piling 48 (.aload_n 2) 1 49 := ⟨by decide +kernel, rfl⟩
theorem dX10_piling_49 : ml_d cX10_piling 49 (.iload 4) 2 51 := ⟨by decide +kernel, rfl⟩
theorem dX10_piling_51 : ml_d cX10_piling 51 (.iload 5) 2 53 := ⟨by decide +kernel, rfl⟩
theorem dX10_piling_53 : ml_d cX10_piling 53 (.iastore) 1 54 := ⟨by decide +kernel, rfl⟩
theorem dX10_piling_54 : ml_d cX10_piling 54 (.iload_n 3) 1 55 := ⟨by decide +kernel, rfl⟩
theorem dX10_piling_55 : ml_d cX10_piling 55 (.iconst 1) 1 56 := ⟨by decide +kernel, rfl⟩
theorem dX10_piling_56 : ml_d cX10_piling 56 (.iload 5) 2 58 := ⟨by decide +kernel, rfl⟩
theorem dX10_piling_58 : ml_d cX10_piling 58 (.ishl) 1 59 := ⟨by decide +kernel, rfl⟩
theorem dX10_piling_59 : ml_d cX10_piling 59 (.ior) 1 60 := ⟨by decide +kernel, rfl⟩
theorem dX10_piling_60 : ml_d cX10_piling 60 (.istore_n 3) 1 61 := ⟨by decide +kernel, rfl⟩
theorem dX10_piling_61 : ml_d cX10_piling 61 (.iinc 4 1) 3 64 := ⟨by decide +kernel, rfl⟩
theorem dX10_piling_64 : ml_j cX10_piling 64 .goto 24 67 := ⟨(-40), by decide +kernel, by decide, rfl⟩
theorem dX10_piling_67 : ml_d cX10_piling 67 (.aload_n 0) 1 68 := ⟨by decide +kernel, rfl⟩
theorem dX10_piling_68 : ml_d cX10_piling 68 (.getfield 11) 3 71 := ⟨by decide +kernel, rfl⟩
theorem dX10_piling_71 : ml_d cX10_piling 71 (.iload_n 1) 1 72 := ⟨by decide +kernel, rfl⟩
theorem dX10_piling_72 : ml_d cX10_piling 72 (.aload_n 2) 1 73 := ⟨by decide +kernel, rfl⟩
theorem dX10_piling_73 : ml_d cX10_piling 73 (.aastore) 1 74 := ⟨by decide +kernel, rfl⟩
theorem dX10_piling_74 : ml_d cX10_piling 74 (.aload_n 0) 1 75 := ⟨by decide +kernel, rfl⟩
theorem dX10_piling_75 : ml_d cX10_piling 75 (.invokevirtual 239) 3 78 := ⟨by decide +kernel, rfl⟩
theorem dX10_piling_78 : ml_d cX10_piling 78 (.ireturn) 1 79 := ⟨by decide +kernel, rfl⟩
def fX10_piling_67 (l0 : Nat) (l1 : Int32) (l2 : Nat) (m : ml_M) : Option (Int32 × ml_M) :=
    if (ml_K m l0).1 = 10 then
    ml_let (ml_R m l0 0) fun a1226 =>
    if (ml_K m l2).1 = 20 then
    if ml_in m a1226 23 l1 then
    ml_let (ml_sR m a1226 l1.toNatClampNeg l2) fun m1229 =>
    ml_b2 (fX10_ordersOfAll l0 m1229) fun r1232 m1233 =>
    some (r1232, m1233)
    else none
    else none
    else none
theorem vX10_piling_67 {E : ml_E} (hL : ml_eL E = 6) {rv : Int32} {rm : ml_M} (hr : ∀ (pc pc' : Nat) (lv : List (Nat × ml_X)), ml_d cX10_piling pc .ireturn 1 pc' → True → ml_V E "LostRoom" cX10_piling 5 false rm pc lv [ml_i rv]) : ∀ (l0 : Nat) (l1 : Int32) (l2 : Nat) (m : ml_M), fX10_piling_67 l0 l1 l2 m = some (rv, rm) → ml_V E "LostRoom" cX10_piling 5 false m 67 [(0, ml_r l0), (1, ml_i l1), (2, ml_r l2)] [] := by
  intro l0 l1 l2 m h
  unfold fX10_piling_67 at h
  exact ml_aload_n dX10_piling_67 0 rfl <| ml_ck_of h fun hc1225 h => ml_getR dX10_piling_68 wb_225 hc1225 <| ml_lx (mk := ml_r) h fun a1226 h => ml_iload_n dX10_piling_71 1 rfl <| ml_aload_n dX10_piling_72 2 rfl <| ml_ck_of h fun hc1228 h => ml_ck_of h fun hi1227 h => ml_aastA (kd := 23) (ka := 20) dX10_piling_73 (by decide) hi1227 hc1228 <| ml_lt (m := m) rfl h fun m1229 em1230 h => ml_aload_n dX10_piling_74 0 rfl <| ml_b2_of h fun r1232 m1233 hv1231 h => ml_callV dX10_piling_75 wm_375 wb_231 (ml_kk em1230 hc1225) (sX10_ordersOfAll hv1231) rfl (Nat.le_of_ble_eq_true rfl) (Nat.le_of_ble_eq_true rfl) rfl <| ml_rI (mk := ml_i) hr dX10_piling_78 (fun _ => trivial) h
def fX10_piling_24 : Nat → Nat → Int32 → Nat → Int32 → Int32 → ml_M → Option (Int32 × ml_M)
  | 0, _, _, _, _, _, _ => none
  | fu + 1, l0, l1, l2, l3, l4, m =>
    if (ml_K m l2).1 = 20 then
    if (Int32.ofNat (ml_K m l2).2) ≤ l4 then
    fX10_piling_67 l0 l1 l2 m
    else
    if (ml_K m l0).1 = 10 then
    ml_b1 (fX10_firstToFollow l0 l3 m) fun r1237 =>
    if r1237 = (-9 : Int32) then
    some ((-9 : Int32), m)
    else
    if ml_in m l2 20 l4 then
    ml_let (ml_sI m l2 l4.toNatClampNeg r1237) fun m1239 =>
    ml_let (l3 ||| ((1 : Int32) <<< (r1237 &&& 31))) fun x1241 =>
    (fX10_piling_24 fu) l0 l1 l2 x1241 (l4 + (1 : Int32)) m1239
    else none
    else none
    else none
theorem vX10_piling_24 {E : ml_E} (hL : ml_eL E = 6) {rv : Int32} {rm : ml_M} (hr : ∀ (pc pc' : Nat) (lv : List (Nat × ml_X)), ml_d cX10_piling pc .ireturn 1 pc' → True → ml_V E "LostRoom" cX10_piling 5 false rm pc lv [ml_i rv]) : ∀ (fu : Nat) (l0 : Nat) (l1 : Int32) (l2 : Nat) (l3 : Int32) (l4 : Int32) (m : ml_M), fX10_piling_24 fu l0 l1 l2 l3 l4 m = some (rv, rm) → ml_V E "LostRoom" cX10_piling 5 false m 24 [(0, ml_r l0), (1, ml_i l1), (2, ml_r l2), (3, ml_i l3), (4, ml_i l4)] [] := by
  intro fu
  induction fu with
  | zero => intro l0 l1 l2 l3 l4 m h; exact ml_none h
  | succ fu ih =>
    intro l0 l1 l2 l3 l4 m h
    have hk24 := ih
    unfold fX10_piling_24 at h
    exact ml_iload dX10_piling_24 4 rfl <| ml_aload_n dX10_piling_26 2 rfl <| ml_ck_of h fun hc1234 h => ml_alen (kd := 20) dX10_piling_27 (by decide) hc1234 <| ml_icmp_ge dX10_piling_28 h (fun _ h => ml_V.sub [0, 1, 2] rfl (vX10_piling_67 hL hr  _ _ _ _ h)) (fun _ h => ml_aload_n dX10_piling_31 0 rfl <| ml_iload_n dX10_piling_32 3 rfl <| ml_ck_of h fun hc1236 h => ml_b1_of h fun r1237 hv1235 h => ml_callV dX10_piling_33 wm_379 wb_232 hc1236 (sX10_firstToFollow hv1235) rfl (Nat.le_of_ble_eq_true rfl) (Nat.le_of_ble_eq_true rfl) rfl <| ml_istore (lv' := [(5, ml_i r1237), (0, ml_r l0), (1, ml_i l1), (2, ml_r l2), (3, ml_i l3), (4, ml_i l4)]) dX10_piling_36 (ml_hn hL rfl) rfl <| ml_iload dX10_piling_38 0 rfl <| ml_bipush dX10_piling_40 kc_bm9 <| ml_icmp_ne dX10_piling_42 h (fun _ h => ml_aload_n dX10_piling_48 3 rfl <| ml_iload dX10_piling_49 5 rfl <| ml_iload dX10_piling_51 0 rfl <| ml_ck_of h fun hi1238 h => ml_iast dX10_piling_53 hi1238 <| ml_lt (m := m) rfl h fun m1239 em1240 h => ml_iload_n dX10_piling_54 4 rfl <| ml_iconst dX10_piling_55 kc_i1 <| ml_iload dX10_piling_56 0 rfl <| ml_ishl dX10_piling_58 <| ml_ior dX10_piling_59 <| ml_lx (mk := ml_i) h fun x1241 h => ml_istore_n (lv' := [(3, ml_i x1241), (5, ml_i r1237), (0, ml_r l0), (1, ml_i l1), (2, ml_r l2), (4, ml_i l4)]) dX10_piling_60 (ml_hn hL rfl) rfl <| ml_iinc (lv' := [(4, ml_i (l4 + (1 : Int32))), (3, ml_i x1241), (5, ml_i r1237), (0, ml_r l0), (1, ml_i l1), (2, ml_r l2)]) dX10_piling_61 5 rfl (congrArg (l4 + ·) kc_i1) (ml_hn hL rfl) rfl <| ml_goto dX10_piling_64 <| ml_V.sub [3, 4, 5, 1, 0] rfl (hk24 _ _ _ _ _ _ h)) (fun _ h => ml_bipush dX10_piling_45 kc_bm9 <| ml_rI (mk := ml_i) hr dX10_piling_47 (fun _ => trivial) h))
def fX10_piling (l0 : Nat) (l1 : Int32) (m : ml_M) : Option (Int32 × ml_M) :=
    ml_b1 (fX10_isRow l1 m) fun r1243 =>
    if r1243 = 0 then
    some ((-1 : Int32), m)
    else
    if (ml_K m l0).1 = 10 then
    ml_let (ml_R m l0 2) fun a1245 =>
    if (ml_K m a1245).1 = 1 then
    if ml_len (ml_I m a1245 3) then
    ml_let (ml_n m + 1) fun a1248 =>
    ml_let (ml_al m 20 (ml_I m a1245 3).toNatClampNeg (ml_I m a1245 3).toNatClampNeg) fun m1249 =>
    fX10_piling_24 ml_fu l0 l1 a1248 (0 : Int32) (0 : Int32) m1249
    else none
    else none
    else none
theorem wX10_piling_0 {E : ml_E} (hL : ml_eL E = 6) {rv : Int32} {rm : ml_M} (hr : ∀ (pc pc' : Nat) (lv : List (Nat × ml_X)), ml_d cX10_piling pc .ireturn 1 pc' → True → ml_V E "LostRoom" cX10_piling 5 false rm pc lv [ml_i rv]) : ∀ (l0 : Nat) (l1 : Int32) (m : ml_M), fX10_piling l0 l1 m = some (rv, rm) → ml_V E "LostRoom" cX10_piling 5 false m 0 [(0, ml_r l0), (1, ml_i l1)] [] := by
  intro l0 l1 m h
  unfold fX10_piling at h
  exact ml_iload_n dX10_piling_0 1 rfl <| ml_b1_of h fun r1243 hv1242 h => ml_callS dX10_piling_1 wm_356 wb_222 (sX10_isRow hv1242) rfl (Nat.le_of_ble_eq_true rfl) (Nat.le_of_ble_eq_true rfl) rfl <| ml_if_ne dX10_piling_4 h (fun _ h => ml_aload_n dX10_piling_9 0 rfl <| ml_ck_of h fun hc1244 h => ml_getR dX10_piling_10 wb_71 hc1244 <| ml_lx (mk := ml_r) h fun a1245 h => ml_ck_of h fun hc1246 h => ml_getI dX10_piling_13 wb_72 hc1246 <| ml_ck_of h fun hl1247 h => ml_newAs (kd := 20) dX10_piling_16 wb_0 hl1247 h fun a1248 m1249 hn1250 hc1251 h => ml_astore_n (lv' := [(2, ml_r a1248), (0, ml_r l0), (1, ml_i l1)]) dX10_piling_18 (ml_hn hL rfl) rfl <| ml_iconst dX10_piling_19 kc_i0 <| ml_istore_n (lv' := [(3, ml_i (0 : Int32)), (2, ml_r a1248), (0, ml_r l0), (1, ml_i l1)]) dX10_piling_20 (ml_hn hL rfl) rfl <| ml_iconst dX10_piling_21 kc_i0 <| ml_istore (lv' := [(4, ml_i (0 : Int32)), (3, ml_i (0 : Int32)), (2, ml_r a1248), (0, ml_r l0), (1, ml_i l1)]) dX10_piling_22 (ml_hn hL rfl) rfl <| ml_V.sub [3, 4, 2, 1, 0] rfl (vX10_piling_24 hL hr  ml_fu _ _ _ _ _ _ h)) (fun _ h => ml_iconst dX10_piling_7 kc_im1 <| ml_rI (mk := ml_i) hr dX10_piling_8 (fun _ => trivial) h)
theorem sX10_piling {l0 : Nat} {l1 : Int32} {m : ml_M} {rv : Int32} {rm : ml_M} (h : fX10_piling l0 l1 m = some (rv, rm)) : ml_Sn yX10_piling cX10_piling 6 (some .int) 5 [ml_r l0, ml_i l1] m (some (ml_i rv)) rm :=
  ml_Sn_of (P := True) (ini := false) (by decide +kernel) (Nat.le_of_ble_eq_true rfl) (fun h => by cases h) (fun _ => ml_RkI rv) fun E hL hr => wX10_piling_0 hL hr _ _ _ h
theorem dX10_strange_0 : ml_d cX10_strange 0 (.iconst 0) 1 1 := ⟨by decide +kernel, rfl⟩
theorem dX10_strange_1 : ml_d cX10_strange 1 (.istore_n 1) 1 2 := ⟨by decide +kernel, rfl⟩
theorem dX10_strange_2 : ml_d cX10_strange 2 (.bipush (-9)) 2 4 := ⟨by decide +kernel, rfl⟩
theorem dX10_strange_4 : ml_d cX10_strange 4 (.istore_n 2) 1 5 := ⟨by decide +kernel, rfl⟩
theorem dX10_strange_5 : ml_d cX10_strange 5 (.iconst 0) 1 6 := ⟨by decide +kernel, rfl⟩
theorem dX10_strange_6 : ml_d cX10_strange 6 (.istore_n 3) 1 7 := ⟨by decide +kernel, rfl⟩
theorem dX10_strange_7 : ml_d cX10_strange 7 (.iload_n 3) 1 8 := ⟨by decide +kernel, rfl⟩
theorem dX10_strange_8 : ml_d cX10_strange 8 (.aload_n 0) 1 9 := ⟨by decide +kernel, rfl⟩
theorem dX10_strange_9 : ml_d cX10_strange 9 (.getfield 118) 3 12 := ⟨by decide +kernel, rfl⟩
theorem dX10_strange_12 : ml_j cX10_strange 12 (.if_icmp .ge) 89 15 := ⟨77, by decide +kernel, by decide, rfl⟩
theorem dX10_strange_15 : ml_d cX10_strange 15 (.aload_n 0) 1 16 := ⟨by decide +kernel, rfl⟩
theorem dX10_strange_16 : ml_d cX10_strange 16 (.getfield 36) 3 19 := ⟨by decide +kernel, rfl⟩
theorem dX10_strange_19 : ml_d cX10_strange 19 (.iload_n 3) 1 20 := ⟨by decide +kernel, rfl⟩
theorem dX10_strange_20 : ml_d cX10_strange 20 (.aaload) 1 21 := ⟨by decide +kernel, rfl⟩
theorem dX10_strange_21 : ml_d cX10_strange 21 (.astore 4) 2 23 := ⟨by decide +kernel, rfl⟩
theorem dX10_strange_23 : ml_d cX10_strange 23 (.aload 4) 2 25 := ⟨by decide +kernel, rfl⟩
theorem dX10_strange_25 : ml_d cX10_strange 25 (.getfield 210) 3 28 := ⟨by decide +kernel, rfl⟩
theorem dX10_strange_28 : ml_d cX10_strange 28 (.iconst 5) 1 29 := ⟨by decide +kernel, rfl⟩
theorem dX10_strange_29 : ml_j cX10_strange 29 (.if_icmp .ne) 83 32 := ⟨54, by decide +kernel, by decide, rfl⟩
theorem dX10_strange_32 : ml_d cX10_strange 32 (.aload 4) 2 34 := ⟨by decide +kernel, rfl⟩
theorem dX10_strange_34 : ml_d cX10_strange 34 (.getfield 175) 3 37 := ⟨by decide +kernel, rfl⟩
theorem dX10_strange_37 : ml_d cX10_strange 37 (.bipush (-9)) 2 39 := ⟨by decide +kernel, rfl⟩
theorem dX10_strange_39 : ml_j cX10_strange 39 (.if_icmp .ne) 45 42 := ⟨6, by decide +kernel, by decide, rfl⟩
theorem dX10_strange_42 : ml_j cX10_strange 42 .goto 83 45 := ⟨41, by decide +kernel, by decide, rfl⟩
theorem dX10_strange_45 : ml_d cX10_strange 45 (.aload_n 0) 1 46 := ⟨by decide +kernel, rfl⟩
theorem dX10_strange_46 : ml_d cX10_strange 46 (.aload 4) 2 48 := ⟨by decide +kernel, rfl⟩
theorem dX10_strange_48 : ml_d cX10_strange 48 (.invokevirtual 213) 3 51 := ⟨by decide +kernel, rfl⟩
theorem dX10_strange_51 : ml_d cX10_strange 51 (.istore 5) 2 53 := ⟨by decide +kernel, rfl⟩
theorem dX10_strange_53 : ml_d cX10_strange 53 (.iload 5) 2 55 := ⟨by decide +kernel, rfl⟩
theorem dX10_strange_55 : ml_j cX10_strange 55 (.ifCond .eq) 83 58 := ⟨28, by decide +kernel, by decide, rfl⟩
theorem dX10_strange_58 : ml_d cX10_strange 58 (.iload 5) 2 60 := ⟨by decide +kernel, rfl⟩
theorem dX10_strange_60 : ml_d cX10_strange 60 (.aload 4) 2 62 := ⟨by decide +kernel, rfl⟩
theorem dX10_strange_62 : ml_d cX10_strange 62 (.getfield 175) 3 65 := ⟨by decide +kernel, rfl⟩
theorem dX10_strange_65 : ml_d cX10_strange 65 (.invokestatic 216) 3 68 := ⟨by decide +kernel, rfl⟩
theorem dX10_strange_68 : ml_j cX10_strange 68 (.ifCond .eq) 74 71 := ⟨6, by decide +kernel, by decide, rfl⟩
theorem dX10_strange_71 : ml_j cX10_strange 71 .goto 83 74 := ⟨12, by decide +kernel, by decide, rfl⟩
theorem dX10_strange_74 : ml_d cX10_strange 74 (.iload_n 1) 1 75 := ⟨by decide +kernel, rfl⟩
theorem dX10_strange_75 : ml_j cX10_strange 75 (.ifCond .ne) 80 78 := ⟨5, by decide +kernel, by decide, rfl⟩
theorem dX10_strange_78 : ml_d cX10_strange 78 (.iload_n 3) 1 79 := ⟨by decide +kernel, rfl⟩
theorem dX10_strange_79 : ml_d cX10_strange 79 (.istore_n 2) 1 80 := ⟨by decide +kernel, rfl⟩
theorem dX10_strange_80 : ml_d cX10_strange 80 (.iinc 1 1) 3 83 := ⟨by decide +kernel, rfl⟩
theorem dX10_strange_83 : ml_d cX10_strange 83 (.iinc 3 1) 3 86 := ⟨by decide +kernel, rfl⟩
theorem dX10_strange_86 : ml_j cX10_strange 86 .goto 7 89 := ⟨(-79), by decide +kernel, by decide, rfl⟩
theorem dX10_strange_89 : ml_d cX10_strange 89 (.aload_n 0) 1 90 := ⟨by decide +kernel, rfl⟩
theorem dX10_strange_90 : ml_d cX10_strange 90 (.iload_n 2) 1 91 := ⟨by decide +kernel, rfl⟩
theorem dX10_strange_91 : ml_d cX10_strange 91 (.putfield 203) 3 94 := ⟨by decide +kernel, rfl⟩
theorem dX10_strange_94 : ml_d cX10_strange 94 (.iload_n 1) 1 95 := ⟨by decide +kernel, rfl⟩
theorem dX10_strange_95 : ml_d cX10_strange 95 (.ireturn) 1 96 := ⟨by decide +kernel, rfl⟩
def fX10_strange_83 (k7 : Nat → Int32 → Int32 → Int32 → ml_M → Option (Int32 × ml_M)) (l0 : Nat) (l1 : Int32) (l2 : Int32) (l3 : Int32) (m : ml_M) : Option (Int32 × ml_M) :=
    k7 l0 l1 l2 (l3 + (1 : Int32)) m
theorem vX10_strange_83 {E : ml_E} (hL : ml_eL E = 6) {rv : Int32} {rm : ml_M} (hr : ∀ (pc pc' : Nat) (lv : List (Nat × ml_X)), ml_d cX10_strange pc .ireturn 1 pc' → True → ml_V E "LostRoom" cX10_strange 4 false rm pc lv [ml_i rv]) {k7 : Nat → Int32 → Int32 → Int32 → ml_M → Option (Int32 × ml_M)} (hk7 : ∀ (l0 : Nat) (l1 : Int32) (l2 : Int32) (l3 : Int32) (m : ml_M), k7 l0 l1 l2 l3 m = some (rv, rm) → ml_V E "LostRoom" cX10_strange 4 false m 7 [(0, ml_r l0), (1, ml_i l1), (2, ml_i l2), (3, ml_i l3)] []) : ∀ (l0 : Nat) (l1 : Int32) (l2 : Int32) (l3 : Int32) (m : ml_M), fX10_strange_83 k7 l0 l1 l2 l3 m = some (rv, rm) → ml_V E "LostRoom" cX10_strange 4 false m 83 [(0, ml_r l0), (1, ml_i l1), (2, ml_i l2), (3, ml_i l3)] [] := by
  intro l0 l1 l2 l3 m h
  unfold fX10_strange_83 at h
  exact ml_iinc (lv' := [(3, ml_i (l3 + (1 : Int32))), (0, ml_r l0), (1, ml_i l1), (2, ml_i l2)]) dX10_strange_83 3 rfl (congrArg (l3 + ·) kc_i1) (ml_hn hL rfl) rfl <| ml_goto dX10_strange_86 <| ml_V.sub [1, 2, 3, 0] rfl (hk7 _ _ _ _ _ h)
def fX10_strange_80 (k7 : Nat → Int32 → Int32 → Int32 → ml_M → Option (Int32 × ml_M)) (l0 : Nat) (l1 : Int32) (l2 : Int32) (l3 : Int32) (m : ml_M) : Option (Int32 × ml_M) :=
    fX10_strange_83 k7 l0 (l1 + (1 : Int32)) l2 l3 m
theorem vX10_strange_80 {E : ml_E} (hL : ml_eL E = 6) {rv : Int32} {rm : ml_M} (hr : ∀ (pc pc' : Nat) (lv : List (Nat × ml_X)), ml_d cX10_strange pc .ireturn 1 pc' → True → ml_V E "LostRoom" cX10_strange 4 false rm pc lv [ml_i rv]) {k7 : Nat → Int32 → Int32 → Int32 → ml_M → Option (Int32 × ml_M)} (hk7 : ∀ (l0 : Nat) (l1 : Int32) (l2 : Int32) (l3 : Int32) (m : ml_M), k7 l0 l1 l2 l3 m = some (rv, rm) → ml_V E "LostRoom" cX10_strange 4 false m 7 [(0, ml_r l0), (1, ml_i l1), (2, ml_i l2), (3, ml_i l3)] []) : ∀ (l0 : Nat) (l1 : Int32) (l2 : Int32) (l3 : Int32) (m : ml_M), fX10_strange_80 k7 l0 l1 l2 l3 m = some (rv, rm) → ml_V E "LostRoom" cX10_strange 4 false m 80 [(0, ml_r l0), (1, ml_i l1), (2, ml_i l2), (3, ml_i l3)] [] := by
  intro l0 l1 l2 l3 m h
  unfold fX10_strange_80 at h
  exact ml_iinc (lv' := [(1, ml_i (l1 + (1 : Int32))), (0, ml_r l0), (2, ml_i l2), (3, ml_i l3)]) dX10_strange_80 1 rfl (congrArg (l1 + ·) kc_i1) (ml_hn hL rfl) rfl <| ml_V.sub [1, 0, 2, 3] rfl (vX10_strange_83 hL hr hk7 _ _ _ _ _ h)
def fX10_strange_89 (l0 : Nat) (l1 : Int32) (l2 : Int32) (m : ml_M) : Option (Int32 × ml_M) :=
    if (ml_K m l0).1 = 10 then
    ml_let (ml_sI m l0 15 l2) fun m1253 =>
    some (l1, m1253)
    else none
theorem vX10_strange_89 {E : ml_E} (hL : ml_eL E = 6) {rv : Int32} {rm : ml_M} (hr : ∀ (pc pc' : Nat) (lv : List (Nat × ml_X)), ml_d cX10_strange pc .ireturn 1 pc' → True → ml_V E "LostRoom" cX10_strange 4 false rm pc lv [ml_i rv]) : ∀ (l0 : Nat) (l1 : Int32) (l2 : Int32) (m : ml_M), fX10_strange_89 l0 l1 l2 m = some (rv, rm) → ml_V E "LostRoom" cX10_strange 4 false m 89 [(0, ml_r l0), (1, ml_i l1), (2, ml_i l2)] [] := by
  intro l0 l1 l2 m h
  unfold fX10_strange_89 at h
  exact ml_aload_n dX10_strange_89 0 rfl <| ml_iload_n dX10_strange_90 2 rfl <| ml_ck_of h fun hc1252 h => ml_putI dX10_strange_91 wb_81 hc1252 <| ml_lt (m := m) rfl h fun m1253 em1254 h => ml_iload_n dX10_strange_94 1 rfl <| ml_rI (mk := ml_i) hr dX10_strange_95 (fun _ => trivial) h
def fX10_strange_7 : Nat → Nat → Int32 → Int32 → Int32 → ml_M → Option (Int32 × ml_M)
  | 0, _, _, _, _, _ => none
  | fu + 1, l0, l1, l2, l3, m =>
    if (ml_K m l0).1 = 10 then
    if (ml_I m l0 5) ≤ l3 then
    fX10_strange_89 l0 l1 l2 m
    else
    ml_let (ml_R m l0 4) fun a1256 =>
    if ml_in m a1256 29 l3 then
    ml_let (ml_R m a1256 l3.toNatClampNeg) fun a1258 =>
    if (ml_K m a1258).1 = 8 then
    if (ml_I m a1258 0) = (5 : Int32) then
    if (ml_I m a1258 6) = (-9 : Int32) then
    fX10_strange_83 (fX10_strange_7 fu) l0 l1 l2 l3 m
    else
    ml_b1 (fX10_opened l0 a1258 m) fun r1261 =>
    if r1261 = 0 then
    fX10_strange_83 (fX10_strange_7 fu) l0 l1 l2 l3 m
    else
    ml_b1 (fX10_has r1261 (ml_I m a1258 6) m) fun r1263 =>
    if r1263 = 0 then
    if l1 = 0 then
    fX10_strange_80 (fX10_strange_7 fu) l0 l1 l3 l3 m
    else
    fX10_strange_80 (fX10_strange_7 fu) l0 l1 l2 l3 m
    else
    fX10_strange_83 (fX10_strange_7 fu) l0 l1 l2 l3 m
    else
    fX10_strange_83 (fX10_strange_7 fu) l0 l1 l2 l3 m
    else none
    else none
    else none
theorem vX10_strange_7 {E : ml_E} (hL : ml_eL E = 6) {rv : Int32} {rm : ml_M} (hr : ∀ (pc pc' : Nat) (lv : List (Nat × ml_X)), ml_d cX10_strange pc .ireturn 1 pc' → True → ml_V E "LostRoom" cX10_strange 4 false rm pc lv [ml_i rv]) : ∀ (fu : Nat) (l0 : Nat) (l1 : Int32) (l2 : Int32) (l3 : Int32) (m : ml_M), fX10_strange_7 fu l0 l1 l2 l3 m = some (rv, rm) → ml_V E "LostRoom" cX10_strange 4 false m 7 [(0, ml_r l0), (1, ml_i l1), (2, ml_i l2), (3, ml_i l3)] [] := by
  intro fu
  induction fu with
  | zero => intro l0 l1 l2 l3 m h; exact ml_none h
  | succ fu ih =>
    intro l0 l1 l2 l3 m h
    have hk7 := ih
    unfold fX10_strange_7 at h
    exact ml_iload_n dX10_strange_7 3 rfl <| ml_aload_n dX10_strange_8 0 rfl <| ml_ck_of h fun hc1255 h => ml_getI dX10_strange_9 wb_77 hc1255 <| ml_icmp_ge dX10_strange_12 h (fun _ h => ml_V.sub [0, 1, 2] rfl (vX10_strange_89 hL hr  _ _ _ _ h)) (fun _ h => ml_aload_n dX10_strange_15 0 rfl <| ml_getR dX10_strange_16 wb_78 hc1255 <| ml_lx (mk := ml_r) h fun a1256 h => ml_iload_n dX10_strange_19 3 rfl <| ml_ck_of h fun hi1257 h => ml_aald (kd := 29) dX10_strange_20 (by decide) hi1257 <| ml_lx (mk := ml_r) h fun a1258 h => ml_astore (lv' := [(4, ml_r a1258), (0, ml_r l0), (1, ml_i l1), (2, ml_i l2), (3, ml_i l3)]) dX10_strange_21 (ml_hn hL rfl) rfl <| ml_aload dX10_strange_23 0 rfl <| ml_ck_of h fun hc1259 h => ml_getI dX10_strange_25 wb_183 hc1259 <| ml_iconst dX10_strange_28 kc_i5 <| ml_icmp_ne dX10_strange_29 h (fun _ h => ml_V.sub [1, 2, 3, 4] rfl (vX10_strange_83 hL hr hk7 _ _ _ _ _ h)) (fun _ h => ml_aload dX10_strange_32 0 rfl <| ml_getI dX10_strange_34 wb_233 hc1259 <| ml_bipush dX10_strange_37 kc_bm9 <| ml_icmp_ne dX10_strange_39 h (fun _ h => ml_aload_n dX10_strange_45 1 rfl <| ml_aload dX10_strange_46 0 rfl <| ml_b1_of h fun r1261 hv1260 h => ml_callV dX10_strange_48 wm_307 wb_184 hc1255 (sX10_opened hv1260) rfl (Nat.le_of_ble_eq_true rfl) (Nat.le_of_ble_eq_true rfl) rfl <| ml_istore (lv' := [(5, ml_i r1261), (4, ml_r a1258), (0, ml_r l0), (1, ml_i l1), (2, ml_i l2), (3, ml_i l3)]) dX10_strange_51 (ml_hn hL rfl) rfl <| ml_iload dX10_strange_53 0 rfl <| ml_if_eq dX10_strange_55 h (fun _ h => ml_V.sub [2, 3, 4, 5] rfl (vX10_strange_83 hL hr hk7 _ _ _ _ _ h)) (fun _ h => ml_iload dX10_strange_58 0 rfl <| ml_aload dX10_strange_60 1 rfl <| ml_getI dX10_strange_62 wb_233 hc1259 <| ml_b1_of h fun r1263 hv1262 h => ml_callS dX10_strange_65 wm_366 wb_190 (sX10_has hv1262) rfl (Nat.le_of_ble_eq_true rfl) (Nat.le_of_ble_eq_true rfl) rfl <| ml_if_eq dX10_strange_68 h (fun _ h => ml_iload_n dX10_strange_74 3 rfl <| ml_if_ne dX10_strange_75 h (fun _ h => ml_V.sub [2, 3, 4, 5] rfl (vX10_strange_80 hL hr hk7 _ _ _ _ _ h)) (fun _ h => ml_iload_n dX10_strange_78 5 rfl <| ml_istore_n (lv' := [(2, ml_i l3), (5, ml_i r1261), (4, ml_r a1258), (0, ml_r l0), (1, ml_i l1), (3, ml_i l3)]) dX10_strange_79 (ml_hn hL rfl) rfl <| ml_V.sub [3, 4, 0, 5] rfl (vX10_strange_80 hL hr hk7 _ _ _ _ _ h))) (fun _ h => ml_goto dX10_strange_71 <| ml_V.sub [2, 3, 4, 5] rfl (vX10_strange_83 hL hr hk7 _ _ _ _ _ h)))) (fun _ h => ml_goto dX10_strange_42 <| ml_V.sub [1, 2, 3, 4] rfl (vX10_strange_83 hL hr hk7 _ _ _ _ _ h))))
def fX10_strange (l0 : Nat) (m : ml_M) : Option (Int32 × ml_M) :=
    fX10_strange_7 ml_fu l0 (0 : Int32) (-9 : Int32) (0 : Int32) m
theorem wX10_strange_0 {E : ml_E} (hL : ml_eL E = 6) {rv : Int32} {rm : ml_M} (hr : ∀ (pc pc' : Nat) (lv : List (Nat × ml_X)), ml_d cX10_strange pc .ireturn 1 pc' → True → ml_V E "LostRoom" cX10_strange 4 false rm pc lv [ml_i rv]) : ∀ (l0 : Nat) (m : ml_M), fX10_strange l0 m = some (rv, rm) → ml_V E "LostRoom" cX10_strange 4 false m 0 [(0, ml_r l0)] [] := by
  intro l0 m h
  unfold fX10_strange at h
  exact ml_iconst dX10_strange_0 kc_i0 <| ml_istore_n (lv' := [(1, ml_i (0 : Int32)), (0, ml_r l0)]) dX10_strange_1 (ml_hn hL rfl) rfl <| ml_bipush dX10_strange_2 kc_bm9 <| ml_istore_n (lv' := [(2, ml_i (-9 : Int32)), (1, ml_i (0 : Int32)), (0, ml_r l0)]) dX10_strange_4 (ml_hn hL rfl) rfl <| ml_iconst dX10_strange_5 kc_i0 <| ml_istore_n (lv' := [(3, ml_i (0 : Int32)), (2, ml_i (-9 : Int32)), (1, ml_i (0 : Int32)), (0, ml_r l0)]) dX10_strange_6 (ml_hn hL rfl) rfl <| ml_V.sub [3, 2, 1, 0] rfl (vX10_strange_7 hL hr  ml_fu _ _ _ _ _ h)
theorem sX10_strange {l0 : Nat} {m : ml_M} {rv : Int32} {rm : ml_M} (h : fX10_strange l0 m = some (rv, rm)) : ml_Sn yX10_strange cX10_strange 6 (some .int) 4 [ml_r l0] m (some (ml_i rv)) rm :=
  ml_Sn_of (P := True) (ini := false) (by decide +kernel) (Nat.le_of_ble_eq_true rfl) (fun h => by cases h) (fun _ => ml_RkI rv) fun E hL hr => wX10_strange_0 hL hr _ _ h
theorem dX3_gather_0 : ml_d cX3_gather 0 (.iconst 0) 1 1 := ⟨by decide +kernel, rfl⟩
theorem dX3_gather_1 : ml_d cX3_gather 1 (.istore 4) 2 3 := ⟨by decide +kernel, rfl⟩
theorem dX3_gather_3 : ml_d cX3_gather 3 (.iconst 0) 1 4 := ⟨by decide +kernel, rfl⟩
theorem dX3_gather_4 : ml_d cX3_gather 4 (.istore 5) 2 6 := ⟨by decide +kernel, rfl⟩
theorem dX3_gather_6 : ml_d cX3_gather 6 (.iload 5) 2 8 := ⟨by decide +kernel, rfl⟩
theorem dX3_gather_8 : ml_d cX3_gather 8 (.iload_n 2) 1 9 := ⟨by decide +kernel, rfl⟩
theorem dX3_gather_9 : ml_j cX3_gather 9 (.if_icmp .ge) 62 12 := ⟨53, by decide +kernel, by decide, rfl⟩
theorem dX3_gather_12 : ml_d cX3_gather 12 (.iload_n 3) 1 13 := ⟨by decide +kernel, rfl⟩
theorem dX3_gather_13 : ml_d cX3_gather 13 (.iload 5) 2 15 := ⟨by decide +kernel, rfl⟩
theorem dX3_gather_15 : ml_d cX3_gather 15 (.invokestatic 30) 3 18 := ⟨by decide +kernel, rfl⟩
theorem dX3_gather_18 : ml_j cX3_gather 18 (.ifCond .eq) 56 21 := ⟨38, by decide +kernel, by decide, rfl⟩
theorem dX3_gather_21 : ml_d cX3_gather 21 (.aload_n 1) 1 22 := ⟨by decide +kernel, rfl⟩
theorem dX3_gather_22 : ml_d cX3_gather 22 (.iload 5) 2 24 := ⟨by decide +kernel, rfl⟩
theorem dX3_gather_24 : ml_d cX3_gather 24 (.aaload) 1 25 := ⟨by decide +kernel, rfl⟩
theorem dX3_gather_25 : ml_d cX3_gather 25 (.getfield 34) 3 28 := ⟨by decide +kernel, rfl⟩
theorem dX3_gather_28 : ml_d cX3_gather 28 (.iconst 4) 1 29 := ⟨by decide +kernel, rfl⟩
theorem dX3_gather_29 : ml_j cX3_gather 29 (.if_icmp .eq) 35 32 := ⟨6, by decide +kernel, by decide, rfl⟩
theorem dX3_gather_32 : ml_j cX3_gather 32 .goto 56 35 := ⟨24, by decide +kernel, by decide, rfl⟩
theorem dX3_gather_35 : ml_d cX3_gather 35 (.iload 4) 2 37 := ⟨by decide +kernel, rfl⟩
theorem dX3_gather_37 : ml_d cX3_gather 37 (.bipush 10) 2 39 := ⟨by decide +kernel, rfl⟩
theorem dX3_gather_39 : ml_j cX3_gather 39 (.if_icmp .ge) 53 42 := ⟨14, by decide +kernel, by decide, rfl⟩
theorem dX3_gather_42 : ml_d cX3_gather 42 (.aload_n 0) 1 43 := ⟨by decide +kernel, rfl⟩
theorem dX3_gather_43 : ml_d cX3_gather 43 (.getfield 11) 3 46 := ⟨by decide +kernel, rfl⟩
theorem dX3_gather_46 : ml_d cX3_gather 46 (.iload 4) 2 48 := ⟨by decide +kernel, rfl⟩
theorem dX3_gather_48 : ml_d cX3_gather 48 (.aload_n 1) 1 49 := ⟨by decide +kernel, rfl⟩
theorem dX3_gather_49 : ml_d cX3_gather 49 (.iload 5) 2 51 := ⟨by decide +kernel, rfl⟩
theorem dX3_gather_51 : ml_d cX3_gather 51 (.aaload) 1 52 := ⟨by decide +kernel, rfl⟩
theorem dX3_gather_52 : ml_d cX3_gather 52 (.aastore) 1 53 := ⟨by decide +kernel, rfl⟩
theorem dX3_gather_53 : ml_d cX3_gather 53 (.iinc 4 1) 3 56 := ⟨by decide +kernel, rfl⟩
theorem dX3_gather_56 : ml_d cX3_gather 56 (.iinc 5 1) 3 59 := ⟨by decide +kernel, rfl⟩
theorem dX3_gather_59 : ml_j cX3_gather 59 .goto 6 62 := ⟨(-53), by decide +kernel, by decide, rfl⟩
theorem dX3_gather_62 : ml_d cX3_gather 62 (.aload_n 0) 1 63 := ⟨by decide +kernel, rfl⟩
theorem dX3_gather_63 : ml_d cX3_gather 63 (.iload 4) 2 65 := ⟨by decide +kernel, rfl⟩
theorem dX3_gather_65 : ml_d cX3_gather 65 (.bipush 10) 2 67 := ⟨by decide +kernel, rfl⟩
theorem dX3_gather_67 : ml_d cX3_gather 67 (.invokestatic 38) 3 70 := ⟨by decide +kernel, rfl⟩
theorem dX3_gather_70 : ml_d cX3_gather 70 (.putfield 44) 3 73 := ⟨by decide +kernel, rfl⟩
theorem dX3_gather_73 : ml_d cX3_gather 73 (.iload 4) 2 75 := ⟨by decide +kernel, rfl⟩
theorem dX3_gather_75 : ml_d cX3_gather 75 (.ireturn) 1 76 := ⟨by decide +kernel, rfl⟩
def fX3_gather_56 (k6 : Nat → Nat → Int32 → Int32 → Int32 → Int32 → ml_M → Option (Int32 × ml_M)) (l0 : Nat) (l1 : Nat) (l2 : Int32) (l3 : Int32) (l4 : Int32) (l5 : Int32) (m : ml_M) : Option (Int32 × ml_M) :=
    k6 l0 l1 l2 l3 l4 (l5 + (1 : Int32)) m
theorem vX3_gather_56 {E : ml_E} (hL : ml_eL E = 6) {rv : Int32} {rm : ml_M} (hr : ∀ (pc pc' : Nat) (lv : List (Nat × ml_X)), ml_d cX3_gather pc .ireturn 1 pc' → True → ml_V E "LostRoom$Journeys" cX3_gather 3 false rm pc lv [ml_i rv]) {k6 : Nat → Nat → Int32 → Int32 → Int32 → Int32 → ml_M → Option (Int32 × ml_M)} (hk6 : ∀ (l0 : Nat) (l1 : Nat) (l2 : Int32) (l3 : Int32) (l4 : Int32) (l5 : Int32) (m : ml_M), k6 l0 l1 l2 l3 l4 l5 m = some (rv, rm) → ml_V E "LostRoom$Journeys" cX3_gather 3 false m 6 [(0, ml_r l0), (1, ml_r l1), (2, ml_i l2), (3, ml_i l3), (4, ml_i l4), (5, ml_i l5)] []) : ∀ (l0 : Nat) (l1 : Nat) (l2 : Int32) (l3 : Int32) (l4 : Int32) (l5 : Int32) (m : ml_M), fX3_gather_56 k6 l0 l1 l2 l3 l4 l5 m = some (rv, rm) → ml_V E "LostRoom$Journeys" cX3_gather 3 false m 56 [(0, ml_r l0), (1, ml_r l1), (2, ml_i l2), (3, ml_i l3), (4, ml_i l4), (5, ml_i l5)] [] := by
  intro l0 l1 l2 l3 l4 l5 m h
  unfold fX3_gather_56 at h
  exact ml_iinc (lv' := [(5, ml_i (l5 + (1 : Int32))), (0, ml_r l0), (1, ml_r l1), (2, ml_i l2), (3, ml_i l3), (4, ml_i l4)]) dX3_gather_56 5 rfl (congrArg (l5 + ·) kc_i1) (ml_hn hL rfl) rfl <| ml_goto dX3_gather_59 <| ml_V.sub [1, 2, 3, 4, 5, 0] rfl (hk6 _ _ _ _ _ _ _ h)
def fX3_gather_53 (k6 : Nat → Nat → Int32 → Int32 → Int32 → Int32 → ml_M → Option (Int32 × ml_M)) (l0 : Nat) (l1 : Nat) (l2 : Int32) (l3 : Int32) (l4 : Int32) (l5 : Int32) (m : ml_M) : Option (Int32 × ml_M) :=
    fX3_gather_56 k6 l0 l1 l2 l3 (l4 + (1 : Int32)) l5 m
theorem vX3_gather_53 {E : ml_E} (hL : ml_eL E = 6) {rv : Int32} {rm : ml_M} (hr : ∀ (pc pc' : Nat) (lv : List (Nat × ml_X)), ml_d cX3_gather pc .ireturn 1 pc' → True → ml_V E "LostRoom$Journeys" cX3_gather 3 false rm pc lv [ml_i rv]) {k6 : Nat → Nat → Int32 → Int32 → Int32 → Int32 → ml_M → Option (Int32 × ml_M)} (hk6 : ∀ (l0 : Nat) (l1 : Nat) (l2 : Int32) (l3 : Int32) (l4 : Int32) (l5 : Int32) (m : ml_M), k6 l0 l1 l2 l3 l4 l5 m = some (rv, rm) → ml_V E "LostRoom$Journeys" cX3_gather 3 false m 6 [(0, ml_r l0), (1, ml_r l1), (2, ml_i l2), (3, ml_i l3), (4, ml_i l4), (5, ml_i l5)] []) : ∀ (l0 : Nat) (l1 : Nat) (l2 : Int32) (l3 : Int32) (l4 : Int32) (l5 : Int32) (m : ml_M), fX3_gather_53 k6 l0 l1 l2 l3 l4 l5 m = some (rv, rm) → ml_V E "LostRoom$Journeys" cX3_gather 3 false m 53 [(0, ml_r l0), (1, ml_r l1), (2, ml_i l2), (3, ml_i l3), (4, ml_i l4), (5, ml_i l5)] [] := by
  intro l0 l1 l2 l3 l4 l5 m h
  unfold fX3_gather_53 at h
  exact ml_iinc (lv' := [(4, ml_i (l4 + (1 : Int32))), (0, ml_r l0), (1, ml_r l1), (2, ml_i l2), (3, ml_i l3), (5, ml_i l5)]) dX3_gather_53 4 rfl (congrArg (l4 + ·) kc_i1) (ml_hn hL rfl) rfl <| ml_V.sub [1, 2, 3, 4, 0, 5] rfl (vX3_gather_56 hL hr hk6 _ _ _ _ _ _ _ h)
def fX3_gather_62 (l0 : Nat) (l4 : Int32) (m : ml_M) : Option (Int32 × ml_M) :=
    if (ml_K m l0).1 = 3 then
    ml_let (ml_sI m l0 1 (if (10 : Int32) < l4 then (10 : Int32) else l4)) fun m1265 =>
    some (l4, m1265)
    else none
theorem vX3_gather_62 {E : ml_E} (hL : ml_eL E = 6) {rv : Int32} {rm : ml_M} (hr : ∀ (pc pc' : Nat) (lv : List (Nat × ml_X)), ml_d cX3_gather pc .ireturn 1 pc' → True → ml_V E "LostRoom$Journeys" cX3_gather 3 false rm pc lv [ml_i rv]) : ∀ (l0 : Nat) (l4 : Int32) (m : ml_M), fX3_gather_62 l0 l4 m = some (rv, rm) → ml_V E "LostRoom$Journeys" cX3_gather 3 false m 62 [(0, ml_r l0), (4, ml_i l4)] [] := by
  intro l0 l4 m h
  unfold fX3_gather_62 at h
  exact ml_aload_n dX3_gather_62 0 rfl <| ml_iload dX3_gather_63 1 rfl <| ml_bipush dX3_gather_65 kc_b10 <| ml_mmin dX3_gather_67 wb_234 (Nat.le_of_ble_eq_true rfl) (Nat.le_of_ble_eq_true rfl) <| ml_ck_of h fun hc1264 h => ml_putI dX3_gather_70 wb_235 hc1264 <| ml_lt (m := m) rfl h fun m1265 em1266 h => ml_iload dX3_gather_73 1 rfl <| ml_rI (mk := ml_i) hr dX3_gather_75 (fun _ => trivial) h
def fX3_gather_6 : Nat → Nat → Nat → Int32 → Int32 → Int32 → Int32 → ml_M → Option (Int32 × ml_M)
  | 0, _, _, _, _, _, _, _ => none
  | fu + 1, l0, l1, l2, l3, l4, l5, m =>
    if l2 ≤ l5 then
    fX3_gather_62 l0 l4 m
    else
    ml_b1 (fX10_has l3 l5 m) fun r1268 =>
    if r1268 = 0 then
    fX3_gather_56 (fX3_gather_6 fu) l0 l1 l2 l3 l4 l5 m
    else
    if ml_in m l1 29 l5 then
    ml_let (ml_R m l1 l5.toNatClampNeg) fun a1270 =>
    if (ml_K m a1270).1 = 8 then
    if (ml_I m a1270 0) = (4 : Int32) then
    if (10 : Int32) ≤ l4 then
    fX3_gather_53 (fX3_gather_6 fu) l0 l1 l2 l3 l4 l5 m
    else
    if (ml_K m l0).1 = 3 then
    ml_let (ml_R m l0 0) fun a1273 =>
    if ml_in m l1 29 l5 then
    ml_let (ml_R m l1 l5.toNatClampNeg) fun a1275 =>
    if (ml_K m a1275).1 = 8 then
    if ml_in m a1273 29 l4 then
    ml_let (ml_sR m a1273 l4.toNatClampNeg a1275) fun m1278 =>
    fX3_gather_53 (fX3_gather_6 fu) l0 l1 l2 l3 l4 l5 m1278
    else none
    else none
    else none
    else none
    else
    fX3_gather_56 (fX3_gather_6 fu) l0 l1 l2 l3 l4 l5 m
    else none
    else none
theorem vX3_gather_6 {E : ml_E} (hL : ml_eL E = 6) {rv : Int32} {rm : ml_M} (hr : ∀ (pc pc' : Nat) (lv : List (Nat × ml_X)), ml_d cX3_gather pc .ireturn 1 pc' → True → ml_V E "LostRoom$Journeys" cX3_gather 3 false rm pc lv [ml_i rv]) : ∀ (fu : Nat) (l0 : Nat) (l1 : Nat) (l2 : Int32) (l3 : Int32) (l4 : Int32) (l5 : Int32) (m : ml_M), fX3_gather_6 fu l0 l1 l2 l3 l4 l5 m = some (rv, rm) → ml_V E "LostRoom$Journeys" cX3_gather 3 false m 6 [(0, ml_r l0), (1, ml_r l1), (2, ml_i l2), (3, ml_i l3), (4, ml_i l4), (5, ml_i l5)] [] := by
  intro fu
  induction fu with
  | zero => intro l0 l1 l2 l3 l4 l5 m h; exact ml_none h
  | succ fu ih =>
    intro l0 l1 l2 l3 l4 l5 m h
    have hk6 := ih
    unfold fX3_gather_6 at h
    exact ml_iload dX3_gather_6 5 rfl <| ml_iload_n dX3_gather_8 2 rfl <| ml_icmp_ge dX3_gather_9 h (fun _ h => ml_V.sub [0, 4] rfl (vX3_gather_62 hL hr  _ _ _ h)) (fun _ h => ml_iload_n dX3_gather_12 3 rfl <| ml_iload dX3_gather_13 5 rfl <| ml_b1_of h fun r1268 hv1267 h => ml_callSN (host := "LostRoom") dX3_gather_15 (by decide) wb_190 (sX10_has hv1267) rfl (Nat.le_of_ble_eq_true rfl) (Nat.le_of_ble_eq_true rfl) rfl <| ml_if_eq dX3_gather_18 h (fun _ h => ml_V.sub [0, 1, 2, 3, 4, 5] rfl (vX3_gather_56 hL hr hk6 _ _ _ _ _ _ _ h)) (fun _ h => ml_aload_n dX3_gather_21 1 rfl <| ml_iload dX3_gather_22 5 rfl <| ml_ck_of h fun hi1269 h => ml_aald (kd := 29) dX3_gather_24 (by decide) hi1269 <| ml_lx (mk := ml_r) h fun a1270 h => ml_ck_of h fun hc1271 h => ml_getI dX3_gather_25 wb_236 hc1271 <| ml_iconst dX3_gather_28 kc_i4 <| ml_icmp_eq dX3_gather_29 h (fun _ h => ml_iload dX3_gather_35 4 rfl <| ml_bipush dX3_gather_37 kc_b10 <| ml_icmp_ge dX3_gather_39 h (fun _ h => ml_V.sub [0, 1, 2, 3, 4, 5] rfl (vX3_gather_53 hL hr hk6 _ _ _ _ _ _ _ h)) (fun _ h => ml_aload_n dX3_gather_42 0 rfl <| ml_ck_of h fun hc1272 h => ml_getR dX3_gather_43 wb_237 hc1272 <| ml_lx (mk := ml_r) h fun a1273 h => ml_iload dX3_gather_46 4 rfl <| ml_aload_n dX3_gather_48 1 rfl <| ml_iload dX3_gather_49 5 rfl <| ml_ck_of h fun hi1274 h => ml_aald (kd := 29) dX3_gather_51 (by decide) hi1274 <| ml_lx (mk := ml_r) h fun a1275 h => ml_ck_of h fun hc1277 h => ml_ck_of h fun hi1276 h => ml_aast (kd := 29) (ci := 8) dX3_gather_52 (by decide) hi1276 hc1277 <| ml_lt (m := m) rfl h fun m1278 em1279 h => ml_V.sub [0, 1, 2, 3, 4, 5] rfl (vX3_gather_53 hL hr hk6 _ _ _ _ _ _ _ h))) (fun _ h => ml_goto dX3_gather_32 <| ml_V.sub [0, 1, 2, 3, 4, 5] rfl (vX3_gather_56 hL hr hk6 _ _ _ _ _ _ _ h))))
def fX3_gather (l0 : Nat) (l1 : Nat) (l2 : Int32) (l3 : Int32) (m : ml_M) : Option (Int32 × ml_M) :=
    fX3_gather_6 ml_fu l0 l1 l2 l3 (0 : Int32) (0 : Int32) m
theorem wX3_gather_0 {E : ml_E} (hL : ml_eL E = 6) {rv : Int32} {rm : ml_M} (hr : ∀ (pc pc' : Nat) (lv : List (Nat × ml_X)), ml_d cX3_gather pc .ireturn 1 pc' → True → ml_V E "LostRoom$Journeys" cX3_gather 3 false rm pc lv [ml_i rv]) : ∀ (l0 : Nat) (l1 : Nat) (l2 : Int32) (l3 : Int32) (m : ml_M), fX3_gather l0 l1 l2 l3 m = some (rv, rm) → ml_V E "LostRoom$Journeys" cX3_gather 3 false m 0 [(0, ml_r l0), (1, ml_r l1), (2, ml_i l2), (3, ml_i l3)] [] := by
  intro l0 l1 l2 l3 m h
  unfold fX3_gather at h
  exact ml_iconst dX3_gather_0 kc_i0 <| ml_istore (lv' := [(4, ml_i (0 : Int32)), (0, ml_r l0), (1, ml_r l1), (2, ml_i l2), (3, ml_i l3)]) dX3_gather_1 (ml_hn hL rfl) rfl <| ml_iconst dX3_gather_3 kc_i0 <| ml_istore (lv' := [(5, ml_i (0 : Int32)), (4, ml_i (0 : Int32)), (0, ml_r l0), (1, ml_r l1), (2, ml_i l2), (3, ml_i l3)]) dX3_gather_4 (ml_hn hL rfl) rfl <| ml_V.sub [2, 3, 4, 5, 1, 0] rfl (vX3_gather_6 hL hr  ml_fu _ _ _ _ _ _ _ h)
theorem sX3_gather {l0 : Nat} {l1 : Nat} {l2 : Int32} {l3 : Int32} {m : ml_M} {rv : Int32} {rm : ml_M} (h : fX3_gather l0 l1 l2 l3 m = some (rv, rm)) : ml_Sn yX3_gather cX3_gather 6 (some .int) 3 [ml_r l0, ml_r l1, ml_i l2, ml_i l3] m (some (ml_i rv)) rm :=
  ml_Sn_of (P := True) (ini := false) (by decide +kernel) (Nat.le_of_ble_eq_true rfl) (fun h => by cases h) (fun _ => ml_RkI rv) fun E hL hr => wX3_gather_0 hL hr _ _ _ _ _ h

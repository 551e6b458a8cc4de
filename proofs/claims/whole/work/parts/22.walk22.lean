/-! printed by wip/whole/emit.py out of the claim's own listing -/
theorem dX11_lineOf_0 : ml_d cX11_lineOf 0 (.iload_n 1) 1 1 := ⟨by decide +kernel, rfl⟩
theorem dX11_lineOf_1 : ml_d cX11_lineOf 1 (.iconst 0) 1 2 := ⟨by decide +kernel, rfl⟩
theorem dX11_lineOf_2 : ml_d cX11_lineOf 2 (.aload_n 0) 1 3 := ⟨by decide +kernel, rfl⟩
theorem dX11_lineOf_3 : ml_d cX11_lineOf 3 (.getfield 184) 3 6 := ⟨by decide +kernel, rfl⟩
theorem dX11_lineOf_6 : ml_d cX11_lineOf 6 (.iconst 1) 1 7 := ⟨by decide +kernel, rfl⟩
theorem dX11_lineOf_7 : ml_d cX11_lineOf 7 (.isub) 1 8 := ⟨by decide +kernel, rfl⟩
theorem dX11_lineOf_8 : ml_d cX11_lineOf 8 (.invokestatic 100) 3 11 := ⟨by decide +kernel, rfl⟩
theorem dX11_lineOf_11 : ml_j cX11_lineOf 11 (.ifCond .ne) 16 14 := ⟨5, by decide +kernel, by decide, rfl⟩
theorem dX11_lineOf_14 : ml_d cX11_lineOf 14 (.iconst (-1)) 1 15 := ⟨by decide +kernel, rfl⟩
theorem dX11_lineOf_15 : ml_d cX11_lineOf 15 (.ireturn) 1 16 := ⟨by decide +kernel, rfl⟩
theorem dX11_lineOf_16 : ml_d cX11_lineOf 16 (.iconst 0) 1 17 := ⟨by decide +kernel, rfl⟩
theorem dX11_lineOf_17 : ml_d cX11_lineOf 17 (.istore_n 2) 1 18 := ⟨by decide +kernel, rfl⟩
theorem dX11_lineOf_18 : ml_d cX11_lineOf 18 (.iconst 0) 1 19 := ⟨by decide +kernel, rfl⟩
theorem dX11_lineOf_19 : ml_d cX11_lineOf 19 (.istore_n 3) 1 20 := ⟨by decide +kernel, rfl⟩
theorem dX11_lineOf_20 : ml_d cX11_lineOf 20 (.iload_n 3) 1 21 := ⟨by decide +kernel, rfl⟩
theorem dX11_lineOf_21 : ml_d cX11_lineOf 21 (.aload_n 0) 1 22 := ⟨by decide +kernel, rfl⟩
theorem dX11_lineOf_22 : ml_d cX11_lineOf 22 (.getfield 175) 3 25 := ⟨by decide +kernel, rfl⟩
theorem dX11_lineOf_25 : ml_j cX11_lineOf 25 (.if_icmp .ge) 53 28 := ⟨28, by decide +kernel, by decide, rfl⟩
theorem dX11_lineOf_28 : ml_d cX11_lineOf 28 (.iload_n 2) 1 29 := ⟨by decide +kernel, rfl⟩
theorem dX11_lineOf_29 : ml_d cX11_lineOf 29 (.aload_n 0) 1 30 := ⟨by decide +kernel, rfl⟩
theorem dX11_lineOf_30 : ml_d cX11_lineOf 30 (.iload_n 1) 1 31 := ⟨by decide +kernel, rfl⟩
theorem dX11_lineOf_31 : ml_d cX11_lineOf 31 (.iload_n 3) 1 32 := ⟨by decide +kernel, rfl⟩
theorem dX11_lineOf_32 : ml_d cX11_lineOf 32 (.invokevirtual 322) 3 35 := ⟨by decide +kernel, rfl⟩
theorem dX11_lineOf_35 : ml_j cX11_lineOf 35 (.ifCond .le) 44 38 := ⟨9, by decide +kernel, by decide, rfl⟩
theorem dX11_lineOf_38 : ml_d cX11_lineOf 38 (.iconst 1) 1 39 := ⟨by decide +kernel, rfl⟩
theorem dX11_lineOf_39 : ml_d cX11_lineOf 39 (.iload_n 3) 1 40 := ⟨by decide +kernel, rfl⟩
theorem dX11_lineOf_40 : ml_d cX11_lineOf 40 (.ishl) 1 41 := ⟨by decide +kernel, rfl⟩
theorem dX11_lineOf_41 : ml_j cX11_lineOf 41 .goto 45 44 := ⟨4, by decide +kernel, by decide, rfl⟩
theorem dX11_lineOf_44 : ml_d cX11_lineOf 44 (.iconst 0) 1 45 := ⟨by decide +kernel, rfl⟩
theorem dX11_lineOf_45 : ml_d cX11_lineOf 45 (.ior) 1 46 := ⟨by decide +kernel, rfl⟩
theorem dX11_lineOf_46 : ml_d cX11_lineOf 46 (.istore_n 2) 1 47 := ⟨by decide +kernel, rfl⟩
theorem dX11_lineOf_47 : ml_d cX11_lineOf 47 (.iinc 3 1) 3 50 := ⟨by decide +kernel, rfl⟩
theorem dX11_lineOf_50 : ml_j cX11_lineOf 50 .goto 20 53 := ⟨(-30), by decide +kernel, by decide, rfl⟩
theorem dX11_lineOf_53 : ml_d cX11_lineOf 53 (.iload_n 2) 1 54 := ⟨by decide +kernel, rfl⟩
theorem dX11_lineOf_54 : ml_d cX11_lineOf 54 (.ireturn) 1 55 := ⟨by decide +kernel, rfl⟩
def fX11_lineOf_45 (k20 : Nat → Int32 → Int32 → Int32 → ml_M → Option (Int32 × ml_M)) (l0 : Nat) (l1 : Int32) (l3 : Int32) (t0 : Int32) (t1 : Int32) (m : ml_M) : Option (Int32 × ml_M) :=
    ml_let (t1 ||| t0) fun x2984 =>
    k20 l0 l1 x2984 (l3 + (1 : Int32)) m
theorem vX11_lineOf_45 {E : ml_E} (hL : ml_eL E = 4) {rv : Int32} {rm : ml_M} (hr : ∀ (pc pc' : Nat) (lv : List (Nat × ml_X)), ml_d cX11_lineOf pc .ireturn 1 pc' → True → ml_V E "LostRoomModel" cX11_lineOf 6 false rm pc lv [ml_i rv]) {k20 : Nat → Int32 → Int32 → Int32 → ml_M → Option (Int32 × ml_M)} (hk20 : ∀ (l0 : Nat) (l1 : Int32) (l2 : Int32) (l3 : Int32) (m : ml_M), k20 l0 l1 l2 l3 m = some (rv, rm) → ml_V E "LostRoomModel" cX11_lineOf 6 false m 20 [(0, ml_r l0), (1, ml_i l1), (2, ml_i l2), (3, ml_i l3)] []) : ∀ (l0 : Nat) (l1 : Int32) (l3 : Int32) (t0 : Int32) (t1 : Int32) (m : ml_M), fX11_lineOf_45 k20 l0 l1 l3 t0 t1 m = some (rv, rm) → ml_V E "LostRoomModel" cX11_lineOf 6 false m 45 [(0, ml_r l0), (1, ml_i l1), (3, ml_i l3)] [ml_i t0, ml_i t1] := by
  intro l0 l1 l3 t0 t1 m h
  unfold fX11_lineOf_45 at h
  exact ml_ior dX11_lineOf_45 <| ml_lx (mk := ml_i) h fun x2984 h => ml_istore_n (lv' := [(2, ml_i x2984), (0, ml_r l0), (1, ml_i l1), (3, ml_i l3)]) dX11_lineOf_46 (ml_hn hL rfl) rfl <| ml_iinc (lv' := [(3, ml_i (l3 + (1 : Int32))), (2, ml_i x2984), (0, ml_r l0), (1, ml_i l1)]) dX11_lineOf_47 3 rfl (congrArg (l3 + ·) kc_i1) (ml_hn hL rfl) rfl <| ml_goto dX11_lineOf_50 <| ml_V.sub [2, 3, 1, 0] rfl (hk20 _ _ _ _ _ h)
def fX11_lineOf_20 : Nat → Nat → Int32 → Int32 → Int32 → ml_M → Option (Int32 × ml_M)
  | 0, _, _, _, _, _ => none
  | fu + 1, l0, l1, l2, l3, m =>
    if (ml_K m l0).1 = 11 then
    if (ml_I m l0 10) ≤ l3 then
    some (l2, m)
    else
    ml_b2 (fX11_readingsBy l0 l1 l3 m) fun r2987 m2988 =>
    if r2987 ≤ 0 then
    fX11_lineOf_45 (fX11_lineOf_20 fu) l0 l1 l3 (0 : Int32) l2 m2988
    else
    fX11_lineOf_45 (fX11_lineOf_20 fu) l0 l1 l3 ((1 : Int32) <<< (l3 &&& 31)) l2 m2988
    else none
theorem vX11_lineOf_20 {E : ml_E} (hL : ml_eL E = 4) {rv : Int32} {rm : ml_M} (hr : ∀ (pc pc' : Nat) (lv : List (Nat × ml_X)), ml_d cX11_lineOf pc .ireturn 1 pc' → True → ml_V E "LostRoomModel" cX11_lineOf 6 false rm pc lv [ml_i rv]) : ∀ (fu : Nat) (l0 : Nat) (l1 : Int32) (l2 : Int32) (l3 : Int32) (m : ml_M), fX11_lineOf_20 fu l0 l1 l2 l3 m = some (rv, rm) → ml_V E "LostRoomModel" cX11_lineOf 6 false m 20 [(0, ml_r l0), (1, ml_i l1), (2, ml_i l2), (3, ml_i l3)] [] := by
  intro fu
  induction fu with
  | zero => intro l0 l1 l2 l3 m h; exact ml_none h
  | succ fu ih =>
    intro l0 l1 l2 l3 m h
    have hk20 := ih
    unfold fX11_lineOf_20 at h
    exact ml_iload_n dX11_lineOf_20 3 rfl <| ml_aload_n dX11_lineOf_21 0 rfl <| ml_ck_of h fun hc2985 h => ml_getI dX11_lineOf_22 wb_196 hc2985 <| ml_icmp_ge dX11_lineOf_25 h (fun _ h => ml_iload_n dX11_lineOf_53 2 rfl <| ml_rI (mk := ml_i) hr dX11_lineOf_54 (fun _ => trivial) h) (fun _ h => ml_iload_n dX11_lineOf_28 2 rfl <| ml_aload_n dX11_lineOf_29 0 rfl <| ml_iload_n dX11_lineOf_30 1 rfl <| ml_iload_n dX11_lineOf_31 3 rfl <| ml_b2_of h fun r2987 m2988 hv2986 h => ml_callV dX11_lineOf_32 wm_663 wb_394 hc2985 (sX11_readingsBy hv2986) rfl (Nat.le_of_ble_eq_true rfl) (Nat.le_of_ble_eq_true rfl) rfl <| ml_if_le dX11_lineOf_35 h (fun _ h => ml_iconst dX11_lineOf_44 kc_i0 <| ml_V.sub [0, 1, 3] rfl (vX11_lineOf_45 hL hr hk20 _ _ _ _ _ _ h)) (fun _ h => ml_iconst dX11_lineOf_38 kc_i1 <| ml_iload_n dX11_lineOf_39 3 rfl <| ml_ishl dX11_lineOf_40 <| ml_goto dX11_lineOf_41 <| ml_V.sub [0, 1, 3] rfl (vX11_lineOf_45 hL hr hk20 _ _ _ _ _ _ h)))
def fX11_lineOf (l0 : Nat) (l1 : Int32) (m : ml_M) : Option (Int32 × ml_M) :=
    if (ml_K m l0).1 = 11 then
    ml_b1 (fX11_in l1 (0 : Int32) ((ml_I m l0 34) - (1 : Int32)) m) fun r2991 =>
    if r2991 = 0 then
    some ((-1 : Int32), m)
    else
    fX11_lineOf_20 ml_fu l0 l1 (0 : Int32) (0 : Int32) m
    else none
theorem wX11_lineOf_0 {E : ml_E} (hL : ml_eL E = 4) {rv : Int32} {rm : ml_M} (hr : ∀ (pc pc' : Nat) (lv : List (Nat × ml_X)), ml_d cX11_lineOf pc .ireturn 1 pc' → True → ml_V E "LostRoomModel" cX11_lineOf 6 false rm pc lv [ml_i rv]) : ∀ (l0 : Nat) (l1 : Int32) (m : ml_M), fX11_lineOf l0 l1 m = some (rv, rm) → ml_V E "LostRoomModel" cX11_lineOf 6 false m 0 [(0, ml_r l0), (1, ml_i l1)] [] := by
  intro l0 l1 m h
  unfold fX11_lineOf at h
  exact ml_iload_n dX11_lineOf_0 1 rfl <| ml_iconst dX11_lineOf_1 kc_i0 <| ml_aload_n dX11_lineOf_2 0 rfl <| ml_ck_of h fun hc2989 h => ml_getI dX11_lineOf_3 wb_384 hc2989 <| ml_iconst dX11_lineOf_6 kc_i1 <| ml_isub dX11_lineOf_7 <| ml_b1_of h fun r2991 hv2990 h => ml_callS dX11_lineOf_8 wm_136 wb_100 (sX11_in hv2990) rfl (Nat.le_of_ble_eq_true rfl) (Nat.le_of_ble_eq_true rfl) rfl <| ml_if_ne dX11_lineOf_11 h (fun _ h => ml_iconst dX11_lineOf_16 kc_i0 <| ml_istore_n (lv' := [(2, ml_i (0 : Int32)), (0, ml_r l0), (1, ml_i l1)]) dX11_lineOf_17 (ml_hn hL rfl) rfl <| ml_iconst dX11_lineOf_18 kc_i0 <| ml_istore_n (lv' := [(3, ml_i (0 : Int32)), (2, ml_i (0 : Int32)), (0, ml_r l0), (1, ml_i l1)]) dX11_lineOf_19 (ml_hn hL rfl) rfl <| ml_V.sub [2, 3, 1, 0] rfl (vX11_lineOf_20 hL hr  ml_fu _ _ _ _ _ h)) (fun _ h => ml_iconst dX11_lineOf_14 kc_im1 <| ml_rI (mk := ml_i) hr dX11_lineOf_15 (fun _ => trivial) h)
theorem sX11_lineOf {l0 : Nat} {l1 : Int32} {m : ml_M} {rv : Int32} {rm : ml_M} (h : fX11_lineOf l0 l1 m = some (rv, rm)) : ml_Sn yX11_lineOf cX11_lineOf 4 (some .int) 6 [ml_r l0, ml_i l1] m (some (ml_i rv)) rm :=
  ml_Sn_of (P := True) (ini := false) (by decide +kernel) (Nat.le_of_ble_eq_true rfl) (fun h => by cases h) (fun _ => ml_RkI rv) fun E hL hr => wX11_lineOf_0 hL hr _ _ _ h
theorem dX0_init_0 : ml_d cX0_init 0 (.aload_n 0) 1 1 := ⟨by decide +kernel, rfl⟩
theorem dX0_init_1 : ml_d cX0_init 1 (.invokespecial 1) 3 4 := ⟨by decide +kernel, rfl⟩
theorem dX0_init_4 : ml_d cX0_init 4 (.aload_n 0) 1 5 := ⟨by decide +kernel, rfl⟩
theorem dX0_init_5 : ml_d cX0_init 5 (.iload_n 1) 1 6 := ⟨by decide +kernel, rfl⟩
theorem dX0_init_6 : ml_d cX0_init 6 (.putfield 7) 3 9 := ⟨by decide +kernel, rfl⟩
theorem dX0_init_9 : ml_d cX0_init 9 (.aload_n 0) 1 10 := ⟨by decide +kernel, rfl⟩
theorem dX0_init_10 : ml_d cX0_init 10 (.iload_n 2) 1 11 := ⟨by decide +kernel, rfl⟩
theorem dX0_init_11 : ml_d cX0_init 11 (.putfield 13) 3 14 := ⟨by decide +kernel, rfl⟩
theorem dX0_init_14 : ml_d cX0_init 14 (.aload_n 0) 1 15 := ⟨by decide +kernel, rfl⟩
theorem dX0_init_15 : ml_d cX0_init 15 (.iload_n 3) 1 16 := ⟨by decide +kernel, rfl⟩
theorem dX0_init_16 : ml_d cX0_init 16 (.putfield 16) 3 19 := ⟨by decide +kernel, rfl⟩
theorem dX0_init_19 : ml_d cX0_init 19 (.aload_n 0) 1 20 := ⟨by decide +kernel, rfl⟩
theorem dX0_init_20 : ml_d cX0_init 20 (.iload 4) 2 22 := ⟨by decide +kernel, rfl⟩
theorem dX0_init_22 : ml_d cX0_init 22 (.putfield 19) 3 25 := ⟨by decide +kernel, rfl⟩
theorem dX0_init_25 : ml_d cX0_init 25 (.return_) 1 26 := ⟨by decide +kernel, rfl⟩
def fX0_init (l0 : Nat) (l1 : Int32) (l2 : Int32) (l3 : Int32) (l4 : Int32) (m : ml_M) : Option ml_M :=
    if l0 ≠ 0 then
    if (ml_K m l0).1 = 0 then
    ml_let (ml_sI m l0 0 l1) fun m2994 =>
    ml_let (ml_sI m2994 l0 1 l2) fun m2996 =>
    ml_let (ml_sI m2996 l0 2 l3) fun m2998 =>
    ml_let (ml_sI m2998 l0 3 l4) fun m3000 =>
    some m3000
    else none
    else none
theorem wX0_init_0 {E : ml_E} (hL : ml_eL E = 5) {rm : ml_M} (hr : ∀ (pc pc' : Nat) (lv : List (Nat × ml_X)), ml_d cX0_init pc .return_ 1 pc' → True → ml_V E "LostRoom$Bit" cX0_init 2 true rm pc lv []) : ∀ (l0 : Nat) (l1 : Int32) (l2 : Int32) (l3 : Int32) (l4 : Int32) (m : ml_M), fX0_init l0 l1 l2 l3 l4 m = some rm → ml_V E "LostRoom$Bit" cX0_init 2 true m 0 [(0, ml_r l0), (1, ml_i l1), (2, ml_i l2), (3, ml_i l3), (4, ml_i l4)] [] := by
  intro l0 l1 l2 l3 l4 m h
  unfold fX0_init at h
  exact ml_aload_n dX0_init_0 0 rfl <| ml_ck_of h fun hz2992 h => ml_objInit dX0_init_1 wb_395 (Nat.le_of_ble_eq_true rfl) (Nat.le_of_ble_eq_true rfl) hz2992 <| ml_aload_n dX0_init_4 0 rfl <| ml_iload_n dX0_init_5 1 rfl <| ml_ck_of h fun hc2993 h => ml_putI dX0_init_6 wb_396 hc2993 <| ml_lt (m := m) rfl h fun m2994 em2995 h => ml_aload_n dX0_init_9 0 rfl <| ml_iload_n dX0_init_10 2 rfl <| ml_putI dX0_init_11 wb_397 (ml_kk em2995 hc2993) <| ml_lt (m := m2994) rfl h fun m2996 em2997 h => ml_aload_n dX0_init_14 0 rfl <| ml_iload_n dX0_init_15 3 rfl <| ml_putI dX0_init_16 wb_398 (ml_kk em2997 (ml_kk em2995 hc2993)) <| ml_lt (m := m2996) rfl h fun m2998 em2999 h => ml_aload_n dX0_init_19 0 rfl <| ml_iload dX0_init_20 4 rfl <| ml_putI dX0_init_22 wb_399 (ml_kk em2999 (ml_kk em2997 (ml_kk em2995 hc2993))) <| ml_lt (m := m2998) rfl h fun m3000 em3001 h => ml_rv hr dX0_init_25 trivial h
theorem sX0_init {l0 : Nat} {l1 : Int32} {l2 : Int32} {l3 : Int32} {l4 : Int32} {m : ml_M} {rm : ml_M} (h : fX0_init l0 l1 l2 l3 l4 m = some rm) : ml_Sn yX0_init cX0_init 5 none 2 [ml_r l0, ml_i l1, ml_i l2, ml_i l3, ml_i l4] m none rm :=
  ml_Sn_of (P := True) (ini := true) (by decide +kernel) (Nat.le_of_ble_eq_true rfl) (fun _ => rfl) (fun _ => ml_RkV) fun E hL hr => wX0_init_0 hL hr _ _ _ _ _ _ h
theorem dX10_bit_0 : ml_d cX10_bit 0 (.iload_n 1) 1 1 := ⟨by decide +kernel, rfl⟩
theorem dX10_bit_1 : ml_d cX10_bit 1 (.iconst 1) 1 2 := ⟨by decide +kernel, rfl⟩
theorem dX10_bit_2 : ml_d cX10_bit 2 (.bipush 9) 2 4 := ⟨by decide +kernel, rfl⟩
theorem dX10_bit_4 : ml_d cX10_bit 4 (.invokestatic 138) 3 7 := ⟨by decide +kernel, rfl⟩
theorem dX10_bit_7 : ml_j cX10_bit 7 (.ifCond .eq) 20 10 := ⟨13, by decide +kernel, by decide, rfl⟩
theorem dX10_bit_10 : ml_d cX10_bit 10 (.iload_n 2) 1 11 := ⟨by decide +kernel, rfl⟩
theorem dX10_bit_11 : ml_d cX10_bit 11 (.iconst 0) 1 12 := ⟨by decide +kernel, rfl⟩
theorem dX10_bit_12 : ml_d cX10_bit 12 (.bipush 9) 2 14 := ⟨by decide +kernel, rfl⟩
theorem dX10_bit_14 : ml_d cX10_bit 14 (.invokestatic 138) 3 17 := ⟨by decide +kernel, rfl⟩
theorem dX10_bit_17 : ml_j cX10_bit 17 (.ifCond .ne) 22 20 := ⟨5, by decide +kernel, by decide, rfl⟩
theorem dX10_bit_20 : ml_d cX10_bit 20 (.iconst (-1)) 1 21 := ⟨by decide +kernel, rfl⟩
theorem dX10_bit_21 : ml_d cX10_bit 21 (.ireturn) 1 22 := ⟨by decide +kernel, rfl⟩
theorem dX10_bit_22 : ml_d cX10_bit 22 (.iload_n 3) 1 23 := ⟨by decide +kernel, rfl⟩
theorem dX10_bit_23 : ml_d cX10_bit 23 (.iconst 0) 1 24 := ⟨by decide +kernel, rfl⟩
theorem dX10_bit_24 : ml_d cX10_bit 24 (.sipush 999) 3 27 := ⟨by decide +kernel, rfl⟩
theorem dX10_bit_27 : ml_d cX10_bit 27 (.invokestatic 138) 3 30 := ⟨by decide +kernel, rfl⟩
theorem dX10_bit_30 : ml_j cX10_bit 30 (.ifCond .eq) 45 33 := ⟨15, by decide +kernel, by decide, rfl⟩
theorem dX10_bit_33 : ml_d cX10_bit 33 (.iload 4) 2 35 := ⟨by decide +kernel, rfl⟩
theorem dX10_bit_35 : ml_d cX10_bit 35 (.iconst 0) 1 36 := ⟨by decide +kernel, rfl⟩
theorem dX10_bit_36 : ml_d cX10_bit 36 (.sipush 999) 3 39 := ⟨by decide +kernel, rfl⟩
theorem dX10_bit_39 : ml_d cX10_bit 39 (.invokestatic 138) 3 42 := ⟨by decide +kernel, rfl⟩
theorem dX10_bit_42 : ml_j cX10_bit 42 (.ifCond .ne) 47 45 := ⟨5, by decide +kernel, by decide, rfl⟩
theorem dX10_bit_45 : ml_d cX10_bit 45 (.iconst (-1)) 1 46 := ⟨by decide +kernel, rfl⟩
theorem dX10_bit_46 : ml_d cX10_bit 46 (.ireturn) 1 47 := ⟨by decide +kernel, rfl⟩
theorem dX10_bit_47 : ml_d cX10_bit 47 (.aload_n 0) 1 48 := ⟨by decide +kernel, rfl⟩
theorem dX10_bit_48 : ml_d cX10_bit 48 (.getfield 124) 3 51 := ⟨by decide +kernel, rfl⟩
theorem dX10_bit_51 : ml_d cX10_bit 51 (.bipush 10) 2 53 := ⟨by decide +kernel, rfl⟩
theorem dX10_bit_53 : ml_j cX10_bit 53 (.if_icmp .lt) 59 56 := ⟨6, by decide +kernel, by decide, rfl⟩
theorem dX10_bit_56 : ml_d cX10_bit 56 (.bipush (-2)) 2 58 := ⟨by decide +kernel, rfl⟩
theorem dX10_bit_58 : ml_d cX10_bit 58 (.ireturn) 1 59 := ⟨by decide +kernel, rfl⟩
theorem dX10_bit_59 : ml_d cX10_bit 59 (.aload_n 0) 1 60 := ⟨by decide +kernel, rfl⟩
theorem dX10_bit_60 : ml_d cX10_bit 60 (.getfield 48) 3 63 := ⟨by decide +kernel, rfl⟩
theorem dX10_bit_63 : ml_d cX10_bit 63 (.aload_n 0) 1 64 := ⟨by decide +kernel, rfl⟩
theorem dX10_bit_64 : ml_d cX10_bit 64 (.getfield 124) 3 67 := ⟨by decide +kernel, rfl⟩
theorem dX10_bit_67 : ml_d cX10_bit 67 (.new 46) 3 70 := ⟨by decide +kernel, rfl⟩
theorem dX10_bit_70 : ml_d cX10_bit 70 (.dup) 1 71 := ⟨by decide +kernel, rfl⟩
theorem dX10_bit_71 : ml_d cX10_bit 71 (.iload_n 1) 1 72 := ⟨by decide +kernel, rfl⟩
theorem dX10_bit_72 : ml_d cX10_bit 72 (.iload_n 2) 1 73 := ⟨by decide +kernel, rfl⟩
theorem dX10_bit_73 : ml_d cX10_bit 73 (.iload_n 3) 1 74 := ⟨by decide +kernel, rfl⟩
theorem dX10_bit_74 : ml_d cX10_bit 74 (.iload 4) 2 76 := ⟨by decide +kernel, rfl⟩
theorem dX10_bit_76 : ml_d cX10_bit 76 (.invokespecial 281) 3 79 := ⟨by decide +kernel, rfl⟩
theorem dX10_bit_79 : ml_d cX10_bit 79 (.aastore) 1 80 := ⟨by decide +kernel, rfl⟩
theorem dX10_bit_80 : ml_d cX10_bit 80 (.aload_n 0) 1 81 := ⟨by decide +kernel, rfl⟩
theorem dX10_bit_81 : ml_d cX10_bit 81 (.getfield 68) 3 84 := ⟨by decide +kernel, rfl⟩
theorem dX10_bit_84 : ml_d cX10_bit 84 (.iconst 1) 1 85 := ⟨by decide +kernel, rfl⟩
theorem dX10_bit_85 : ml_d cX10_bit 85 (.putfield 134) 3 88 := ⟨by decide +kernel, rfl⟩
theorem dX10_bit_88 : ml_d cX10_bit 88 (.aload_n 0) 1 89 := ⟨by decide +kernel, rfl⟩
theorem dX10_bit_89 : ml_d cX10_bit 89 (.dup) 1 90 := ⟨by decide +kernel, rfl⟩
theorem dX10_bit_90 : ml_d cX10_bit 90 (.getfield 124) 3 93 := ⟨by decide +kernel, rfl⟩
theorem dX10_bit_93 : ml_d cX10_bit 93 (.dup_x1) 1 94 := ⟨by decide +kernel, rfl⟩
theorem dX10_bit_94 : ml_d cX10_bit 94 (.iconst 1) 1 95 := ⟨by decide +kernel, rfl⟩
theorem dX10_bit_95 : ml_d cX10_bit 95 (.iadd) 1 96 := ⟨by decide +kernel, rfl⟩
theorem dX10_bit_96 : ml_d cX10_bit 96 (.putfield 124) 3 99 := ⟨by decide +kernel, rfl⟩
theorem dX10_bit_99 : ml_d cX10_bit 99 (.ireturn) 1 100 := ⟨by decide +kernel, rfl⟩
def fX10_bit (l0 : Nat) (l1 : Int32) (l2 : Int32) (l3 : Int32) (l4 : Int32) (m : ml_M) : Option (Int32 × ml_M) :=
    ml_b1 (fX10_within l1 (1 : Int32) (9 : Int32) m) fun r3003 =>
    if r3003 = 0 then
    some ((-1 : Int32), m)
    else
    ml_b1 (fX10_within l2 (0 : Int32) (9 : Int32) m) fun r3005 =>
    if r3005 = 0 then
    some ((-1 : Int32), m)
    else
    ml_b1 (fX10_within l3 (0 : Int32) (999 : Int32) m) fun r3007 =>
    if r3007 = 0 then
    some ((-1 : Int32), m)
    else
    ml_b1 (fX10_within l4 (0 : Int32) (999 : Int32) m) fun r3009 =>
    if r3009 = 0 then
    some ((-1 : Int32), m)
    else
    if (ml_K m l0).1 = 10 then
    if (ml_I m l0 9) < (10 : Int32) then
    ml_let (ml_R m l0 8) fun a3011 =>
    ml_let (ml_n m + 1) fun a3012 =>
    ml_let (ml_al m 0 0 4) fun m3013 =>
    ml_b1 (fX0_init a3012 l1 l2 l3 l4 m3013) fun m3017 =>
    if (ml_K m3017 a3012).1 = 0 then
    if ml_in m3017 a3011 25 (ml_I m l0 9) then
    ml_let (ml_sR m3017 a3011 (ml_I m l0 9).toNatClampNeg a3012) fun m3020 =>
    if (ml_K m3020 l0).1 = 10 then
    ml_let (ml_R m3020 l0 13) fun a3023 =>
    if (ml_K m3020 a3023).1 = 4 then
    ml_let (ml_sI m3020 a3023 0 (1 : Int32)) fun m3025 =>
    ml_let (ml_sI m3025 l0 9 ((ml_I m3025 l0 9) + (1 : Int32))) fun m3027 =>
    some ((ml_I m3025 l0 9), m3027)
    else none
    else none
    else none
    else none
    else
    some ((-2 : Int32), m)
    else none
theorem wX10_bit_0 {E : ml_E} (hL : ml_eL E = 5) {rv : Int32} {rm : ml_M} (hr : ∀ (pc pc' : Nat) (lv : List (Nat × ml_X)), ml_d cX10_bit pc .ireturn 1 pc' → True → ml_V E "LostRoom" cX10_bit 3 false rm pc lv [ml_i rv]) : ∀ (l0 : Nat) (l1 : Int32) (l2 : Int32) (l3 : Int32) (l4 : Int32) (m : ml_M), fX10_bit l0 l1 l2 l3 l4 m = some (rv, rm) → ml_V E "LostRoom" cX10_bit 3 false m 0 [(0, ml_r l0), (1, ml_i l1), (2, ml_i l2), (3, ml_i l3), (4, ml_i l4)] [] := by
  intro l0 l1 l2 l3 l4 m h
  unfold fX10_bit at h
  exact ml_iload_n dX10_bit_0 1 rfl <| ml_iconst dX10_bit_1 kc_i1 <| ml_bipush dX10_bit_2 kc_b9 <| ml_b1_of h fun r3003 hv3002 h => ml_callS dX10_bit_4 wm_124 wb_94 (sX10_within hv3002) rfl (Nat.le_of_ble_eq_true rfl) (Nat.le_of_ble_eq_true rfl) rfl <| ml_if_eq dX10_bit_7 h (fun _ h => ml_iconst dX10_bit_20 kc_im1 <| ml_rI (mk := ml_i) hr dX10_bit_21 (fun _ => trivial) h) (fun _ h => ml_iload_n dX10_bit_10 2 rfl <| ml_iconst dX10_bit_11 kc_i0 <| ml_bipush dX10_bit_12 kc_b9 <| ml_b1_of h fun r3005 hv3004 h => ml_callS dX10_bit_14 wm_124 wb_94 (sX10_within hv3004) rfl (Nat.le_of_ble_eq_true rfl) (Nat.le_of_ble_eq_true rfl) rfl <| ml_if_ne dX10_bit_17 h (fun _ h => ml_iload_n dX10_bit_22 3 rfl <| ml_iconst dX10_bit_23 kc_i0 <| ml_sipush dX10_bit_24 kc_s999 <| ml_b1_of h fun r3007 hv3006 h => ml_callS dX10_bit_27 wm_124 wb_94 (sX10_within hv3006) rfl (Nat.le_of_ble_eq_true rfl) (Nat.le_of_ble_eq_true rfl) rfl <| ml_if_eq dX10_bit_30 h (fun _ h => ml_iconst dX10_bit_45 kc_im1 <| ml_rI (mk := ml_i) hr dX10_bit_46 (fun _ => trivial) h) (fun _ h => ml_iload dX10_bit_33 4 rfl <| ml_iconst dX10_bit_35 kc_i0 <| ml_sipush dX10_bit_36 kc_s999 <| ml_b1_of h fun r3009 hv3008 h => ml_callS dX10_bit_39 wm_124 wb_94 (sX10_within hv3008) rfl (Nat.le_of_ble_eq_true rfl) (Nat.le_of_ble_eq_true rfl) rfl <| ml_if_ne dX10_bit_42 h (fun _ h => ml_aload_n dX10_bit_47 0 rfl <| ml_ck_of h fun hc3010 h => ml_getI dX10_bit_48 wb_400 hc3010 <| ml_bipush dX10_bit_51 kc_b10 <| ml_icmp_lt dX10_bit_53 h (fun _ h => ml_aload_n dX10_bit_59 0 rfl <| ml_getR dX10_bit_60 wb_401 hc3010 <| ml_lx (mk := ml_r) h fun a3011 h => ml_aload_n dX10_bit_63 0 rfl <| ml_getI dX10_bit_64 wb_400 hc3010 <| ml_newOs dX10_bit_67 wb_402 h fun a3012 m3013 hn3014 hc3015 h => ml_dup dX10_bit_70 rfl <| ml_iload_n dX10_bit_71 1 rfl <| ml_iload_n dX10_bit_72 2 rfl <| ml_iload_n dX10_bit_73 3 rfl <| ml_iload dX10_bit_74 4 rfl <| ml_b1_of h fun m3017 hv3016 h => ml_callI dX10_bit_76 wm_673 wb_403 hn3014 (sX0_init hv3016) rfl (Nat.le_of_ble_eq_true rfl) (Nat.le_of_ble_eq_true rfl) rfl <| ml_ck_of h fun hc3019 h => ml_ck_of h fun hi3018 h => ml_aast (kd := 25) (ci := 0) dX10_bit_79 (by decide) hi3018 hc3019 <| ml_lt (m := m3017) rfl h fun m3020 em3021 h => ml_aload_n dX10_bit_80 0 rfl <| ml_ck_of h fun hc3022 h => ml_getR dX10_bit_81 wb_187 hc3022 <| ml_lx (mk := ml_r) h fun a3023 h => ml_iconst dX10_bit_84 kc_i1 <| ml_ck_of h fun hc3024 h => ml_putZ dX10_bit_85 wb_188 hc3024 (Or.inr rfl) <| ml_lt (m := m3020) rfl h fun m3025 em3026 h => ml_aload_n dX10_bit_88 0 rfl <| ml_dup dX10_bit_89 rfl <| ml_getI dX10_bit_90 wb_400 (ml_kk em3026 hc3022) <| ml_dup_x1 dX10_bit_93 rfl rfl <| ml_iconst dX10_bit_94 kc_i1 <| ml_iadd dX10_bit_95 <| ml_putI dX10_bit_96 wb_183 (ml_kk em3026 hc3022) <| ml_lt (m := m3025) rfl h fun m3027 em3028 h => ml_rI (mk := ml_i) hr dX10_bit_99 (fun _ => trivial) h) (fun _ h => ml_bipush dX10_bit_56 kc_bm2 <| ml_rI (mk := ml_i) hr dX10_bit_58 (fun _ => trivial) h)) (fun _ h => ml_iconst dX10_bit_45 kc_im1 <| ml_rI (mk := ml_i) hr dX10_bit_46 (fun _ => trivial) h))) (fun _ h => ml_iconst dX10_bit_20 kc_im1 <| ml_rI (mk := ml_i) hr dX10_bit_21 (fun _ => trivial) h))
theorem sX10_bit {l0 : Nat} {l1 : Int32} {l2 : Int32} {l3 : Int32} {l4 : Int32} {m : ml_M} {rv : Int32} {rm : ml_M} (h : fX10_bit l0 l1 l2 l3 l4 m = some (rv, rm)) : ml_Sn yX10_bit cX10_bit 5 (some .int) 3 [ml_r l0, ml_i l1, ml_i l2, ml_i l3, ml_i l4] m (some (ml_i rv)) rm :=
  ml_Sn_of (P := True) (ini := false) (by decide +kernel) (Nat.le_of_ble_eq_true rfl) (fun h => by cases h) (fun _ => ml_RkI rv) fun E hL hr => wX10_bit_0 hL hr _ _ _ _ _ _ h
theorem dX11_bit_0 : ml_d cX11_bit 0 (.iload_n 1) 1 1 := ⟨by decide +kernel, rfl⟩
theorem dX11_bit_1 : ml_d cX11_bit 1 (.iconst 1) 1 2 := ⟨by decide +kernel, rfl⟩
theorem dX11_bit_2 : ml_d cX11_bit 2 (.bipush 9) 2 4 := ⟨by decide +kernel, rfl⟩
theorem dX11_bit_4 : ml_d cX11_bit 4 (.invokestatic 100) 3 7 := ⟨by decide +kernel, rfl⟩
theorem dX11_bit_7 : ml_j cX11_bit 7 (.ifCond .eq) 43 10 := ⟨36, by decide +kernel, by decide, rfl⟩
theorem dX11_bit_10 : ml_d cX11_bit 10 (.iload_n 2) 1 11 := ⟨by decide +kernel, rfl⟩
theorem dX11_bit_11 : ml_d cX11_bit 11 (.iconst 0) 1 12 := ⟨by decide +kernel, rfl⟩
theorem dX11_bit_12 : ml_d cX11_bit 12 (.bipush 9) 2 14 := ⟨by decide +kernel, rfl⟩
theorem dX11_bit_14 : ml_d cX11_bit 14 (.invokestatic 100) 3 17 := ⟨by decide +kernel, rfl⟩
theorem dX11_bit_17 : ml_j cX11_bit 17 (.ifCond .eq) 43 20 := ⟨26, by decide +kernel, by decide, rfl⟩
theorem dX11_bit_20 : ml_d cX11_bit 20 (.iload_n 3) 1 21 := ⟨by decide +kernel, rfl⟩
theorem dX11_bit_21 : ml_d cX11_bit 21 (.iconst 0) 1 22 := ⟨by decide +kernel, rfl⟩
theorem dX11_bit_22 : ml_d cX11_bit 22 (.sipush 999) 3 25 := ⟨by decide +kernel, rfl⟩
theorem dX11_bit_25 : ml_d cX11_bit 25 (.invokestatic 100) 3 28 := ⟨by decide +kernel, rfl⟩
theorem dX11_bit_28 : ml_j cX11_bit 28 (.ifCond .eq) 43 31 := ⟨15, by decide +kernel, by decide, rfl⟩
theorem dX11_bit_31 : ml_d cX11_bit 31 (.iload 4) 2 33 := ⟨by decide +kernel, rfl⟩
theorem dX11_bit_33 : ml_d cX11_bit 33 (.iconst 0) 1 34 := ⟨by decide +kernel, rfl⟩
theorem dX11_bit_34 : ml_d cX11_bit 34 (.sipush 999) 3 37 := ⟨by decide +kernel, rfl⟩
theorem dX11_bit_37 : ml_d cX11_bit 37 (.invokestatic 100) 3 40 := ⟨by decide +kernel, rfl⟩
theorem dX11_bit_40 : ml_j cX11_bit 40 (.ifCond .ne) 45 43 := ⟨5, by decide +kernel, by decide, rfl⟩
theorem dX11_bit_43 : ml_d cX11_bit 43 (.iconst (-1)) 1 44 := ⟨by decide +kernel, rfl⟩
theorem dX11_bit_44 : ml_d cX11_bit 44 (.ireturn) 1 45 := ⟨by decide +kernel, rfl⟩
theorem dX11_bit_45 : ml_d cX11_bit 45 (.aload_n 0) 1 46 := ⟨by decide +kernel, rfl⟩
theorem dX11_bit_46 : ml_d cX11_bit 46 (.getfield 187) 3 49 := ⟨by decide +kernel, rfl⟩
theorem dX11_bit_49 : ml_d cX11_bit 49 (.bipush 10) 2 51 := ⟨by decide +kernel, rfl⟩
theorem dX11_bit_51 : ml_j cX11_bit 51 (.if_icmp .ne) 57 54 := ⟨6, by decide +kernel, by decide, rfl⟩
theorem dX11_bit_54 : ml_d cX11_bit 54 (.bipush (-2)) 2 56 := ⟨by decide +kernel, rfl⟩
theorem dX11_bit_56 : ml_d cX11_bit 56 (.ireturn) 1 57 := ⟨by decide +kernel, rfl⟩
theorem dX11_bit_57 : ml_d cX11_bit 57 (.aload_n 0) 1 58 := ⟨by decide +kernel, rfl⟩
theorem dX11_bit_58 : ml_d cX11_bit 58 (.getfield 68) 3 61 := ⟨by decide +kernel, rfl⟩
theorem dX11_bit_61 : ml_d cX11_bit 61 (.iconst 4) 1 62 := ⟨by decide +kernel, rfl⟩
theorem dX11_bit_62 : ml_d cX11_bit 62 (.aload_n 0) 1 63 := ⟨by decide +kernel, rfl⟩
theorem dX11_bit_63 : ml_d cX11_bit 63 (.getfield 187) 3 66 := ⟨by decide +kernel, rfl⟩
theorem dX11_bit_66 : ml_d cX11_bit 66 (.imul) 1 67 := ⟨by decide +kernel, rfl⟩
theorem dX11_bit_67 : ml_d cX11_bit 67 (.iload_n 1) 1 68 := ⟨by decide +kernel, rfl⟩
theorem dX11_bit_68 : ml_d cX11_bit 68 (.iastore) 1 69 := ⟨by decide +kernel, rfl⟩
theorem dX11_bit_69 : ml_d cX11_bit 69 (.aload_n 0) 1 70 := ⟨by decide +kernel, rfl⟩
theorem dX11_bit_70 : ml_d cX11_bit 70 (.getfield 68) 3 73 := ⟨by decide +kernel, rfl⟩
theorem dX11_bit_73 : ml_d cX11_bit 73 (.iconst 4) 1 74 := ⟨by decide +kernel, rfl⟩
theorem dX11_bit_74 : ml_d cX11_bit 74 (.aload_n 0) 1 75 := ⟨by decide +kernel, rfl⟩
theorem dX11_bit_75 : ml_d cX11_bit 75 (.getfield 187) 3 78 := ⟨by decide +kernel, rfl⟩
theorem dX11_bit_78 : ml_d cX11_bit 78 (.imul) 1 79 := ⟨by decide +kernel, rfl⟩
theorem dX11_bit_79 : ml_d cX11_bit 79 (.iconst 1) 1 80 := ⟨by decide +kernel, rfl⟩
theorem dX11_bit_80 : ml_d cX11_bit 80 (.iadd) 1 81 := ⟨by decide +kernel, rfl⟩
theorem dX11_bit_81 : ml_d cX11_bit 81 (.iload_n 2) 1 82 := ⟨by decide +kernel, rfl⟩
theorem dX11_bit_82 : ml_d cX11_bit 82 (.iastore) 1 83 := ⟨by decide +kernel, rfl⟩
theorem dX11_bit_83 : ml_d cX11_bit 83 (.aload_n 0) 1 84 := ⟨by decide +kernel, rfl⟩
theorem dX11_bit_84 : ml_d cX11_bit 84 (.getfield 68) 3 87 := ⟨by decide +kernel, rfl⟩
theorem dX11_bit_87 : ml_d cX11_bit 87 (.iconst 4) 1 88 := ⟨by decide +kernel, rfl⟩
theorem dX11_bit_88 : ml_d cX11_bit 88 (.aload_n 0) 1 89 := ⟨by decide +kernel, rfl⟩
theorem dX11_bit_89 : ml_d cX11_bit 89 (.getfield 187) 3 92 := ⟨by decide +kernel, rfl⟩
theorem dX11_bit_92 : ml_d cX11_bit 92 (.imul) 1 93 := ⟨by decide +kernel, rfl⟩
theorem dX11_bit_93 : ml_d cX11_bit 93 (.iconst 2) 1 94 := ⟨by decide +kernel, rfl⟩
theorem dX11_bit_94 : ml_d cX11_bit 94 (.iadd) 1 95 := ⟨by decide +kernel, rfl⟩
theorem dX11_bit_95 : ml_d cX11_bit 95 (.iload_n 3) 1 96 := ⟨by decide +kernel, rfl⟩
theorem dX11_bit_96 : ml_d cX11_bit 96 (.iastore) 1 97 := ⟨by decide +kernel, rfl⟩
theorem dX11_bit_97 : ml_d cX11_bit 97 (.aload_n 0) 1 98 := ⟨by decide +kernel, rfl⟩
theorem dX11_bit_98 : ml_d cX11_bit 98 (.getfield 68) 3 101 := ⟨by decide +kernel, rfl⟩
theorem dX11_bit_101 : ml_d cX11_bit 101 (.iconst 4) 1 102 := ⟨by decide +kernel, rfl⟩
theorem dX11_bit_102 : ml_d cX11_bit 102 (.aload_n 0) 1 103 := ⟨by decide +kernel, rfl⟩
theorem dX11_bit_103 : ml_d cX11_bit 103 (.getfield 187) 3 106 := ⟨by decide +kernel, rfl⟩
theorem dX11_bit_106 : ml_d cX11_bit 106 (.imul) 1 107 := ⟨by decide +kernel, rfl⟩
theorem dX11_bit_107 : ml_d cX11_bit 107 (.iconst 3) 1 108 := ⟨by decide +kernel, rfl⟩
theorem dX11_bit_108 : ml_d cX11_bit 108 (.iadd) 1 109 := ⟨by decide +kernel, rfl⟩
theorem dX11_bit_109 : ml_d cX11_bit 109 (.iload 4) 2 111 := ⟨by decide +kernel, rfl⟩
theorem dX11_bit_111 : ml_d cX11_bit 111 (.iastore) 1 112 := ⟨by decide +kernel, rfl⟩
theorem dX11_bit_112 : ml_d cX11_bit 112 (.aload_n 0) 1 113 := ⟨by decide +kernel, rfl⟩
theorem dX11_bit_113 : ml_d cX11_bit 113 (.dup) 1 114 := ⟨by decide +kernel, rfl⟩
theorem dX11_bit_114 : ml_d cX11_bit 114 (.getfield 187) 3 117 := ⟨by decide +kernel, rfl⟩
theorem dX11_bit_117 : ml_d cX11_bit 117 (.iconst 1) 1 118 := ⟨by decide +kernel, rfl⟩
theorem dX11_bit_118 : ml_d cX11_bit 118 (.iadd) 1 119 := ⟨by decide +kernel, rfl⟩
theorem dX11_bit_119 : ml_d cX11_bit 119 (.putfield 187) 3 122 := ⟨by decide +kernel, rfl⟩
theorem dX11_bit_122 : ml_d cX11_bit 122 (.aload_n 0) 1 123 := ⟨by decide +kernel, rfl⟩
theorem dX11_bit_123 : ml_d cX11_bit 123 (.getfield 187) 3 126 := ⟨by decide +kernel, rfl⟩
theorem dX11_bit_126 : ml_d cX11_bit 126 (.iconst 1) 1 127 := ⟨by decide +kernel, rfl⟩
theorem dX11_bit_127 : ml_d cX11_bit 127 (.isub) 1 128 := ⟨by decide +kernel, rfl⟩
theorem dX11_bit_128 : ml_d cX11_bit 128 (.ireturn) 1 129 := ⟨by decide +kernel, rfl⟩
def fX11_bit (l0 : Nat) (l1 : Int32) (l2 : Int32) (l3 : Int32) (l4 : Int32) (m : ml_M) : Option (Int32 × ml_M) :=
    ml_b1 (fX11_in l1 (1 : Int32) (9 : Int32) m) fun r3030 =>
    if r3030 = 0 then
    some ((-1 : Int32), m)
    else
    ml_b1 (fX11_in l2 (0 : Int32) (9 : Int32) m) fun r3032 =>
    if r3032 = 0 then
    some ((-1 : Int32), m)
    else
    ml_b1 (fX11_in l3 (0 : Int32) (999 : Int32) m) fun r3034 =>
    if r3034 = 0 then
    some ((-1 : Int32), m)
    else
    ml_b1 (fX11_in l4 (0 : Int32) (999 : Int32) m) fun r3036 =>
    if r3036 = 0 then
    some ((-1 : Int32), m)
    else
    if (ml_K m l0).1 = 11 then
    if (ml_I m l0 37) = (10 : Int32) then
    some ((-2 : Int32), m)
    else
    ml_let (ml_R m l0 38) fun a3038 =>
    if ml_in m a3038 20 ((4 : Int32) * (ml_I m l0 37)) then
    ml_let (ml_sI m a3038 ((4 : Int32) * (ml_I m l0 37)).toNatClampNeg l1) fun m3040 =>
    ml_let (ml_R m3040 l0 38) fun a3042 =>
    if ml_in m3040 a3042 20 (((4 : Int32) * (ml_I m3040 l0 37)) + (1 : Int32)) then
    ml_let (ml_sI m3040 a3042 (((4 : Int32) * (ml_I m3040 l0 37)) + (1 : Int32)).toNatClampNeg l2) fun m3044 =>
    ml_let (ml_R m3044 l0 38) fun a3046 =>
    if ml_in m3044 a3046 20 (((4 : Int32) * (ml_I m3044 l0 37)) + (2 : Int32)) then
    ml_let (ml_sI m3044 a3046 (((4 : Int32) * (ml_I m3044 l0 37)) + (2 : Int32)).toNatClampNeg l3) fun m3048 =>
    ml_let (ml_R m3048 l0 38) fun a3050 =>
    if ml_in m3048 a3050 20 (((4 : Int32) * (ml_I m3048 l0 37)) + (3 : Int32)) then
    ml_let (ml_sI m3048 a3050 (((4 : Int32) * (ml_I m3048 l0 37)) + (3 : Int32)).toNatClampNeg l4) fun m3052 =>
    ml_let (ml_sI m3052 l0 37 ((ml_I m3052 l0 37) + (1 : Int32))) fun m3054 =>
    some (((ml_I m3054 l0 37) - (1 : Int32)), m3054)
    else none
    else none
    else none
    else none
    else none
theorem wX11_bit_0 {E : ml_E} (hL : ml_eL E = 5) {rv : Int32} {rm : ml_M} (hr : ∀ (pc pc' : Nat) (lv : List (Nat × ml_X)), ml_d cX11_bit pc .ireturn 1 pc' → True → ml_V E "LostRoomModel" cX11_bit 3 false rm pc lv [ml_i rv]) : ∀ (l0 : Nat) (l1 : Int32) (l2 : Int32) (l3 : Int32) (l4 : Int32) (m : ml_M), fX11_bit l0 l1 l2 l3 l4 m = some (rv, rm) → ml_V E "LostRoomModel" cX11_bit 3 false m 0 [(0, ml_r l0), (1, ml_i l1), (2, ml_i l2), (3, ml_i l3), (4, ml_i l4)] [] := by
  intro l0 l1 l2 l3 l4 m h
  unfold fX11_bit at h
  exact ml_iload_n dX11_bit_0 1 rfl <| ml_iconst dX11_bit_1 kc_i1 <| ml_bipush dX11_bit_2 kc_b9 <| ml_b1_of h fun r3030 hv3029 h => ml_callS dX11_bit_4 wm_136 wb_100 (sX11_in hv3029) rfl (Nat.le_of_ble_eq_true rfl) (Nat.le_of_ble_eq_true rfl) rfl <| ml_if_eq dX11_bit_7 h (fun _ h => ml_iconst dX11_bit_43 kc_im1 <| ml_rI (mk := ml_i) hr dX11_bit_44 (fun _ => trivial) h) (fun _ h => ml_iload_n dX11_bit_10 2 rfl <| ml_iconst dX11_bit_11 kc_i0 <| ml_bipush dX11_bit_12 kc_b9 <| ml_b1_of h fun r3032 hv3031 h => ml_callS dX11_bit_14 wm_136 wb_100 (sX11_in hv3031) rfl (Nat.le_of_ble_eq_true rfl) (Nat.le_of_ble_eq_true rfl) rfl <| ml_if_eq dX11_bit_17 h (fun _ h => ml_iconst dX11_bit_43 kc_im1 <| ml_rI (mk := ml_i) hr dX11_bit_44 (fun _ => trivial) h) (fun _ h => ml_iload_n dX11_bit_20 3 rfl <| ml_iconst dX11_bit_21 kc_i0 <| ml_sipush dX11_bit_22 kc_s999 <| ml_b1_of h fun r3034 hv3033 h => ml_callS dX11_bit_25 wm_136 wb_100 (sX11_in hv3033) rfl (Nat.le_of_ble_eq_true rfl) (Nat.le_of_ble_eq_true rfl) rfl <| ml_if_eq dX11_bit_28 h (fun _ h => ml_iconst dX11_bit_43 kc_im1 <| ml_rI (mk := ml_i) hr dX11_bit_44 (fun _ => trivial) h) (fun _ h => ml_iload dX11_bit_31 4 rfl <| ml_iconst dX11_bit_33 kc_i0 <| ml_sipush dX11_bit_34 kc_s999 <| ml_b1_of h fun r3036 hv3035 h => ml_callS dX11_bit_37 wm_136 wb_100 (sX11_in hv3035) rfl (Nat.le_of_ble_eq_true rfl) (Nat.le_of_ble_eq_true rfl) rfl <| ml_if_ne dX11_bit_40 h (fun _ h => ml_aload_n dX11_bit_45 0 rfl <| ml_ck_of h fun hc3037 h => ml_getI dX11_bit_46 wb_404 hc3037 <| ml_bipush dX11_bit_49 kc_b10 <| ml_icmp_ne dX11_bit_51 h (fun _ h => ml_aload_n dX11_bit_57 0 rfl <| ml_getR dX11_bit_58 wb_405 hc3037 <| ml_lx (mk := ml_r) h fun a3038 h => ml_iconst dX11_bit_61 kc_i4 <| ml_aload_n dX11_bit_62 0 rfl <| ml_getI dX11_bit_63 wb_404 hc3037 <| ml_imul dX11_bit_66 <| ml_iload_n dX11_bit_67 1 rfl <| ml_ck_of h fun hi3039 h => ml_iast dX11_bit_68 hi3039 <| ml_lt (m := m) rfl h fun m3040 em3041 h => ml_aload_n dX11_bit_69 0 rfl <| ml_getR dX11_bit_70 wb_405 (ml_kk em3041 hc3037) <| ml_lx (mk := ml_r) h fun a3042 h => ml_iconst dX11_bit_73 kc_i4 <| ml_aload_n dX11_bit_74 0 rfl <| ml_getI dX11_bit_75 wb_404 (ml_kk em3041 hc3037) <| ml_imul dX11_bit_78 <| ml_iconst dX11_bit_79 kc_i1 <| ml_iadd dX11_bit_80 <| ml_iload_n dX11_bit_81 2 rfl <| ml_ck_of h fun hi3043 h => ml_iast dX11_bit_82 hi3043 <| ml_lt (m := m3040) rfl h fun m3044 em3045 h => ml_aload_n dX11_bit_83 0 rfl <| ml_getR dX11_bit_84 wb_405 (ml_kk em3045 (ml_kk em3041 hc3037)) <| ml_lx (mk := ml_r) h fun a3046 h => ml_iconst dX11_bit_87 kc_i4 <| ml_aload_n dX11_bit_88 0 rfl <| ml_getI dX11_bit_89 wb_404 (ml_kk em3045 (ml_kk em3041 hc3037)) <| ml_imul dX11_bit_92 <| ml_iconst dX11_bit_93 kc_i2 <| ml_iadd dX11_bit_94 <| ml_iload_n dX11_bit_95 3 rfl <| ml_ck_of h fun hi3047 h => ml_iast dX11_bit_96 hi3047 <| ml_lt (m := m3044) rfl h fun m3048 em3049 h => ml_aload_n dX11_bit_97 0 rfl <| ml_getR dX11_bit_98 wb_405 (ml_kk em3049 (ml_kk em3045 (ml_kk em3041 hc3037))) <| ml_lx (mk := ml_r) h fun a3050 h => ml_iconst dX11_bit_101 kc_i4 <| ml_aload_n dX11_bit_102 0 rfl <| ml_getI dX11_bit_103 wb_404 (ml_kk em3049 (ml_kk em3045 (ml_kk em3041 hc3037))) <| ml_imul dX11_bit_106 <| ml_iconst dX11_bit_107 kc_i3 <| ml_iadd dX11_bit_108 <| ml_iload dX11_bit_109 4 rfl <| ml_ck_of h fun hi3051 h => ml_iast dX11_bit_111 hi3051 <| ml_lt (m := m3048) rfl h fun m3052 em3053 h => ml_aload_n dX11_bit_112 0 rfl <| ml_dup dX11_bit_113 rfl <| ml_getI dX11_bit_114 wb_404 (ml_kk em3053 (ml_kk em3049 (ml_kk em3045 (ml_kk em3041 hc3037)))) <| ml_iconst dX11_bit_117 kc_i1 <| ml_iadd dX11_bit_118 <| ml_putI dX11_bit_119 wb_194 (ml_kk em3053 (ml_kk em3049 (ml_kk em3045 (ml_kk em3041 hc3037)))) <| ml_lt (m := m3052) rfl h fun m3054 em3055 h => ml_aload_n dX11_bit_122 0 rfl <| ml_getI dX11_bit_123 wb_404 (ml_kk em3055 (ml_kk em3053 (ml_kk em3049 (ml_kk em3045 (ml_kk em3041 hc3037))))) <| ml_iconst dX11_bit_126 kc_i1 <| ml_isub dX11_bit_127 <| ml_rI (mk := ml_i) hr dX11_bit_128 (fun _ => trivial) h) (fun _ h => ml_bipush dX11_bit_54 kc_bm2 <| ml_rI (mk := ml_i) hr dX11_bit_56 (fun _ => trivial) h)) (fun _ h => ml_iconst dX11_bit_43 kc_im1 <| ml_rI (mk := ml_i) hr dX11_bit_44 (fun _ => trivial) h))))
theorem sX11_bit {l0 : Nat} {l1 : Int32} {l2 : Int32} {l3 : Int32} {l4 : Int32} {m : ml_M} {rv : Int32} {rm : ml_M} (h : fX11_bit l0 l1 l2 l3 l4 m = some (rv, rm)) : ml_Sn yX11_bit cX11_bit 5 (some .int) 3 [ml_r l0, ml_i l1, ml_i l2, ml_i l3, ml_i l4] m (some (ml_i rv)) rm :=
  ml_Sn_of (P := True) (ini := false) (by decide +kernel) (Nat.le_of_ble_eq_true rfl) (fun h => by cases h) (fun _ => ml_RkI rv) fun E hL hr => wX11_bit_0 hL hr _ _ _ _ _ _ h
theorem dX0_meets_0 : ml_d cX0_meets 0 (.aload_n 0) 1 1 := ⟨by decide +kernel, rfl⟩
theorem dX0_meets_1 : ml_d cX0_meets 1 (.getfield 19) 3 4 := ⟨by decide +kernel, rfl⟩
theorem dX0_meets_4 : ml_d cX0_meets 4 (.aload_n 1) 1 5 := ⟨by decide +kernel, rfl⟩
theorem dX0_meets_5 : ml_d cX0_meets 5 (.getfield 16) 3 8 := ⟨by decide +kernel, rfl⟩
theorem dX0_meets_8 : ml_d cX0_meets 8 (.iadd) 1 9 := ⟨by decide +kernel, rfl⟩
theorem dX0_meets_9 : ml_d cX0_meets 9 (.sipush 1000) 3 12 := ⟨by decide +kernel, rfl⟩
theorem dX0_meets_12 : ml_j cX0_meets 12 (.if_icmp .ne) 41 15 := ⟨29, by decide +kernel, by decide, rfl⟩
theorem dX0_meets_15 : ml_d cX0_meets 15 (.aload_n 0) 1 16 := ⟨by decide +kernel, rfl⟩
theorem dX0_meets_16 : ml_d cX0_meets 16 (.getfield 7) 3 19 := ⟨by decide +kernel, rfl⟩
theorem dX0_meets_19 : ml_d cX0_meets 19 (.aload_n 1) 1 20 := ⟨by decide +kernel, rfl⟩
theorem dX0_meets_20 : ml_d cX0_meets 20 (.getfield 7) 3 23 := ⟨by decide +kernel, rfl⟩
theorem dX0_meets_23 : ml_j cX0_meets 23 (.if_icmp .ne) 41 26 := ⟨18, by decide +kernel, by decide, rfl⟩
theorem dX0_meets_26 : ml_d cX0_meets 26 (.aload_n 0) 1 27 := ⟨by decide +kernel, rfl⟩
theorem dX0_meets_27 : ml_d cX0_meets 27 (.getfield 13) 3 30 := ⟨by decide +kernel, rfl⟩
theorem dX0_meets_30 : ml_d cX0_meets 30 (.aload_n 1) 1 31 := ⟨by decide +kernel, rfl⟩
theorem dX0_meets_31 : ml_d cX0_meets 31 (.getfield 13) 3 34 := ⟨by decide +kernel, rfl⟩
theorem dX0_meets_34 : ml_j cX0_meets 34 (.if_icmp .ne) 41 37 := ⟨7, by decide +kernel, by decide, rfl⟩
theorem dX0_meets_37 : ml_d cX0_meets 37 (.iconst 1) 1 38 := ⟨by decide +kernel, rfl⟩
theorem dX0_meets_38 : ml_j cX0_meets 38 .goto 42 41 := ⟨4, by decide +kernel, by decide, rfl⟩
theorem dX0_meets_41 : ml_d cX0_meets 41 (.iconst 0) 1 42 := ⟨by decide +kernel, rfl⟩
theorem dX0_meets_42 : ml_d cX0_meets 42 (.ireturn) 1 43 := ⟨by decide +kernel, rfl⟩
def fX0_meets (l0 : Nat) (l1 : Nat) (m : ml_M) : Option Int32 :=
    if (ml_K m l0).1 = 0 then
    if (ml_K m l1).1 = 0 then
    if ((ml_I m l0 3) + (ml_I m l1 2)) = (1000 : Int32) then
    if (ml_I m l0 0) = (ml_I m l1 0) then
    if (ml_I m l0 1) = (ml_I m l1 1) then
    some (1 : Int32)
    else
    some (0 : Int32)
    else
    some (0 : Int32)
    else
    some (0 : Int32)
    else none
    else none
theorem wX0_meets_0 {E : ml_E} (hL : ml_eL E = 2) {rv : Int32} {m : ml_M} (hr : ∀ (pc pc' : Nat) (lv : List (Nat × ml_X)), ml_d cX0_meets pc .ireturn 1 pc' → (rv = 0 ∨ rv = 1) → ml_V E "LostRoom$Bit" cX0_meets 2 false m pc lv [ml_i rv]) : ∀ (l0 : Nat) (l1 : Nat), fX0_meets l0 l1 m = some rv → ml_V E "LostRoom$Bit" cX0_meets 2 false m 0 [(0, ml_r l0), (1, ml_r l1)] [] := by
  intro l0 l1 h
  unfold fX0_meets at h
  exact ml_aload_n dX0_meets_0 0 rfl <| ml_ck_of h fun hc3056 h => ml_getI dX0_meets_1 wb_406 hc3056 <| ml_aload_n dX0_meets_4 1 rfl <| ml_ck_of h fun hc3057 h => ml_getI dX0_meets_5 wb_407 hc3057 <| ml_iadd dX0_meets_8 <| ml_sipush dX0_meets_9 kc_s1000 <| ml_icmp_ne dX0_meets_12 h (fun _ h => ml_iconst dX0_meets_41 kc_i0 <| ml_rp (mk := ml_i) hr dX0_meets_42 (fun e => Or.inl e.symm) h) (fun _ h => ml_aload_n dX0_meets_15 0 rfl <| ml_getI dX0_meets_16 wb_408 hc3056 <| ml_aload_n dX0_meets_19 1 rfl <| ml_getI dX0_meets_20 wb_408 hc3057 <| ml_icmp_ne dX0_meets_23 h (fun _ h => ml_iconst dX0_meets_41 kc_i0 <| ml_rp (mk := ml_i) hr dX0_meets_42 (fun e => Or.inl e.symm) h) (fun _ h => ml_aload_n dX0_meets_26 0 rfl <| ml_getI dX0_meets_27 wb_409 hc3056 <| ml_aload_n dX0_meets_30 1 rfl <| ml_getI dX0_meets_31 wb_409 hc3057 <| ml_icmp_ne dX0_meets_34 h (fun _ h => ml_iconst dX0_meets_41 kc_i0 <| ml_rp (mk := ml_i) hr dX0_meets_42 (fun e => Or.inl e.symm) h) (fun _ h => ml_iconst dX0_meets_37 kc_i1 <| ml_goto dX0_meets_38 <| ml_rp (mk := ml_i) hr dX0_meets_42 (fun e => Or.inr e.symm) h)))
theorem sX0_meets {l0 : Nat} {l1 : Nat} {m : ml_M} {rv : Int32} (h : fX0_meets l0 l1 m = some rv) : ml_Sn yX0_meets cX0_meets 2 (some .boolean) 2 [ml_r l0, ml_r l1] m (some (ml_i rv)) m :=
  ml_Sn_of (P := (rv = 0 ∨ rv = 1)) (ini := false) (by decide +kernel) (Nat.le_of_ble_eq_true rfl) (fun h => by cases h) (fun hz => ml_RkZ rv hz) fun E hL hr => wX0_meets_0 hL hr _ _ h
theorem dX10_joins_0 : ml_d cX10_joins 0 (.iload_n 1) 1 1 := ⟨by decide +kernel, rfl⟩
theorem dX10_joins_1 : ml_d cX10_joins 1 (.iconst 0) 1 2 := ⟨by decide +kernel, rfl⟩
theorem dX10_joins_2 : ml_d cX10_joins 2 (.aload_n 0) 1 3 := ⟨by decide +kernel, rfl⟩
theorem dX10_joins_3 : ml_d cX10_joins 3 (.getfield 124) 3 6 := ⟨by decide +kernel, rfl⟩
theorem dX10_joins_6 : ml_d cX10_joins 6 (.iconst 1) 1 7 := ⟨by decide +kernel, rfl⟩
theorem dX10_joins_7 : ml_d cX10_joins 7 (.isub) 1 8 := ⟨by decide +kernel, rfl⟩
theorem dX10_joins_8 : ml_d cX10_joins 8 (.invokestatic 138) 3 11 := ⟨by decide +kernel, rfl⟩
theorem dX10_joins_11 : ml_j cX10_joins 11 (.ifCond .eq) 33 14 := ⟨22, by decide +kernel, by decide, rfl⟩
theorem dX10_joins_14 : ml_d cX10_joins 14 (.iload_n 2) 1 15 := ⟨by decide +kernel, rfl⟩
theorem dX10_joins_15 : ml_d cX10_joins 15 (.iconst 0) 1 16 := ⟨by decide +kernel, rfl⟩
theorem dX10_joins_16 : ml_d cX10_joins 16 (.aload_n 0) 1 17 := ⟨by decide +kernel, rfl⟩
theorem dX10_joins_17 : ml_d cX10_joins 17 (.getfield 124) 3 20 := ⟨by decide +kernel, rfl⟩
theorem dX10_joins_20 : ml_d cX10_joins 20 (.iconst 1) 1 21 := ⟨by decide +kernel, rfl⟩
theorem dX10_joins_21 : ml_d cX10_joins 21 (.isub) 1 22 := ⟨by decide +kernel, rfl⟩
theorem dX10_joins_22 : ml_d cX10_joins 22 (.invokestatic 138) 3 25 := ⟨by decide +kernel, rfl⟩
theorem dX10_joins_25 : ml_j cX10_joins 25 (.ifCond .eq) 33 28 := ⟨8, by decide +kernel, by decide, rfl⟩
theorem dX10_joins_28 : ml_d cX10_joins 28 (.iload_n 1) 1 29 := ⟨by decide +kernel, rfl⟩
theorem dX10_joins_29 : ml_d cX10_joins 29 (.iload_n 2) 1 30 := ⟨by decide +kernel, rfl⟩
theorem dX10_joins_30 : ml_j cX10_joins 30 (.if_icmp .ne) 35 33 := ⟨5, by decide +kernel, by decide, rfl⟩
theorem dX10_joins_33 : ml_d cX10_joins 33 (.iconst (-1)) 1 34 := ⟨by decide +kernel, rfl⟩
theorem dX10_joins_34 : ml_d cX10_joins 34 (.ireturn) 1 35 := ⟨by decide +kernel, rfl⟩
theorem dX10_joins_35 : ml_d cX10_joins 35 (.aload_n 0) 1 36 := ⟨by decide +kernel, rfl⟩
theorem dX10_joins_36 : ml_d cX10_joins 36 (.getfield 48) 3 39 := ⟨by decide +kernel, rfl⟩
theorem dX10_joins_39 : ml_d cX10_joins 39 (.iload_n 1) 1 40 := ⟨by decide +kernel, rfl⟩
theorem dX10_joins_40 : ml_d cX10_joins 40 (.aaload) 1 41 := ⟨by decide +kernel, rfl⟩
theorem dX10_joins_41 : ml_d cX10_joins 41 (.aload_n 0) 1 42 := ⟨by decide +kernel, rfl⟩
theorem dX10_joins_42 : ml_d cX10_joins 42 (.getfield 48) 3 45 := ⟨by decide +kernel, rfl⟩
theorem dX10_joins_45 : ml_d cX10_joins 45 (.iload_n 2) 1 46 := ⟨by decide +kernel, rfl⟩
theorem dX10_joins_46 : ml_d cX10_joins 46 (.aaload) 1 47 := ⟨by decide +kernel, rfl⟩
theorem dX10_joins_47 : ml_d cX10_joins 47 (.invokevirtual 284) 3 50 := ⟨by decide +kernel, rfl⟩
theorem dX10_joins_50 : ml_j cX10_joins 50 (.ifCond .eq) 57 53 := ⟨7, by decide +kernel, by decide, rfl⟩
theorem dX10_joins_53 : ml_d cX10_joins 53 (.iconst 1) 1 54 := ⟨by decide +kernel, rfl⟩
theorem dX10_joins_54 : ml_j cX10_joins 54 .goto 58 57 := ⟨4, by decide +kernel, by decide, rfl⟩
theorem dX10_joins_57 : ml_d cX10_joins 57 (.iconst 0) 1 58 := ⟨by decide +kernel, rfl⟩
theorem dX10_joins_58 : ml_d cX10_joins 58 (.ireturn) 1 59 := ⟨by decide +kernel, rfl⟩
def fX10_joins (l0 : Nat) (l1 : Int32) (l2 : Int32) (m : ml_M) : Option Int32 :=
    if (ml_K m l0).1 = 10 then
    ml_b1 (fX10_within l1 (0 : Int32) ((ml_I m l0 9) - (1 : Int32)) m) fun r3060 =>
    if r3060 = 0 then
    some (-1 : Int32)
    else
    ml_b1 (fX10_within l2 (0 : Int32) ((ml_I m l0 9) - (1 : Int32)) m) fun r3062 =>
    if r3062 = 0 then
    some (-1 : Int32)
    else
    if l1 = l2 then
    some (-1 : Int32)
    else
    ml_let (ml_R m l0 8) fun a3063 =>
    if ml_in m a3063 25 l1 then
    ml_let (ml_R m a3063 l1.toNatClampNeg) fun a3065 =>
    ml_let (ml_R m l0 8) fun a3066 =>
    if ml_in m a3066 25 l2 then
    ml_let (ml_R m a3066 l2.toNatClampNeg) fun a3068 =>
    if (ml_K m a3065).1 = 0 then
    ml_b1 (fX0_meets a3065 a3068 m) fun r3071 =>
    if r3071 = 0 then
    some (0 : Int32)
    else
    some (1 : Int32)
    else none
    else none
    else none
    else none
theorem wX10_joins_0 {E : ml_E} (hL : ml_eL E = 3) {rv : Int32} {m : ml_M} (hr : ∀ (pc pc' : Nat) (lv : List (Nat × ml_X)), ml_d cX10_joins pc .ireturn 1 pc' → True → ml_V E "LostRoom" cX10_joins 3 false m pc lv [ml_i rv]) : ∀ (l0 : Nat) (l1 : Int32) (l2 : Int32), fX10_joins l0 l1 l2 m = some rv → ml_V E "LostRoom" cX10_joins 3 false m 0 [(0, ml_r l0), (1, ml_i l1), (2, ml_i l2)] [] := by
  intro l0 l1 l2 h
  unfold fX10_joins at h
  exact ml_iload_n dX10_joins_0 1 rfl <| ml_iconst dX10_joins_1 kc_i0 <| ml_aload_n dX10_joins_2 0 rfl <| ml_ck_of h fun hc3058 h => ml_getI dX10_joins_3 wb_400 hc3058 <| ml_iconst dX10_joins_6 kc_i1 <| ml_isub dX10_joins_7 <| ml_b1_of h fun r3060 hv3059 h => ml_callS dX10_joins_8 wm_124 wb_94 (sX10_within hv3059) rfl (Nat.le_of_ble_eq_true rfl) (Nat.le_of_ble_eq_true rfl) rfl <| ml_if_eq dX10_joins_11 h (fun _ h => ml_iconst dX10_joins_33 kc_im1 <| ml_rp (mk := ml_i) hr dX10_joins_34 (fun _ => trivial) h) (fun _ h => ml_iload_n dX10_joins_14 2 rfl <| ml_iconst dX10_joins_15 kc_i0 <| ml_aload_n dX10_joins_16 0 rfl <| ml_getI dX10_joins_17 wb_400 hc3058 <| ml_iconst dX10_joins_20 kc_i1 <| ml_isub dX10_joins_21 <| ml_b1_of h fun r3062 hv3061 h => ml_callS dX10_joins_22 wm_124 wb_94 (sX10_within hv3061) rfl (Nat.le_of_ble_eq_true rfl) (Nat.le_of_ble_eq_true rfl) rfl <| ml_if_eq dX10_joins_25 h (fun _ h => ml_iconst dX10_joins_33 kc_im1 <| ml_rp (mk := ml_i) hr dX10_joins_34 (fun _ => trivial) h) (fun _ h => ml_iload_n dX10_joins_28 1 rfl <| ml_iload_n dX10_joins_29 2 rfl <| ml_icmp_ne dX10_joins_30 h (fun _ h => ml_aload_n dX10_joins_35 0 rfl <| ml_getR dX10_joins_36 wb_401 hc3058 <| ml_lx (mk := ml_r) h fun a3063 h => ml_iload_n dX10_joins_39 1 rfl <| ml_ck_of h fun hi3064 h => ml_aald (kd := 25) dX10_joins_40 (by decide) hi3064 <| ml_lx (mk := ml_r) h fun a3065 h => ml_aload_n dX10_joins_41 0 rfl <| ml_getR dX10_joins_42 wb_401 hc3058 <| ml_lx (mk := ml_r) h fun a3066 h => ml_iload_n dX10_joins_45 2 rfl <| ml_ck_of h fun hi3067 h => ml_aald (kd := 25) dX10_joins_46 (by decide) hi3067 <| ml_lx (mk := ml_r) h fun a3068 h => ml_ck_of h fun hc3070 h => ml_b1_of h fun r3071 hv3069 h => ml_callV dX10_joins_47 wm_677 wb_410 hc3070 (sX0_meets hv3069) rfl (Nat.le_of_ble_eq_true rfl) (Nat.le_of_ble_eq_true rfl) rfl <| ml_if_eq dX10_joins_50 h (fun _ h => ml_iconst dX10_joins_57 kc_i0 <| ml_rp (mk := ml_i) hr dX10_joins_58 (fun _ => trivial) h) (fun _ h => ml_iconst dX10_joins_53 kc_i1 <| ml_goto dX10_joins_54 <| ml_rp (mk := ml_i) hr dX10_joins_58 (fun _ => trivial) h)) (fun _ h => ml_iconst dX10_joins_33 kc_im1 <| ml_rp (mk := ml_i) hr dX10_joins_34 (fun _ => trivial) h)))
theorem sX10_joins {l0 : Nat} {l1 : Int32} {l2 : Int32} {m : ml_M} {rv : Int32} (h : fX10_joins l0 l1 l2 m = some rv) : ml_Sn yX10_joins cX10_joins 3 (some .int) 3 [ml_r l0, ml_i l1, ml_i l2] m (some (ml_i rv)) m :=
  ml_Sn_of (P := True) (ini := false) (by decide +kernel) (Nat.le_of_ble_eq_true rfl) (fun h => by cases h) (fun _ => ml_RkI rv) fun E hL hr => wX10_joins_0 hL hr _ _ _ h
theorem dX11_doesJoin_0 : ml_d cX11_doesJoin 0 (.aload_n 0) 1 1 := ⟨by decide +kernel, rfl⟩
theorem dX11_doesJoin_1 : ml_d cX11_doesJoin 1 (.getfield 68) 3 4 := ⟨by decide +kernel, rfl⟩
theorem dX11_doesJoin_4 : ml_d cX11_doesJoin 4 (.iconst 4) 1 5 := ⟨by decide +kernel, rfl⟩
theorem dX11_doesJoin_5 : ml_d cX11_doesJoin 5 (.iload_n 1) 1 6 := ⟨by decide +kernel, rfl⟩
theorem dX11_doesJoin_6 : ml_d cX11_doesJoin 6 (.imul) 1 7 := ⟨by decide +kernel, rfl⟩
theorem dX11_doesJoin_7 : ml_d cX11_doesJoin 7 (.iconst 3) 1 8 := ⟨by decide +kernel, rfl⟩
theorem dX11_doesJoin_8 : ml_d cX11_doesJoin 8 (.iadd) 1 9 := ⟨by decide +kernel, rfl⟩
theorem dX11_doesJoin_9 : ml_d cX11_doesJoin 9 (.iaload) 1 10 := ⟨by decide +kernel, rfl⟩
theorem dX11_doesJoin_10 : ml_d cX11_doesJoin 10 (.aload_n 0) 1 11 := ⟨by decide +kernel, rfl⟩
theorem dX11_doesJoin_11 : ml_d cX11_doesJoin 11 (.getfield 68) 3 14 := ⟨by decide +kernel, rfl⟩
theorem dX11_doesJoin_14 : ml_d cX11_doesJoin 14 (.iconst 4) 1 15 := ⟨by decide +kernel, rfl⟩
theorem dX11_doesJoin_15 : ml_d cX11_doesJoin 15 (.iload_n 2) 1 16 := ⟨by decide +kernel, rfl⟩
theorem dX11_doesJoin_16 : ml_d cX11_doesJoin 16 (.imul) 1 17 := ⟨by decide +kernel, rfl⟩
theorem dX11_doesJoin_17 : ml_d cX11_doesJoin 17 (.iconst 2) 1 18 := ⟨by decide +kernel, rfl⟩
theorem dX11_doesJoin_18 : ml_d cX11_doesJoin 18 (.iadd) 1 19 := ⟨by decide +kernel, rfl⟩
theorem dX11_doesJoin_19 : ml_d cX11_doesJoin 19 (.iaload) 1 20 := ⟨by decide +kernel, rfl⟩
theorem dX11_doesJoin_20 : ml_d cX11_doesJoin 20 (.iadd) 1 21 := ⟨by decide +kernel, rfl⟩
theorem dX11_doesJoin_21 : ml_d cX11_doesJoin 21 (.sipush 1000) 3 24 := ⟨by decide +kernel, rfl⟩
theorem dX11_doesJoin_24 : ml_j cX11_doesJoin 24 (.if_icmp .ne) 73 27 := ⟨49, by decide +kernel, by decide, rfl⟩
theorem dX11_doesJoin_27 : ml_d cX11_doesJoin 27 (.aload_n 0) 1 28 := ⟨by decide +kernel, rfl⟩
theorem dX11_doesJoin_28 : ml_d cX11_doesJoin 28 (.getfield 68) 3 31 := ⟨by decide +kernel, rfl⟩
theorem dX11_doesJoin_31 : ml_d cX11_doesJoin 31 (.iconst 4) 1 32 := ⟨by decide +kernel, rfl⟩
theorem dX11_doesJoin_32 : ml_d cX11_doesJoin 32 (.iload_n 1) 1 33 := ⟨by decide +kernel, rfl⟩
theorem dX11_doesJoin_33 : ml_d cX11_doesJoin 33 (.imul) 1 34 := ⟨by decide +kernel, rfl⟩
theorem dX11_doesJoin_34 : ml_d cX11_doesJoin 34 (.iaload) 1 35 := ⟨by decide +kernel, rfl⟩
theorem dX11_doesJoin_35 : ml_d cX11_doesJoin 35 (.aload_n 0) 1 36 := ⟨by decide +kernel, rfl⟩
theorem dX11_doesJoin_36 : ml_d cX11_doesJoin 36 (.getfield 68) 3 39 := ⟨by decide +kernel, rfl⟩
theorem dX11_doesJoin_39 : ml_d cX11_doesJoin 39 (.iconst 4) 1 40 := ⟨by decide +kernel, rfl⟩
theorem dX11_doesJoin_40 : ml_d cX11_doesJoin 40 (.iload_n 2) 1 41 := ⟨by decide +kernel, rfl⟩
theorem dX11_doesJoin_41 : ml_d cX11_doesJoin 41 (.imul) 1 42 := ⟨by decide +kernel, rfl⟩
theorem dX11_doesJoin_42 : ml_d cX11_doesJoin 42 (.iaload) 1 43 := ⟨by decide +kernel, rfl⟩
theorem dX11_doesJoin_43 : ml_j cX11_doesJoin 43 (.if_icmp .ne) 73 46 := ⟨30, by decide +kernel, by decide, rfl⟩
theorem dX11_doesJoin_46 : ml_d cX11_doesJoin 46 (.aload_n 0) 1 47 := ⟨by decide +kernel, rfl⟩
theorem dX11_doesJoin_47 : ml_d cX11_doesJoin 47 (.getfield 68) 3 50 := ⟨by decide +kernel, rfl⟩
theorem dX11_doesJoin_50 : ml_d cX11_doesJoin 50 (.iconst 4) 1 51 := ⟨by decide +kernel, rfl⟩
theorem dX11_doesJoin_51 : ml_d cX11_doesJoin 51 (.iload_n 1) 1 52 := ⟨by decide +kernel, rfl⟩
theorem dX11_doesJoin_52 : ml_d cX11_doesJoin 52 (.imul) 1 53 := ⟨by decide +kernel, rfl⟩
theorem dX11_doesJoin_53 : ml_d cX11_doesJoin 53 (.iconst 1) 1 54 := ⟨by decide +kernel, rfl⟩
theorem dX11_doesJoin_54 : ml_d cX11_doesJoin 54 (.iadd) 1 55 := ⟨by decide +kernel, rfl⟩
theorem dX11_doesJoin_55 : ml_d cX11_doesJoin 55 (.iaload) 1 56 := ⟨by decide +kernel, rfl⟩
theorem dX11_doesJoin_56 : ml_d cX11_doesJoin 56 (.aload_n 0) 1 57 := ⟨by decide +kernel, rfl⟩
theorem dX11_doesJoin_57 : ml_d cX11_doesJoin 57 (.getfield 68) 3 60 := ⟨by decide +kernel, rfl⟩
theorem dX11_doesJoin_60 : ml_d cX11_doesJoin 60 (.iconst 4) 1 61 := ⟨by decide +kernel, rfl⟩
theorem dX11_doesJoin_61 : ml_d cX11_doesJoin 61 (.iload_n 2) 1 62 := ⟨by decide +kernel, rfl⟩
theorem dX11_doesJoin_62 : ml_d cX11_doesJoin 62 (.imul) 1 63 := ⟨by decide +kernel, rfl⟩
theorem dX11_doesJoin_63 : ml_d cX11_doesJoin 63 (.iconst 1) 1 64 := ⟨by decide +kernel, rfl⟩
theorem dX11_doesJoin_64 : ml_d cX11_doesJoin 64 (.iadd) 1 65 := ⟨by decide +kernel, rfl⟩
theorem dX11_doesJoin_65 : ml_d cX11_doesJoin 65 (.iaload) 1 66 := ⟨by decide +kernel, rfl⟩
theorem dX11_doesJoin_66 : ml_j cX11_doesJoin 66 (.if_icmp .ne) 73 69 := ⟨7, by decide +kernel, by decide, rfl⟩
theorem dX11_doesJoin_69 : ml_d cX11_doesJoin 69 (.iconst 1) 1 70 := ⟨by decide +kernel, rfl⟩
theorem dX11_doesJoin_70 : ml_j cX11_doesJoin 70 .goto 74 73 := ⟨4, by decide +kernel, by decide, rfl⟩
theorem dX11_doesJoin_73 : ml_d cX11_doesJoin 73 (.iconst 0) 1 74 := ⟨by decide +kernel, rfl⟩
theorem dX11_doesJoin_74 : ml_d cX11_doesJoin 74 (.ireturn) 1 75 := ⟨by decide +kernel, rfl⟩
def fX11_doesJoin (l0 : Nat) (l1 : Int32) (l2 : Int32) (m : ml_M) : Option Int32 :=
    if (ml_K m l0).1 = 11 then
    ml_let (ml_R m l0 38) fun a3073 =>
    if ml_in m a3073 20 (((4 : Int32) * l1) + (3 : Int32)) then
    ml_let (ml_R m l0 38) fun a3075 =>
    if ml_in m a3075 20 (((4 : Int32) * l2) + (2 : Int32)) then
    if ((ml_I m a3073 (((4 : Int32) * l1) + (3 : Int32)).toNatClampNeg) + (ml_I m a3075 (((4 : Int32) * l2) + (2 : Int32)).toNatClampNeg)) = (1000 : Int32) then
    ml_let (ml_R m l0 38) fun a3077 =>
    if ml_in m a3077 20 ((4 : Int32) * l1) then
    ml_let (ml_R m l0 38) fun a3079 =>
    if ml_in m a3079 20 ((4 : Int32) * l2) then
    if (ml_I m a3077 ((4 : Int32) * l1).toNatClampNeg) = (ml_I m a3079 ((4 : Int32) * l2).toNatClampNeg) then
    ml_let (ml_R m l0 38) fun a3081 =>
    if ml_in m a3081 20 (((4 : Int32) * l1) + (1 : Int32)) then
    ml_let (ml_R m l0 38) fun a3083 =>
    if ml_in m a3083 20 (((4 : Int32) * l2) + (1 : Int32)) then
    if (ml_I m a3081 (((4 : Int32) * l1) + (1 : Int32)).toNatClampNeg) = (ml_I m a3083 (((4 : Int32) * l2) + (1 : Int32)).toNatClampNeg) then
    some (1 : Int32)
    else
    some (0 : Int32)
    else none
    else none
    else
    some (0 : Int32)
    else none
    else none
    else
    some (0 : Int32)
    else none
    else none
    else none
theorem wX11_doesJoin_0 {E : ml_E} (hL : ml_eL E = 3) {rv : Int32} {m : ml_M} (hr : ∀ (pc pc' : Nat) (lv : List (Nat × ml_X)), ml_d cX11_doesJoin pc .ireturn 1 pc' → (rv = 0 ∨ rv = 1) → ml_V E "LostRoomModel" cX11_doesJoin 2 false m pc lv [ml_i rv]) : ∀ (l0 : Nat) (l1 : Int32) (l2 : Int32), fX11_doesJoin l0 l1 l2 m = some rv → ml_V E "LostRoomModel" cX11_doesJoin 2 false m 0 [(0, ml_r l0), (1, ml_i l1), (2, ml_i l2)] [] := by
  intro l0 l1 l2 h
  unfold fX11_doesJoin at h
  exact ml_aload_n dX11_doesJoin_0 0 rfl <| ml_ck_of h fun hc3072 h => ml_getR dX11_doesJoin_1 wb_405 hc3072 <| ml_lx (mk := ml_r) h fun a3073 h => ml_iconst dX11_doesJoin_4 kc_i4 <| ml_iload_n dX11_doesJoin_5 1 rfl <| ml_imul dX11_doesJoin_6 <| ml_iconst dX11_doesJoin_7 kc_i3 <| ml_iadd dX11_doesJoin_8 <| ml_ck_of h fun hi3074 h => ml_iald dX11_doesJoin_9 hi3074 <| ml_aload_n dX11_doesJoin_10 0 rfl <| ml_getR dX11_doesJoin_11 wb_405 hc3072 <| ml_lx (mk := ml_r) h fun a3075 h => ml_iconst dX11_doesJoin_14 kc_i4 <| ml_iload_n dX11_doesJoin_15 2 rfl <| ml_imul dX11_doesJoin_16 <| ml_iconst dX11_doesJoin_17 kc_i2 <| ml_iadd dX11_doesJoin_18 <| ml_ck_of h fun hi3076 h => ml_iald dX11_doesJoin_19 hi3076 <| ml_iadd dX11_doesJoin_20 <| ml_sipush dX11_doesJoin_21 kc_s1000 <| ml_icmp_ne dX11_doesJoin_24 h (fun _ h => ml_iconst dX11_doesJoin_73 kc_i0 <| ml_rp (mk := ml_i) hr dX11_doesJoin_74 (fun e => Or.inl e.symm) h) (fun _ h => ml_aload_n dX11_doesJoin_27 0 rfl <| ml_getR dX11_doesJoin_28 wb_405 hc3072 <| ml_lx (mk := ml_r) h fun a3077 h => ml_iconst dX11_doesJoin_31 kc_i4 <| ml_iload_n dX11_doesJoin_32 1 rfl <| ml_imul dX11_doesJoin_33 <| ml_ck_of h fun hi3078 h => ml_iald dX11_doesJoin_34 hi3078 <| ml_aload_n dX11_doesJoin_35 0 rfl <| ml_getR dX11_doesJoin_36 wb_405 hc3072 <| ml_lx (mk := ml_r) h fun a3079 h => ml_iconst dX11_doesJoin_39 kc_i4 <| ml_iload_n dX11_doesJoin_40 2 rfl <| ml_imul dX11_doesJoin_41 <| ml_ck_of h fun hi3080 h => ml_iald dX11_doesJoin_42 hi3080 <| ml_icmp_ne dX11_doesJoin_43 h (fun _ h => ml_iconst dX11_doesJoin_73 kc_i0 <| ml_rp (mk := ml_i) hr dX11_doesJoin_74 (fun e => Or.inl e.symm) h) (fun _ h => ml_aload_n dX11_doesJoin_46 0 rfl <| ml_getR dX11_doesJoin_47 wb_405 hc3072 <| ml_lx (mk := ml_r) h fun a3081 h => ml_iconst dX11_doesJoin_50 kc_i4 <| ml_iload_n dX11_doesJoin_51 1 rfl <| ml_imul dX11_doesJoin_52 <| ml_iconst dX11_doesJoin_53 kc_i1 <| ml_iadd dX11_doesJoin_54 <| ml_ck_of h fun hi3082 h => ml_iald dX11_doesJoin_55 hi3082 <| ml_aload_n dX11_doesJoin_56 0 rfl <| ml_getR dX11_doesJoin_57 wb_405 hc3072 <| ml_lx (mk := ml_r) h fun a3083 h => ml_iconst dX11_doesJoin_60 kc_i4 <| ml_iload_n dX11_doesJoin_61 2 rfl <| ml_imul dX11_doesJoin_62 <| ml_iconst dX11_doesJoin_63 kc_i1 <| ml_iadd dX11_doesJoin_64 <| ml_ck_of h fun hi3084 h => ml_iald dX11_doesJoin_65 hi3084 <| ml_icmp_ne dX11_doesJoin_66 h (fun _ h => ml_iconst dX11_doesJoin_73 kc_i0 <| ml_rp (mk := ml_i) hr dX11_doesJoin_74 (fun e => Or.inl e.symm) h) (fun _ h => ml_iconst dX11_doesJoin_69 kc_i1 <| ml_goto dX11_doesJoin_70 <| ml_rp (mk := ml_i) hr dX11_doesJoin_74 (fun e => Or.inr e.symm) h)))
theorem sX11_doesJoin {l0 : Nat} {l1 : Int32} {l2 : Int32} {m : ml_M} {rv : Int32} (h : fX11_doesJoin l0 l1 l2 m = some rv) : ml_Sn yX11_doesJoin cX11_doesJoin 3 (some .boolean) 2 [ml_r l0, ml_i l1, ml_i l2] m (some (ml_i rv)) m :=
  ml_Sn_of (P := (rv = 0 ∨ rv = 1)) (ini := false) (by decide +kernel) (Nat.le_of_ble_eq_true rfl) (fun h => by cases h) (fun hz => ml_RkZ rv hz) fun E hL hr => wX11_doesJoin_0 hL hr _ _ _ h
theorem dX11_joins_0 : ml_d cX11_joins 0 (.iload_n 1) 1 1 := ⟨by decide +kernel, rfl⟩
theorem dX11_joins_1 : ml_d cX11_joins 1 (.iconst 0) 1 2 := ⟨by decide +kernel, rfl⟩
theorem dX11_joins_2 : ml_d cX11_joins 2 (.aload_n 0) 1 3 := ⟨by decide +kernel, rfl⟩
theorem dX11_joins_3 : ml_d cX11_joins 3 (.getfield 187) 3 6 := ⟨by decide +kernel, rfl⟩
theorem dX11_joins_6 : ml_d cX11_joins 6 (.iconst 1) 1 7 := ⟨by decide +kernel, rfl⟩
theorem dX11_joins_7 : ml_d cX11_joins 7 (.isub) 1 8 := ⟨by decide +kernel, rfl⟩
theorem dX11_joins_8 : ml_d cX11_joins 8 (.invokestatic 100) 3 11 := ⟨by decide +kernel, rfl⟩
theorem dX11_joins_11 : ml_j cX11_joins 11 (.ifCond .eq) 50 14 := ⟨39, by decide +kernel, by decide, rfl⟩
theorem dX11_joins_14 : ml_d cX11_joins 14 (.iload_n 2) 1 15 := ⟨by decide +kernel, rfl⟩
theorem dX11_joins_15 : ml_d cX11_joins 15 (.iconst 0) 1 16 := ⟨by decide +kernel, rfl⟩
theorem dX11_joins_16 : ml_d cX11_joins 16 (.aload_n 0) 1 17 := ⟨by decide +kernel, rfl⟩
theorem dX11_joins_17 : ml_d cX11_joins 17 (.getfield 187) 3 20 := ⟨by decide +kernel, rfl⟩
theorem dX11_joins_20 : ml_d cX11_joins 20 (.iconst 1) 1 21 := ⟨by decide +kernel, rfl⟩
theorem dX11_joins_21 : ml_d cX11_joins 21 (.isub) 1 22 := ⟨by decide +kernel, rfl⟩
theorem dX11_joins_22 : ml_d cX11_joins 22 (.invokestatic 100) 3 25 := ⟨by decide +kernel, rfl⟩
theorem dX11_joins_25 : ml_j cX11_joins 25 (.ifCond .eq) 50 28 := ⟨25, by decide +kernel, by decide, rfl⟩
theorem dX11_joins_28 : ml_d cX11_joins 28 (.iload_n 1) 1 29 := ⟨by decide +kernel, rfl⟩
theorem dX11_joins_29 : ml_d cX11_joins 29 (.iload_n 2) 1 30 := ⟨by decide +kernel, rfl⟩
theorem dX11_joins_30 : ml_j cX11_joins 30 (.if_icmp .eq) 50 33 := ⟨20, by decide +kernel, by decide, rfl⟩
theorem dX11_joins_33 : ml_d cX11_joins 33 (.aload_n 0) 1 34 := ⟨by decide +kernel, rfl⟩
theorem dX11_joins_34 : ml_d cX11_joins 34 (.iload_n 1) 1 35 := ⟨by decide +kernel, rfl⟩
theorem dX11_joins_35 : ml_d cX11_joins 35 (.iload_n 2) 1 36 := ⟨by decide +kernel, rfl⟩
theorem dX11_joins_36 : ml_d cX11_joins 36 (.invokevirtual 325) 3 39 := ⟨by decide +kernel, rfl⟩
theorem dX11_joins_39 : ml_j cX11_joins 39 (.ifCond .eq) 46 42 := ⟨7, by decide +kernel, by decide, rfl⟩
theorem dX11_joins_42 : ml_d cX11_joins 42 (.iconst 1) 1 43 := ⟨by decide +kernel, rfl⟩
theorem dX11_joins_43 : ml_j cX11_joins 43 .goto 51 46 := ⟨8, by decide +kernel, by decide, rfl⟩
theorem dX11_joins_46 : ml_d cX11_joins 46 (.iconst 0) 1 47 := ⟨by decide +kernel, rfl⟩
theorem dX11_joins_47 : ml_j cX11_joins 47 .goto 51 50 := ⟨4, by decide +kernel, by decide, rfl⟩
theorem dX11_joins_50 : ml_d cX11_joins 50 (.iconst (-1)) 1 51 := ⟨by decide +kernel, rfl⟩
theorem dX11_joins_51 : ml_d cX11_joins 51 (.ireturn) 1 52 := ⟨by decide +kernel, rfl⟩
def fX11_joins (l0 : Nat) (l1 : Int32) (l2 : Int32) (m : ml_M) : Option Int32 :=
    if (ml_K m l0).1 = 11 then
    ml_b1 (fX11_in l1 (0 : Int32) ((ml_I m l0 37) - (1 : Int32)) m) fun r3087 =>
    if r3087 = 0 then
    some (-1 : Int32)
    else
    ml_b1 (fX11_in l2 (0 : Int32) ((ml_I m l0 37) - (1 : Int32)) m) fun r3089 =>
    if r3089 = 0 then
    some (-1 : Int32)
    else
    if l1 = l2 then
    some (-1 : Int32)
    else
    ml_b1 (fX11_doesJoin l0 l1 l2 m) fun r3091 =>
    if r3091 = 0 then
    some (0 : Int32)
    else
    some (1 : Int32)
    else none
theorem wX11_joins_0 {E : ml_E} (hL : ml_eL E = 3) {rv : Int32} {m : ml_M} (hr : ∀ (pc pc' : Nat) (lv : List (Nat × ml_X)), ml_d cX11_joins pc .ireturn 1 pc' → True → ml_V E "LostRoomModel" cX11_joins 3 false m pc lv [ml_i rv]) : ∀ (l0 : Nat) (l1 : Int32) (l2 : Int32), fX11_joins l0 l1 l2 m = some rv → ml_V E "LostRoomModel" cX11_joins 3 false m 0 [(0, ml_r l0), (1, ml_i l1), (2, ml_i l2)] [] := by
  intro l0 l1 l2 h
  unfold fX11_joins at h
  exact ml_iload_n dX11_joins_0 1 rfl <| ml_iconst dX11_joins_1 kc_i0 <| ml_aload_n dX11_joins_2 0 rfl <| ml_ck_of h fun hc3085 h => ml_getI dX11_joins_3 wb_404 hc3085 <| ml_iconst dX11_joins_6 kc_i1 <| ml_isub dX11_joins_7 <| ml_b1_of h fun r3087 hv3086 h => ml_callS dX11_joins_8 wm_136 wb_100 (sX11_in hv3086) rfl (Nat.le_of_ble_eq_true rfl) (Nat.le_of_ble_eq_true rfl) rfl <| ml_if_eq dX11_joins_11 h (fun _ h => ml_iconst dX11_joins_50 kc_im1 <| ml_rp (mk := ml_i) hr dX11_joins_51 (fun _ => trivial) h) (fun _ h => ml_iload_n dX11_joins_14 2 rfl <| ml_iconst dX11_joins_15 kc_i0 <| ml_aload_n dX11_joins_16 0 rfl <| ml_getI dX11_joins_17 wb_404 hc3085 <| ml_iconst dX11_joins_20 kc_i1 <| ml_isub dX11_joins_21 <| ml_b1_of h fun r3089 hv3088 h => ml_callS dX11_joins_22 wm_136 wb_100 (sX11_in hv3088) rfl (Nat.le_of_ble_eq_true rfl) (Nat.le_of_ble_eq_true rfl) rfl <| ml_if_eq dX11_joins_25 h (fun _ h => ml_iconst dX11_joins_50 kc_im1 <| ml_rp (mk := ml_i) hr dX11_joins_51 (fun _ => trivial) h) (fun _ h => ml_iload_n dX11_joins_28 1 rfl <| ml_iload_n dX11_joins_29 2 rfl <| ml_icmp_eq dX11_joins_30 h (fun _ h => ml_iconst dX11_joins_50 kc_im1 <| ml_rp (mk := ml_i) hr dX11_joins_51 (fun _ => trivial) h) (fun _ h => ml_aload_n dX11_joins_33 0 rfl <| ml_iload_n dX11_joins_34 1 rfl <| ml_iload_n dX11_joins_35 2 rfl <| ml_b1_of h fun r3091 hv3090 h => ml_callV dX11_joins_36 wm_681 wb_411 hc3085 (sX11_doesJoin hv3090) rfl (Nat.le_of_ble_eq_true rfl) (Nat.le_of_ble_eq_true rfl) rfl <| ml_if_eq dX11_joins_39 h (fun _ h => ml_iconst dX11_joins_46 kc_i0 <| ml_goto dX11_joins_47 <| ml_rp (mk := ml_i) hr dX11_joins_51 (fun _ => trivial) h) (fun _ h => ml_iconst dX11_joins_42 kc_i1 <| ml_goto dX11_joins_43 <| ml_rp (mk := ml_i) hr dX11_joins_51 (fun _ => trivial) h))))
theorem sX11_joins {l0 : Nat} {l1 : Int32} {l2 : Int32} {m : ml_M} {rv : Int32} (h : fX11_joins l0 l1 l2 m = some rv) : ml_Sn yX11_joins cX11_joins 3 (some .int) 3 [ml_r l0, ml_i l1, ml_i l2] m (some (ml_i rv)) m :=
  ml_Sn_of (P := True) (ini := false) (by decide +kernel) (Nat.le_of_ble_eq_true rfl) (fun h => by cases h) (fun _ => ml_RkI rv) fun E hL hr => wX11_joins_0 hL hr _ _ _ h
theorem dX4_slot_0 : ml_d cX4_slot 0 (.iload_n 0) 1 1 := ⟨by decide +kernel, rfl⟩
theorem dX4_slot_1 : ml_d cX4_slot 1 (.bipush 10) 2 3 := ⟨by decide +kernel, rfl⟩
theorem dX4_slot_3 : ml_d cX4_slot 3 (.imul) 1 4 := ⟨by decide +kernel, rfl⟩
theorem dX4_slot_4 : ml_d cX4_slot 4 (.iload_n 1) 1 5 := ⟨by decide +kernel, rfl⟩
theorem dX4_slot_5 : ml_d cX4_slot 5 (.iadd) 1 6 := ⟨by decide +kernel, rfl⟩
theorem dX4_slot_6 : ml_d cX4_slot 6 (.ireturn) 1 7 := ⟨by decide +kernel, rfl⟩
def fX4_slot (l0 : Int32) (l1 : Int32) (m : ml_M) : Option Int32 :=
    some ((l0 * (10 : Int32)) + l1)
theorem wX4_slot_0 {E : ml_E} (hL : ml_eL E = 2) {rv : Int32} {m : ml_M} (hr : ∀ (pc pc' : Nat) (lv : List (Nat × ml_X)), ml_d cX4_slot pc .ireturn 1 pc' → True → ml_V E "LostRoom$Lays" cX4_slot 2 false m pc lv [ml_i rv]) : ∀ (l0 : Int32) (l1 : Int32), fX4_slot l0 l1 m = some rv → ml_V E "LostRoom$Lays" cX4_slot 2 false m 0 [(0, ml_i l0), (1, ml_i l1)] [] := by
  intro l0 l1 h
  unfold fX4_slot at h
  exact ml_iload_n dX4_slot_0 0 rfl <| ml_bipush dX4_slot_1 kc_b10 <| ml_imul dX4_slot_3 <| ml_iload_n dX4_slot_4 1 rfl <| ml_iadd dX4_slot_5 <| ml_rp (mk := ml_i) hr dX4_slot_6 (fun _ => trivial) h
theorem sX4_slot {l0 : Int32} {l1 : Int32} {m : ml_M} {rv : Int32} (h : fX4_slot l0 l1 m = some rv) : ml_Sn yX4_slot cX4_slot 2 (some .int) 2 [ml_i l0, ml_i l1] m (some (ml_i rv)) m :=
  ml_Sn_of (P := True) (ini := false) (by decide +kernel) (Nat.le_of_ble_eq_true rfl) (fun h => by cases h) (fun _ => ml_RkI rv) fun E hL hr => wX4_slot_0 hL hr _ _ h
theorem dX4_follow_0 : ml_d cX4_follow 0 (.aload_n 0) 1 1 := ⟨by decide +kernel, rfl⟩
theorem dX4_follow_1 : ml_d cX4_follow 1 (.getfield 22) 3 4 := ⟨by decide +kernel, rfl⟩
theorem dX4_follow_4 : ml_d cX4_follow 4 (.iload_n 2) 1 5 := ⟨by decide +kernel, rfl⟩
theorem dX4_follow_5 : ml_d cX4_follow 5 (.iconst 0) 1 6 := ⟨by decide +kernel, rfl⟩
theorem dX4_follow_6 : ml_d cX4_follow 6 (.iastore) 1 7 := ⟨by decide +kernel, rfl⟩
theorem dX4_follow_7 : ml_d cX4_follow 7 (.aload_n 0) 1 8 := ⟨by decide +kernel, rfl⟩
theorem dX4_follow_8 : ml_d cX4_follow 8 (.getfield 25) 3 11 := ⟨by decide +kernel, rfl⟩
theorem dX4_follow_11 : ml_d cX4_follow 11 (.iload_n 2) 1 12 := ⟨by decide +kernel, rfl⟩
theorem dX4_follow_12 : ml_d cX4_follow 12 (.iconst 0) 1 13 := ⟨by decide +kernel, rfl⟩
theorem dX4_follow_13 : ml_d cX4_follow 13 (.iastore) 1 14 := ⟨by decide +kernel, rfl⟩
theorem dX4_follow_14 : ml_d cX4_follow 14 (.iload_n 1) 1 15 := ⟨by decide +kernel, rfl⟩
theorem dX4_follow_15 : ml_d cX4_follow 15 (.iconst 1) 1 16 := ⟨by decide +kernel, rfl⟩
theorem dX4_follow_16 : ml_d cX4_follow 16 (.aload_n 0) 1 17 := ⟨by decide +kernel, rfl⟩
theorem dX4_follow_17 : ml_d cX4_follow 17 (.getfield 28) 3 20 := ⟨by decide +kernel, rfl⟩
theorem dX4_follow_20 : ml_d cX4_follow 20 (.ishl) 1 21 := ⟨by decide +kernel, rfl⟩
theorem dX4_follow_21 : ml_d cX4_follow 21 (.iconst 1) 1 22 := ⟨by decide +kernel, rfl⟩
theorem dX4_follow_22 : ml_d cX4_follow 22 (.isub) 1 23 := ⟨by decide +kernel, rfl⟩
theorem dX4_follow_23 : ml_j cX4_follow 23 (.if_icmp .ne) 33 26 := ⟨10, by decide +kernel, by decide, rfl⟩
theorem dX4_follow_26 : ml_d cX4_follow 26 (.aload_n 0) 1 27 := ⟨by decide +kernel, rfl⟩
theorem dX4_follow_27 : ml_d cX4_follow 27 (.getfield 25) 3 30 := ⟨by decide +kernel, rfl⟩
theorem dX4_follow_30 : ml_d cX4_follow 30 (.iload_n 2) 1 31 := ⟨by decide +kernel, rfl⟩
theorem dX4_follow_31 : ml_d cX4_follow 31 (.iconst 1) 1 32 := ⟨by decide +kernel, rfl⟩
theorem dX4_follow_32 : ml_d cX4_follow 32 (.iastore) 1 33 := ⟨by decide +kernel, rfl⟩
theorem dX4_follow_33 : ml_d cX4_follow 33 (.iconst 0) 1 34 := ⟨by decide +kernel, rfl⟩
theorem dX4_follow_34 : ml_d cX4_follow 34 (.istore 4) 2 36 := ⟨by decide +kernel, rfl⟩
theorem dX4_follow_36 : ml_d cX4_follow 36 (.iload 4) 2 38 := ⟨by decide +kernel, rfl⟩
theorem dX4_follow_38 : ml_d cX4_follow 38 (.aload_n 0) 1 39 := ⟨by decide +kernel, rfl⟩
theorem dX4_follow_39 : ml_d cX4_follow 39 (.getfield 28) 3 42 := ⟨by decide +kernel, rfl⟩
theorem dX4_follow_42 : ml_j cX4_follow 42 (.if_icmp .ge) 171 45 := ⟨129, by decide +kernel, by decide, rfl⟩
theorem dX4_follow_45 : ml_d cX4_follow 45 (.iload_n 1) 1 46 := ⟨by decide +kernel, rfl⟩
theorem dX4_follow_46 : ml_d cX4_follow 46 (.iload 4) 2 48 := ⟨by decide +kernel, rfl⟩
theorem dX4_follow_48 : ml_d cX4_follow 48 (.invokestatic 38) 3 51 := ⟨by decide +kernel, rfl⟩
theorem dX4_follow_51 : ml_j cX4_follow 51 (.ifCond .eq) 57 54 := ⟨6, by decide +kernel, by decide, rfl⟩
theorem dX4_follow_54 : ml_j cX4_follow 54 .goto 165 57 := ⟨111, by decide +kernel, by decide, rfl⟩
theorem dX4_follow_57 : ml_d cX4_follow 57 (.iload_n 1) 1 58 := ⟨by decide +kernel, rfl⟩
theorem dX4_follow_58 : ml_d cX4_follow 58 (.iconst 1) 1 59 := ⟨by decide +kernel, rfl⟩
theorem dX4_follow_59 : ml_d cX4_follow 59 (.iload 4) 2 61 := ⟨by decide +kernel, rfl⟩
theorem dX4_follow_61 : ml_d cX4_follow 61 (.ishl) 1 62 := ⟨by decide +kernel, rfl⟩
theorem dX4_follow_62 : ml_d cX4_follow 62 (.ior) 1 63 := ⟨by decide +kernel, rfl⟩
theorem dX4_follow_63 : ml_d cX4_follow 63 (.iload 4) 2 65 := ⟨by decide +kernel, rfl⟩
theorem dX4_follow_65 : ml_d cX4_follow 65 (.invokestatic 42) 3 68 := ⟨by decide +kernel, rfl⟩
theorem dX4_follow_68 : ml_d cX4_follow 68 (.istore 5) 2 70 := ⟨by decide +kernel, rfl⟩
theorem dX4_follow_70 : ml_d cX4_follow 70 (.aload_n 0) 1 71 := ⟨by decide +kernel, rfl⟩
theorem dX4_follow_71 : ml_d cX4_follow 71 (.getfield 22) 3 74 := ⟨by decide +kernel, rfl⟩
theorem dX4_follow_74 : ml_d cX4_follow 74 (.iload 5) 2 76 := ⟨by decide +kernel, rfl⟩
theorem dX4_follow_76 : ml_d cX4_follow 76 (.iaload) 1 77 := ⟨by decide +kernel, rfl⟩
theorem dX4_follow_77 : ml_d cX4_follow 77 (.iload_n 3) 1 78 := ⟨by decide +kernel, rfl⟩
theorem dX4_follow_78 : ml_d cX4_follow 78 (.iload 4) 2 80 := ⟨by decide +kernel, rfl⟩
theorem dX4_follow_80 : ml_d cX4_follow 80 (.invokestatic 38) 3 83 := ⟨by decide +kernel, rfl⟩
theorem dX4_follow_83 : ml_j cX4_follow 83 (.ifCond .eq) 90 86 := ⟨7, by decide +kernel, by decide, rfl⟩
theorem dX4_follow_86 : ml_d cX4_follow 86 (.iconst 0) 1 87 := ⟨by decide +kernel, rfl⟩
theorem dX4_follow_87 : ml_j cX4_follow 87 .goto 91 90 := ⟨4, by decide +kernel, by decide, rfl⟩
theorem dX4_follow_90 : ml_d cX4_follow 90 (.iconst 1) 1 91 := ⟨by decide +kernel, rfl⟩
theorem dX4_follow_91 : ml_d cX4_follow 91 (.iadd) 1 92 := ⟨by decide +kernel, rfl⟩
theorem dX4_follow_92 : ml_d cX4_follow 92 (.istore 6) 2 94 := ⟨by decide +kernel, rfl⟩
theorem dX4_follow_94 : ml_d cX4_follow 94 (.aload_n 0) 1 95 := ⟨by decide +kernel, rfl⟩
theorem dX4_follow_95 : ml_d cX4_follow 95 (.getfield 25) 3 98 := ⟨by decide +kernel, rfl⟩
theorem dX4_follow_98 : ml_d cX4_follow 98 (.iload_n 2) 1 99 := ⟨by decide +kernel, rfl⟩
theorem dX4_follow_99 : ml_d cX4_follow 99 (.iaload) 1 100 := ⟨by decide +kernel, rfl⟩
theorem dX4_follow_100 : ml_j cX4_follow 100 (.ifCond .eq) 114 103 := ⟨14, by decide +kernel, by decide, rfl⟩
theorem dX4_follow_103 : ml_d cX4_follow 103 (.iload 6) 2 105 := ⟨by decide +kernel, rfl⟩
theorem dX4_follow_105 : ml_d cX4_follow 105 (.aload_n 0) 1 106 := ⟨by decide +kernel, rfl⟩
theorem dX4_follow_106 : ml_d cX4_follow 106 (.getfield 22) 3 109 := ⟨by decide +kernel, rfl⟩
theorem dX4_follow_109 : ml_d cX4_follow 109 (.iload_n 2) 1 110 := ⟨by decide +kernel, rfl⟩
theorem dX4_follow_110 : ml_d cX4_follow 110 (.iaload) 1 111 := ⟨by decide +kernel, rfl⟩
theorem dX4_follow_111 : ml_j cX4_follow 111 (.if_icmp .ge) 138 114 := ⟨27, by decide +kernel, by decide, rfl⟩
theorem dX4_follow_114 : ml_d cX4_follow 114 (.aload_n 0) 1 115 := ⟨by decide +kernel, rfl⟩
theorem dX4_follow_115 : ml_d cX4_follow 115 (.getfield 22) 3 118 := ⟨by decide +kernel, rfl⟩
theorem dX4_follow_118 : ml_d cX4_follow 118 (.iload_n 2) 1 119 := ⟨by decide +kernel, rfl⟩
theorem dX4_follow_119 : ml_d cX4_follow 119 (.iload 6) 2 121 := ⟨by decide +kernel, rfl⟩
theorem dX4_follow_121 : ml_d cX4_follow 121 (.iastore) 1 122 := ⟨by decide +kernel, rfl⟩
theorem dX4_follow_122 : ml_d cX4_follow 122 (.aload_n 0) 1 123 := ⟨by decide +kernel, rfl⟩
theorem dX4_follow_123 : ml_d cX4_follow 123 (.getfield 25) 3 126 := ⟨by decide +kernel, rfl⟩
theorem dX4_follow_126 : ml_d cX4_follow 126 (.iload_n 2) 1 127 := ⟨by decide +kernel, rfl⟩
theorem dX4_follow_127 : ml_d cX4_follow 127 (.aload_n 0) 1 128 := ⟨by decide +kernel, rfl⟩
theorem dX4_follow_128 : ml_d cX4_follow 128 (.getfield 25) 3 131 := ⟨by decide +kernel, rfl⟩
theorem dX4_follow_131 : ml_d cX4_follow 131 (.iload 5) 2 133 := ⟨by decide +kernel, rfl⟩
theorem dX4_follow_133 : ml_d cX4_follow 133 (.iaload) 1 134 := ⟨by decide +kernel, rfl⟩
theorem dX4_follow_134 : ml_d cX4_follow 134 (.iastore) 1 135 := ⟨by decide +kernel, rfl⟩
theorem dX4_follow_135 : ml_j cX4_follow 135 .goto 165 138 := ⟨30, by decide +kernel, by decide, rfl⟩
theorem dX4_follow_138 : ml_d cX4_follow 138 (.iload 6) 2 140 := ⟨by decide +kernel, rfl⟩
theorem dX4_follow_140 : ml_d cX4_follow 140 (.aload_n 0) 1 141 := ⟨by decide +kernel, rfl⟩
theorem dX4_follow_141 : ml_d cX4_follow 141 (.getfield 22) 3 144 := ⟨by decide +kernel, rfl⟩
theorem dX4_follow_144 : ml_d cX4_follow 144 (.iload_n 2) 1 145 := ⟨by decide +kernel, rfl⟩
theorem dX4_follow_145 : ml_d cX4_follow 145 (.iaload) 1 146 := ⟨by decide +kernel, rfl⟩
theorem dX4_follow_146 : ml_j cX4_follow 146 (.if_icmp .ne) 165 149 := ⟨19, by decide +kernel, by decide, rfl⟩
theorem dX4_follow_149 : ml_d cX4_follow 149 (.aload_n 0) 1 150 := ⟨by decide +kernel, rfl⟩
theorem dX4_follow_150 : ml_d cX4_follow 150 (.getfield 25) 3 153 := ⟨by decide +kernel, rfl⟩
theorem dX4_follow_153 : ml_d cX4_follow 153 (.iload_n 2) 1 154 := ⟨by decide +kernel, rfl⟩
theorem dX4_follow_154 : ml_d cX4_follow 154 (.dup2) 1 155 := ⟨by decide +kernel, rfl⟩
theorem dX4_follow_155 : ml_d cX4_follow 155 (.iaload) 1 156 := ⟨by decide +kernel, rfl⟩
theorem dX4_follow_156 : ml_d cX4_follow 156 (.aload_n 0) 1 157 := ⟨by decide +kernel, rfl⟩
theorem dX4_follow_157 : ml_d cX4_follow 157 (.getfield 25) 3 160 := ⟨by decide +kernel, rfl⟩
theorem dX4_follow_160 : ml_d cX4_follow 160 (.iload 5) 2 162 := ⟨by decide +kernel, rfl⟩
theorem dX4_follow_162 : ml_d cX4_follow 162 (.iaload) 1 163 := ⟨by decide +kernel, rfl⟩
theorem dX4_follow_163 : ml_d cX4_follow 163 (.iadd) 1 164 := ⟨by decide +kernel, rfl⟩
theorem dX4_follow_164 : ml_d cX4_follow 164 (.iastore) 1 165 := ⟨by decide +kernel, rfl⟩
theorem dX4_follow_165 : ml_d cX4_follow 165 (.iinc 4 1) 3 168 := ⟨by decide +kernel, rfl⟩
theorem dX4_follow_168 : ml_j cX4_follow 168 .goto 36 171 := ⟨(-132), by decide +kernel, by decide, rfl⟩
theorem dX4_follow_171 : ml_d cX4_follow 171 (.return_) 1 172 := ⟨by decide +kernel, rfl⟩
def fX4_follow_165 (k36 : Nat → Int32 → Int32 → Int32 → Int32 → ml_M → Option ml_M) (l0 : Nat) (l1 : Int32) (l2 : Int32) (l3 : Int32) (l4 : Int32) (m : ml_M) : Option ml_M :=
    k36 l0 l1 l2 l3 (l4 + (1 : Int32)) m
theorem vX4_follow_165 {E : ml_E} (hL : ml_eL E = 7) {rm : ml_M} (hr : ∀ (pc pc' : Nat) (lv : List (Nat × ml_X)), ml_d cX4_follow pc .return_ 1 pc' → True → ml_V E "LostRoom$Lays" cX4_follow 3 false rm pc lv []) {k36 : Nat → Int32 → Int32 → Int32 → Int32 → ml_M → Option ml_M} (hk36 : ∀ (l0 : Nat) (l1 : Int32) (l2 : Int32) (l3 : Int32) (l4 : Int32) (m : ml_M), k36 l0 l1 l2 l3 l4 m = some rm → ml_V E "LostRoom$Lays" cX4_follow 3 false m 36 [(0, ml_r l0), (1, ml_i l1), (2, ml_i l2), (3, ml_i l3), (4, ml_i l4)] []) : ∀ (l0 : Nat) (l1 : Int32) (l2 : Int32) (l3 : Int32) (l4 : Int32) (m : ml_M), fX4_follow_165 k36 l0 l1 l2 l3 l4 m = some rm → ml_V E "LostRoom$Lays" cX4_follow 3 false m 165 [(0, ml_r l0), (1, ml_i l1), (2, ml_i l2), (3, ml_i l3), (4, ml_i l4)] [] := by
  intro l0 l1 l2 l3 l4 m h
  unfold fX4_follow_165 at h
  exact ml_iinc (lv' := [(4, ml_i (l4 + (1 : Int32))), (0, ml_r l0), (1, ml_i l1), (2, ml_i l2), (3, ml_i l3)]) dX4_follow_165 4 rfl (congrArg (l4 + ·) kc_i1) (ml_hn hL rfl) rfl <| ml_goto dX4_follow_168 <| ml_V.sub [1, 2, 3, 4, 0] rfl (hk36 _ _ _ _ _ _ h)
def fX4_follow_114 (k36 : Nat → Int32 → Int32 → Int32 → Int32 → ml_M → Option ml_M) (l0 : Nat) (l1 : Int32) (l2 : Int32) (l3 : Int32) (l4 : Int32) (l5 : Int32) (l6 : Int32) (m : ml_M) : Option ml_M :=
    if (ml_K m l0).1 = 4 then
    ml_let (ml_R m l0 6) fun a3093 =>
    if ml_in m a3093 20 l2 then
    ml_let (ml_sI m a3093 l2.toNatClampNeg l6) fun m3095 =>
    ml_let (ml_R m3095 l0 7) fun a3097 =>
    ml_let (ml_R m3095 l0 7) fun a3098 =>
    if ml_in m3095 a3098 20 l5 then
    if ml_in m3095 a3097 20 l2 then
    ml_let (ml_sI m3095 a3097 l2.toNatClampNeg (ml_I m3095 a3098 l5.toNatClampNeg)) fun m3101 =>
    fX4_follow_165 k36 l0 l1 l2 l3 l4 m3101
    else none
    else none
    else none
    else none
theorem vX4_follow_114 {E : ml_E} (hL : ml_eL E = 7) {rm : ml_M} (hr : ∀ (pc pc' : Nat) (lv : List (Nat × ml_X)), ml_d cX4_follow pc .return_ 1 pc' → True → ml_V E "LostRoom$Lays" cX4_follow 3 false rm pc lv []) {k36 : Nat → Int32 → Int32 → Int32 → Int32 → ml_M → Option ml_M} (hk36 : ∀ (l0 : Nat) (l1 : Int32) (l2 : Int32) (l3 : Int32) (l4 : Int32) (m : ml_M), k36 l0 l1 l2 l3 l4 m = some rm → ml_V E "LostRoom$Lays" cX4_follow 3 false m 36 [(0, ml_r l0), (1, ml_i l1), (2, ml_i l2), (3, ml_i l3), (4, ml_i l4)] []) : ∀ (l0 : Nat) (l1 : Int32) (l2 : Int32) (l3 : Int32) (l4 : Int32) (l5 : Int32) (l6 : Int32) (m : ml_M), fX4_follow_114 k36 l0 l1 l2 l3 l4 l5 l6 m = some rm → ml_V E "LostRoom$Lays" cX4_follow 3 false m 114 [(0, ml_r l0), (1, ml_i l1), (2, ml_i l2), (3, ml_i l3), (4, ml_i l4), (5, ml_i l5), (6, ml_i l6)] [] := by
  intro l0 l1 l2 l3 l4 l5 l6 m h
  unfold fX4_follow_114 at h
  exact ml_aload_n dX4_follow_114 0 rfl <| ml_ck_of h fun hc3092 h => ml_getR dX4_follow_115 wb_412 hc3092 <| ml_lx (mk := ml_r) h fun a3093 h => ml_iload_n dX4_follow_118 2 rfl <| ml_iload dX4_follow_119 6 rfl <| ml_ck_of h fun hi3094 h => ml_iast dX4_follow_121 hi3094 <| ml_lt (m := m) rfl h fun m3095 em3096 h => ml_aload_n dX4_follow_122 0 rfl <| ml_getR dX4_follow_123 wb_413 (ml_kk em3096 hc3092) <| ml_lx (mk := ml_r) h fun a3097 h => ml_iload_n dX4_follow_126 2 rfl <| ml_aload_n dX4_follow_127 0 rfl <| ml_getR dX4_follow_128 wb_413 (ml_kk em3096 hc3092) <| ml_lx (mk := ml_r) h fun a3098 h => ml_iload dX4_follow_131 5 rfl <| ml_ck_of h fun hi3099 h => ml_iald dX4_follow_133 hi3099 <| ml_ck_of h fun hi3100 h => ml_iast dX4_follow_134 hi3100 <| ml_lt (m := m3095) rfl h fun m3101 em3102 h => ml_goto dX4_follow_135 <| ml_V.sub [0, 1, 2, 3, 4] rfl (vX4_follow_165 hL hr hk36 _ _ _ _ _ _ h)
def fX4_follow_91 (k36 : Nat → Int32 → Int32 → Int32 → Int32 → ml_M → Option ml_M) (l0 : Nat) (l1 : Int32) (l2 : Int32) (l3 : Int32) (l4 : Int32) (l5 : Int32) (t0 : Int32) (t1 : Int32) (m : ml_M) : Option ml_M :=
    ml_let (t1 + t0) fun x3103 =>
    if (ml_K m l0).1 = 4 then
    ml_let (ml_R m l0 7) fun a3105 =>
    if ml_in m a3105 20 l2 then
    if (ml_I m a3105 l2.toNatClampNeg) = 0 then
    fX4_follow_114 k36 l0 l1 l2 l3 l4 l5 x3103 m
    else
    ml_let (ml_R m l0 6) fun a3107 =>
    if ml_in m a3107 20 l2 then
    if (ml_I m a3107 l2.toNatClampNeg) ≤ x3103 then
    ml_let (ml_R m l0 6) fun a3109 =>
    if ml_in m a3109 20 l2 then
    if x3103 = (ml_I m a3109 l2.toNatClampNeg) then
    ml_let (ml_R m l0 7) fun a3111 =>
    if ml_in m a3111 20 l2 then
    ml_let (ml_R m l0 7) fun a3113 =>
    if ml_in m a3113 20 l5 then
    if ml_in m a3111 20 l2 then
    ml_let (ml_sI m a3111 l2.toNatClampNeg ((ml_I m a3111 l2.toNatClampNeg) + (ml_I m a3113 l5.toNatClampNeg))) fun m3116 =>
    fX4_follow_165 k36 l0 l1 l2 l3 l4 m3116
    else none
    else none
    else none
    else
    fX4_follow_165 k36 l0 l1 l2 l3 l4 m
    else none
    else
    fX4_follow_114 k36 l0 l1 l2 l3 l4 l5 x3103 m
    else none
    else none
    else none
theorem vX4_follow_91 {E : ml_E} (hL : ml_eL E = 7) {rm : ml_M} (hr : ∀ (pc pc' : Nat) (lv : List (Nat × ml_X)), ml_d cX4_follow pc .return_ 1 pc' → True → ml_V E "LostRoom$Lays" cX4_follow 3 false rm pc lv []) {k36 : Nat → Int32 → Int32 → Int32 → Int32 → ml_M → Option ml_M} (hk36 : ∀ (l0 : Nat) (l1 : Int32) (l2 : Int32) (l3 : Int32) (l4 : Int32) (m : ml_M), k36 l0 l1 l2 l3 l4 m = some rm → ml_V E "LostRoom$Lays" cX4_follow 3 false m 36 [(0, ml_r l0), (1, ml_i l1), (2, ml_i l2), (3, ml_i l3), (4, ml_i l4)] []) : ∀ (l0 : Nat) (l1 : Int32) (l2 : Int32) (l3 : Int32) (l4 : Int32) (l5 : Int32) (t0 : Int32) (t1 : Int32) (m : ml_M), fX4_follow_91 k36 l0 l1 l2 l3 l4 l5 t0 t1 m = some rm → ml_V E "LostRoom$Lays" cX4_follow 3 false m 91 [(0, ml_r l0), (1, ml_i l1), (2, ml_i l2), (3, ml_i l3), (4, ml_i l4), (5, ml_i l5)] [ml_i t0, ml_i t1] := by
  intro l0 l1 l2 l3 l4 l5 t0 t1 m h
  unfold fX4_follow_91 at h
  exact ml_iadd dX4_follow_91 <| ml_lx (mk := ml_i) h fun x3103 h => ml_istore (lv' := [(6, ml_i x3103), (0, ml_r l0), (1, ml_i l1), (2, ml_i l2), (3, ml_i l3), (4, ml_i l4), (5, ml_i l5)]) dX4_follow_92 (ml_hn hL rfl) rfl <| ml_aload_n dX4_follow_94 1 rfl <| ml_ck_of h fun hc3104 h => ml_getR dX4_follow_95 wb_413 hc3104 <| ml_lx (mk := ml_r) h fun a3105 h => ml_iload_n dX4_follow_98 3 rfl <| ml_ck_of h fun hi3106 h => ml_iald dX4_follow_99 hi3106 <| ml_if_eq dX4_follow_100 h (fun _ h => ml_V.sub [1, 2, 3, 4, 5, 6, 0] rfl (vX4_follow_114 hL hr hk36 _ _ _ _ _ _ _ _ h)) (fun _ h => ml_iload dX4_follow_103 0 rfl <| ml_aload_n dX4_follow_105 1 rfl <| ml_getR dX4_follow_106 wb_412 hc3104 <| ml_lx (mk := ml_r) h fun a3107 h => ml_iload_n dX4_follow_109 3 rfl <| ml_ck_of h fun hi3108 h => ml_iald dX4_follow_110 hi3108 <| ml_icmp_ge dX4_follow_111 h (fun _ h => ml_iload dX4_follow_138 0 rfl <| ml_aload_n dX4_follow_140 1 rfl <| ml_getR dX4_follow_141 wb_412 hc3104 <| ml_lx (mk := ml_r) h fun a3109 h => ml_iload_n dX4_follow_144 3 rfl <| ml_ck_of h fun hi3110 h => ml_iald dX4_follow_145 hi3110 <| ml_icmp_ne dX4_follow_146 h (fun _ h => ml_V.sub [1, 2, 3, 4, 5] rfl (vX4_follow_165 hL hr hk36 _ _ _ _ _ _ h)) (fun _ h => ml_aload_n dX4_follow_149 1 rfl <| ml_getR dX4_follow_150 wb_413 hc3104 <| ml_lx (mk := ml_r) h fun a3111 h => ml_iload_n dX4_follow_153 3 rfl <| ml_dup2 dX4_follow_154 rfl rfl <| ml_ck_of h fun hi3112 h => ml_iald dX4_follow_155 hi3112 <| ml_aload_n dX4_follow_156 1 rfl <| ml_getR dX4_follow_157 wb_413 hc3104 <| ml_lx (mk := ml_r) h fun a3113 h => ml_iload dX4_follow_160 6 rfl <| ml_ck_of h fun hi3114 h => ml_iald dX4_follow_162 hi3114 <| ml_iadd dX4_follow_163 <| ml_ck_of h fun hi3115 h => ml_iast dX4_follow_164 hi3115 <| ml_lt (m := m) rfl h fun m3116 em3117 h => ml_V.sub [1, 2, 3, 4, 5] rfl (vX4_follow_165 hL hr hk36 _ _ _ _ _ _ h))) (fun _ h => ml_V.sub [1, 2, 3, 4, 5, 6, 0] rfl (vX4_follow_114 hL hr hk36 _ _ _ _ _ _ _ _ h)))
def fX4_follow_36 : Nat → Nat → Int32 → Int32 → Int32 → Int32 → ml_M → Option ml_M
  | 0, _, _, _, _, _, _ => none
  | fu + 1, l0, l1, l2, l3, l4, m =>
    if (ml_K m l0).1 = 4 then
    if (ml_I m l0 4) ≤ l4 then
    some m
    else
    ml_b1 (fX10_has l1 l4 m) fun r3120 =>
    if r3120 = 0 then
    ml_b1 (fX4_slot (l1 ||| ((1 : Int32) <<< (l4 &&& 31))) l4 m) fun r3122 =>
    ml_let (ml_R m l0 6) fun a3123 =>
    if ml_in m a3123 20 r3122 then
    ml_b1 (fX10_has l3 l4 m) fun r3126 =>
    if r3126 = 0 then
    fX4_follow_91 (fX4_follow_36 fu) l0 l1 l2 l3 l4 r3122 (1 : Int32) (ml_I m a3123 r3122.toNatClampNeg) m
    else
    fX4_follow_91 (fX4_follow_36 fu) l0 l1 l2 l3 l4 r3122 (0 : Int32) (ml_I m a3123 r3122.toNatClampNeg) m
    else none
    else
    fX4_follow_165 (fX4_follow_36 fu) l0 l1 l2 l3 l4 m
    else none
theorem vX4_follow_36 {E : ml_E} (hL : ml_eL E = 7) {rm : ml_M} (hr : ∀ (pc pc' : Nat) (lv : List (Nat × ml_X)), ml_d cX4_follow pc .return_ 1 pc' → True → ml_V E "LostRoom$Lays" cX4_follow 3 false rm pc lv []) : ∀ (fu : Nat) (l0 : Nat) (l1 : Int32) (l2 : Int32) (l3 : Int32) (l4 : Int32) (m : ml_M), fX4_follow_36 fu l0 l1 l2 l3 l4 m = some rm → ml_V E "LostRoom$Lays" cX4_follow 3 false m 36 [(0, ml_r l0), (1, ml_i l1), (2, ml_i l2), (3, ml_i l3), (4, ml_i l4)] [] := by
  intro fu
  induction fu with
  | zero => intro l0 l1 l2 l3 l4 m h; exact ml_none h
  | succ fu ih =>
    intro l0 l1 l2 l3 l4 m h
    have hk36 := ih
    unfold fX4_follow_36 at h
    exact ml_iload dX4_follow_36 4 rfl <| ml_aload_n dX4_follow_38 0 rfl <| ml_ck_of h fun hc3118 h => ml_getI dX4_follow_39 wb_414 hc3118 <| ml_icmp_ge dX4_follow_42 h (fun _ h => ml_rv hr dX4_follow_171 trivial h) (fun _ h => ml_iload_n dX4_follow_45 1 rfl <| ml_iload dX4_follow_46 4 rfl <| ml_b1_of h fun r3120 hv3119 h => ml_callSN (host := "LostRoom") dX4_follow_48 (by decide) wb_299 (sX10_has hv3119) rfl (Nat.le_of_ble_eq_true rfl) (Nat.le_of_ble_eq_true rfl) rfl <| ml_if_eq dX4_follow_51 h (fun _ h => ml_iload_n dX4_follow_57 1 rfl <| ml_iconst dX4_follow_58 kc_i1 <| ml_iload dX4_follow_59 4 rfl <| ml_ishl dX4_follow_61 <| ml_ior dX4_follow_62 <| ml_iload dX4_follow_63 4 rfl <| ml_b1_of h fun r3122 hv3121 h => ml_callS dX4_follow_65 wm_685 wb_415 (sX4_slot hv3121) rfl (Nat.le_of_ble_eq_true rfl) (Nat.le_of_ble_eq_true rfl) rfl <| ml_istore (lv' := [(5, ml_i r3122), (0, ml_r l0), (1, ml_i l1), (2, ml_i l2), (3, ml_i l3), (4, ml_i l4)]) dX4_follow_68 (ml_hn hL rfl) rfl <| ml_aload_n dX4_follow_70 1 rfl <| ml_getR dX4_follow_71 wb_412 hc3118 <| ml_lx (mk := ml_r) h fun a3123 h => ml_iload dX4_follow_74 0 rfl <| ml_ck_of h fun hi3124 h => ml_iald dX4_follow_76 hi3124 <| ml_iload_n dX4_follow_77 4 rfl <| ml_iload dX4_follow_78 5 rfl <| ml_b1_of h fun r3126 hv3125 h => ml_callSN (host := "LostRoom") dX4_follow_80 (by decide) wb_299 (sX10_has hv3125) rfl (Nat.le_of_ble_eq_true rfl) (Nat.le_of_ble_eq_true rfl) rfl <| ml_if_eq dX4_follow_83 h (fun _ h => ml_iconst dX4_follow_90 kc_i1 <| ml_V.sub [1, 2, 3, 4, 5, 0] rfl (vX4_follow_91 hL hr hk36 _ _ _ _ _ _ _ _ _ h)) (fun _ h => ml_iconst dX4_follow_86 kc_i0 <| ml_goto dX4_follow_87 <| ml_V.sub [1, 2, 3, 4, 5, 0] rfl (vX4_follow_91 hL hr hk36 _ _ _ _ _ _ _ _ _ h))) (fun _ h => ml_goto dX4_follow_54 <| ml_V.sub [0, 1, 2, 3, 4] rfl (vX4_follow_165 hL hr hk36 _ _ _ _ _ _ h)))
def fX4_follow_33 (l0 : Nat) (l1 : Int32) (l2 : Int32) (l3 : Int32) (m : ml_M) : Option ml_M :=
    fX4_follow_36 ml_fu l0 l1 l2 l3 (0 : Int32) m
theorem vX4_follow_33 {E : ml_E} (hL : ml_eL E = 7) {rm : ml_M} (hr : ∀ (pc pc' : Nat) (lv : List (Nat × ml_X)), ml_d cX4_follow pc .return_ 1 pc' → True → ml_V E "LostRoom$Lays" cX4_follow 3 false rm pc lv []) : ∀ (l0 : Nat) (l1 : Int32) (l2 : Int32) (l3 : Int32) (m : ml_M), fX4_follow_33 l0 l1 l2 l3 m = some rm → ml_V E "LostRoom$Lays" cX4_follow 3 false m 33 [(0, ml_r l0), (1, ml_i l1), (2, ml_i l2), (3, ml_i l3)] [] := by
  intro l0 l1 l2 l3 m h
  unfold fX4_follow_33 at h
  exact ml_iconst dX4_follow_33 kc_i0 <| ml_istore (lv' := [(4, ml_i (0 : Int32)), (0, ml_r l0), (1, ml_i l1), (2, ml_i l2), (3, ml_i l3)]) dX4_follow_34 (ml_hn hL rfl) rfl <| ml_V.sub [1, 2, 3, 4, 0] rfl (vX4_follow_36 hL hr  ml_fu _ _ _ _ _ _ h)
def fX4_follow (l0 : Nat) (l1 : Int32) (l2 : Int32) (l3 : Int32) (m : ml_M) : Option ml_M :=
    if (ml_K m l0).1 = 4 then
    ml_let (ml_R m l0 6) fun a3128 =>
    if ml_in m a3128 20 l2 then
    ml_let (ml_sI m a3128 l2.toNatClampNeg (0 : Int32)) fun m3130 =>
    ml_let (ml_R m3130 l0 7) fun a3132 =>
    if ml_in m3130 a3132 20 l2 then
    ml_let (ml_sI m3130 a3132 l2.toNatClampNeg (0 : Int32)) fun m3134 =>
    if l1 = (((1 : Int32) <<< ((ml_I m3134 l0 4) &&& 31)) - (1 : Int32)) then
    ml_let (ml_R m3134 l0 7) fun a3136 =>
    if ml_in m3134 a3136 20 l2 then
    ml_let (ml_sI m3134 a3136 l2.toNatClampNeg (1 : Int32)) fun m3138 =>
    fX4_follow_33 l0 l1 l2 l3 m3138
    else none
    else
    fX4_follow_33 l0 l1 l2 l3 m3134
    else none
    else none
    else none
theorem wX4_follow_0 {E : ml_E} (hL : ml_eL E = 7) {rm : ml_M} (hr : ∀ (pc pc' : Nat) (lv : List (Nat × ml_X)), ml_d cX4_follow pc .return_ 1 pc' → True → ml_V E "LostRoom$Lays" cX4_follow 3 false rm pc lv []) : ∀ (l0 : Nat) (l1 : Int32) (l2 : Int32) (l3 : Int32) (m : ml_M), fX4_follow l0 l1 l2 l3 m = some rm → ml_V E "LostRoom$Lays" cX4_follow 3 false m 0 [(0, ml_r l0), (1, ml_i l1), (2, ml_i l2), (3, ml_i l3)] [] := by
  intro l0 l1 l2 l3 m h
  unfold fX4_follow at h
  exact ml_aload_n dX4_follow_0 0 rfl <| ml_ck_of h fun hc3127 h => ml_getR dX4_follow_1 wb_412 hc3127 <| ml_lx (mk := ml_r) h fun a3128 h => ml_iload_n dX4_follow_4 2 rfl <| ml_iconst dX4_follow_5 kc_i0 <| ml_ck_of h fun hi3129 h => ml_iast dX4_follow_6 hi3129 <| ml_lt (m := m) rfl h fun m3130 em3131 h => ml_aload_n dX4_follow_7 0 rfl <| ml_getR dX4_follow_8 wb_413 (ml_kk em3131 hc3127) <| ml_lx (mk := ml_r) h fun a3132 h => ml_iload_n dX4_follow_11 2 rfl <| ml_iconst dX4_follow_12 kc_i0 <| ml_ck_of h fun hi3133 h => ml_iast dX4_follow_13 hi3133 <| ml_lt (m := m3130) rfl h fun m3134 em3135 h => ml_iload_n dX4_follow_14 1 rfl <| ml_iconst dX4_follow_15 kc_i1 <| ml_aload_n dX4_follow_16 0 rfl <| ml_getI dX4_follow_17 wb_414 (ml_kk em3135 (ml_kk em3131 hc3127)) <| ml_ishl dX4_follow_20 <| ml_iconst dX4_follow_21 kc_i1 <| ml_isub dX4_follow_22 <| ml_icmp_ne dX4_follow_23 h (fun _ h => ml_V.sub [0, 1, 2, 3] rfl (vX4_follow_33 hL hr  _ _ _ _ _ h)) (fun _ h => ml_aload_n dX4_follow_26 0 rfl <| ml_getR dX4_follow_27 wb_413 (ml_kk em3135 (ml_kk em3131 hc3127)) <| ml_lx (mk := ml_r) h fun a3136 h => ml_iload_n dX4_follow_30 2 rfl <| ml_iconst dX4_follow_31 kc_i1 <| ml_ck_of h fun hi3137 h => ml_iast dX4_follow_32 hi3137 <| ml_lt (m := m3134) rfl h fun m3138 em3139 h => ml_V.sub [0, 1, 2, 3] rfl (vX4_follow_33 hL hr  _ _ _ _ _ h))
theorem sX4_follow {l0 : Nat} {l1 : Int32} {l2 : Int32} {l3 : Int32} {m : ml_M} {rm : ml_M} (h : fX4_follow l0 l1 l2 l3 m = some rm) : ml_Sn yX4_follow cX4_follow 7 none 3 [ml_r l0, ml_i l1, ml_i l2, ml_i l3] m none rm :=
  ml_Sn_of (P := True) (ini := false) (by decide +kernel) (Nat.le_of_ble_eq_true rfl) (fun h => by cases h) (fun _ => ml_RkV) fun E hL hr => wX4_follow_0 hL hr _ _ _ _ _ h
theorem dX4_nextOf_0 : ml_d cX4_nextOf 0 (.iconst 0) 1 1 := ⟨by decide +kernel, rfl⟩
theorem dX4_nextOf_1 : ml_d cX4_nextOf 1 (.istore 4) 2 3 := ⟨by decide +kernel, rfl⟩
theorem dX4_nextOf_3 : ml_d cX4_nextOf 3 (.iload 4) 2 5 := ⟨by decide +kernel, rfl⟩
theorem dX4_nextOf_5 : ml_d cX4_nextOf 5 (.aload_n 0) 1 6 := ⟨by decide +kernel, rfl⟩
theorem dX4_nextOf_6 : ml_d cX4_nextOf 6 (.getfield 28) 3 9 := ⟨by decide +kernel, rfl⟩
theorem dX4_nextOf_9 : ml_j cX4_nextOf 9 (.if_icmp .ge) 77 12 := ⟨68, by decide +kernel, by decide, rfl⟩
theorem dX4_nextOf_12 : ml_d cX4_nextOf 12 (.iload_n 1) 1 13 := ⟨by decide +kernel, rfl⟩
theorem dX4_nextOf_13 : ml_d cX4_nextOf 13 (.iload 4) 2 15 := ⟨by decide +kernel, rfl⟩
theorem dX4_nextOf_15 : ml_d cX4_nextOf 15 (.invokestatic 38) 3 18 := ⟨by decide +kernel, rfl⟩
theorem dX4_nextOf_18 : ml_j cX4_nextOf 18 (.ifCond .eq) 24 21 := ⟨6, by decide +kernel, by decide, rfl⟩
theorem dX4_nextOf_21 : ml_j cX4_nextOf 21 .goto 71 24 := ⟨50, by decide +kernel, by decide, rfl⟩
theorem dX4_nextOf_24 : ml_d cX4_nextOf 24 (.aload_n 0) 1 25 := ⟨by decide +kernel, rfl⟩
theorem dX4_nextOf_25 : ml_d cX4_nextOf 25 (.getfield 22) 3 28 := ⟨by decide +kernel, rfl⟩
theorem dX4_nextOf_28 : ml_d cX4_nextOf 28 (.iload_n 1) 1 29 := ⟨by decide +kernel, rfl⟩
theorem dX4_nextOf_29 : ml_d cX4_nextOf 29 (.iconst 1) 1 30 := ⟨by decide +kernel, rfl⟩
theorem dX4_nextOf_30 : ml_d cX4_nextOf 30 (.iload 4) 2 32 := ⟨by decide +kernel, rfl⟩
theorem dX4_nextOf_32 : ml_d cX4_nextOf 32 (.ishl) 1 33 := ⟨by decide +kernel, rfl⟩
theorem dX4_nextOf_33 : ml_d cX4_nextOf 33 (.ior) 1 34 := ⟨by decide +kernel, rfl⟩
theorem dX4_nextOf_34 : ml_d cX4_nextOf 34 (.iload 4) 2 36 := ⟨by decide +kernel, rfl⟩
theorem dX4_nextOf_36 : ml_d cX4_nextOf 36 (.invokestatic 42) 3 39 := ⟨by decide +kernel, rfl⟩
theorem dX4_nextOf_39 : ml_d cX4_nextOf 39 (.iaload) 1 40 := ⟨by decide +kernel, rfl⟩
theorem dX4_nextOf_40 : ml_d cX4_nextOf 40 (.iload_n 3) 1 41 := ⟨by decide +kernel, rfl⟩
theorem dX4_nextOf_41 : ml_d cX4_nextOf 41 (.iload 4) 2 43 := ⟨by decide +kernel, rfl⟩
theorem dX4_nextOf_43 : ml_d cX4_nextOf 43 (.invokestatic 38) 3 46 := ⟨by decide +kernel, rfl⟩
theorem dX4_nextOf_46 : ml_j cX4_nextOf 46 (.ifCond .eq) 53 49 := ⟨7, by decide +kernel, by decide, rfl⟩
theorem dX4_nextOf_49 : ml_d cX4_nextOf 49 (.iconst 0) 1 50 := ⟨by decide +kernel, rfl⟩
theorem dX4_nextOf_50 : ml_j cX4_nextOf 50 .goto 54 53 := ⟨4, by decide +kernel, by decide, rfl⟩
theorem dX4_nextOf_53 : ml_d cX4_nextOf 53 (.iconst 1) 1 54 := ⟨by decide +kernel, rfl⟩
theorem dX4_nextOf_54 : ml_d cX4_nextOf 54 (.iadd) 1 55 := ⟨by decide +kernel, rfl⟩
theorem dX4_nextOf_55 : ml_d cX4_nextOf 55 (.istore 5) 2 57 := ⟨by decide +kernel, rfl⟩
theorem dX4_nextOf_57 : ml_d cX4_nextOf 57 (.iload 5) 2 59 := ⟨by decide +kernel, rfl⟩
theorem dX4_nextOf_59 : ml_d cX4_nextOf 59 (.aload_n 0) 1 60 := ⟨by decide +kernel, rfl⟩
theorem dX4_nextOf_60 : ml_d cX4_nextOf 60 (.getfield 22) 3 63 := ⟨by decide +kernel, rfl⟩
theorem dX4_nextOf_63 : ml_d cX4_nextOf 63 (.iload_n 2) 1 64 := ⟨by decide +kernel, rfl⟩
theorem dX4_nextOf_64 : ml_d cX4_nextOf 64 (.iaload) 1 65 := ⟨by decide +kernel, rfl⟩
theorem dX4_nextOf_65 : ml_j cX4_nextOf 65 (.if_icmp .ne) 71 68 := ⟨6, by decide +kernel, by decide, rfl⟩
theorem dX4_nextOf_68 : ml_d cX4_nextOf 68 (.iload 4) 2 70 := ⟨by decide +kernel, rfl⟩
theorem dX4_nextOf_70 : ml_d cX4_nextOf 70 (.ireturn) 1 71 := ⟨by decide +kernel, rfl⟩
theorem dX4_nextOf_71 : ml_d cX4_nextOf 71 (.iinc 4 1) 3 74 := ⟨by decide +kernel, rfl⟩
theorem dX4_nextOf_74 : ml_j cX4_nextOf 74 .goto 3 77 := ⟨(-71), by decide +kernel, by decide, rfl⟩
theorem dX4_nextOf_77 : ml_d cX4_nextOf 77 (.iconst 0) 1 78 := ⟨by decide +kernel, rfl⟩
theorem dX4_nextOf_78 : ml_d cX4_nextOf 78 (.ireturn) 1 79 := ⟨by decide +kernel, rfl⟩
def fX4_nextOf_71 (k3 : Nat → Int32 → Int32 → Int32 → Int32 → ml_M → Option Int32) (l0 : Nat) (l1 : Int32) (l2 : Int32) (l3 : Int32) (l4 : Int32) (m : ml_M) : Option Int32 :=
    k3 l0 l1 l2 l3 (l4 + (1 : Int32)) m
theorem vX4_nextOf_71 {E : ml_E} (hL : ml_eL E = 6) {rv : Int32} {m : ml_M} (hr : ∀ (pc pc' : Nat) (lv : List (Nat × ml_X)), ml_d cX4_nextOf pc .ireturn 1 pc' → True → ml_V E "LostRoom$Lays" cX4_nextOf 3 false m pc lv [ml_i rv]) {k3 : Nat → Int32 → Int32 → Int32 → Int32 → ml_M → Option Int32} (hk3 : ∀ (l0 : Nat) (l1 : Int32) (l2 : Int32) (l3 : Int32) (l4 : Int32), k3 l0 l1 l2 l3 l4 m = some rv → ml_V E "LostRoom$Lays" cX4_nextOf 3 false m 3 [(0, ml_r l0), (1, ml_i l1), (2, ml_i l2), (3, ml_i l3), (4, ml_i l4)] []) : ∀ (l0 : Nat) (l1 : Int32) (l2 : Int32) (l3 : Int32) (l4 : Int32), fX4_nextOf_71 k3 l0 l1 l2 l3 l4 m = some rv → ml_V E "LostRoom$Lays" cX4_nextOf 3 false m 71 [(0, ml_r l0), (1, ml_i l1), (2, ml_i l2), (3, ml_i l3), (4, ml_i l4)] [] := by
  intro l0 l1 l2 l3 l4 h
  unfold fX4_nextOf_71 at h
  exact ml_iinc (lv' := [(4, ml_i (l4 + (1 : Int32))), (0, ml_r l0), (1, ml_i l1), (2, ml_i l2), (3, ml_i l3)]) dX4_nextOf_71 4 rfl (congrArg (l4 + ·) kc_i1) (ml_hn hL rfl) rfl <| ml_goto dX4_nextOf_74 <| ml_V.sub [1, 2, 3, 4, 0] rfl (hk3 _ _ _ _ _ h)
def fX4_nextOf_54 (k3 : Nat → Int32 → Int32 → Int32 → Int32 → ml_M → Option Int32) (l0 : Nat) (l1 : Int32) (l2 : Int32) (l3 : Int32) (l4 : Int32) (t0 : Int32) (t1 : Int32) (m : ml_M) : Option Int32 :=
    ml_let (t1 + t0) fun x3140 =>
    if (ml_K m l0).1 = 4 then
    ml_let (ml_R m l0 6) fun a3142 =>
    if ml_in m a3142 20 l2 then
    if x3140 = (ml_I m a3142 l2.toNatClampNeg) then
    some l4
    else
    fX4_nextOf_71 k3 l0 l1 l2 l3 l4 m
    else none
    else none
theorem vX4_nextOf_54 {E : ml_E} (hL : ml_eL E = 6) {rv : Int32} {m : ml_M} (hr : ∀ (pc pc' : Nat) (lv : List (Nat × ml_X)), ml_d cX4_nextOf pc .ireturn 1 pc' → True → ml_V E "LostRoom$Lays" cX4_nextOf 3 false m pc lv [ml_i rv]) {k3 : Nat → Int32 → Int32 → Int32 → Int32 → ml_M → Option Int32} (hk3 : ∀ (l0 : Nat) (l1 : Int32) (l2 : Int32) (l3 : Int32) (l4 : Int32), k3 l0 l1 l2 l3 l4 m = some rv → ml_V E "LostRoom$Lays" cX4_nextOf 3 false m 3 [(0, ml_r l0), (1, ml_i l1), (2, ml_i l2), (3, ml_i l3), (4, ml_i l4)] []) : ∀ (l0 : Nat) (l1 : Int32) (l2 : Int32) (l3 : Int32) (l4 : Int32) (t0 : Int32) (t1 : Int32), fX4_nextOf_54 k3 l0 l1 l2 l3 l4 t0 t1 m = some rv → ml_V E "LostRoom$Lays" cX4_nextOf 3 false m 54 [(0, ml_r l0), (1, ml_i l1), (2, ml_i l2), (3, ml_i l3), (4, ml_i l4)] [ml_i t0, ml_i t1] := by
  intro l0 l1 l2 l3 l4 t0 t1 h
  unfold fX4_nextOf_54 at h
  exact ml_iadd dX4_nextOf_54 <| ml_lx (mk := ml_i) h fun x3140 h => ml_istore (lv' := [(5, ml_i x3140), (0, ml_r l0), (1, ml_i l1), (2, ml_i l2), (3, ml_i l3), (4, ml_i l4)]) dX4_nextOf_55 (ml_hn hL rfl) rfl <| ml_iload dX4_nextOf_57 0 rfl <| ml_aload_n dX4_nextOf_59 1 rfl <| ml_ck_of h fun hc3141 h => ml_getR dX4_nextOf_60 wb_412 hc3141 <| ml_lx (mk := ml_r) h fun a3142 h => ml_iload_n dX4_nextOf_63 3 rfl <| ml_ck_of h fun hi3143 h => ml_iald dX4_nextOf_64 hi3143 <| ml_icmp_ne dX4_nextOf_65 h (fun _ h => ml_V.sub [1, 2, 3, 4, 5] rfl (vX4_nextOf_71 hL hr hk3 _ _ _ _ _ h)) (fun _ h => ml_iload dX4_nextOf_68 5 rfl <| ml_rp (mk := ml_i) hr dX4_nextOf_70 (fun _ => trivial) h)
def fX4_nextOf_3 : Nat → Nat → Int32 → Int32 → Int32 → Int32 → ml_M → Option Int32
  | 0, _, _, _, _, _, _ => none
  | fu + 1, l0, l1, l2, l3, l4, m =>
    if (ml_K m l0).1 = 4 then
    if (ml_I m l0 4) ≤ l4 then
    some (0 : Int32)
    else
    ml_b1 (fX10_has l1 l4 m) fun r3146 =>
    if r3146 = 0 then
    ml_let (ml_R m l0 6) fun a3147 =>
    ml_b1 (fX4_slot (l1 ||| ((1 : Int32) <<< (l4 &&& 31))) l4 m) fun r3149 =>
    if ml_in m a3147 20 r3149 then
    ml_b1 (fX10_has l3 l4 m) fun r3152 =>
    if r3152 = 0 then
    fX4_nextOf_54 (fX4_nextOf_3 fu) l0 l1 l2 l3 l4 (1 : Int32) (ml_I m a3147 r3149.toNatClampNeg) m
    else
    fX4_nextOf_54 (fX4_nextOf_3 fu) l0 l1 l2 l3 l4 (0 : Int32) (ml_I m a3147 r3149.toNatClampNeg) m
    else none
    else
    fX4_nextOf_71 (fX4_nextOf_3 fu) l0 l1 l2 l3 l4 m
    else none
theorem vX4_nextOf_3 {E : ml_E} (hL : ml_eL E = 6) {rv : Int32} {m : ml_M} (hr : ∀ (pc pc' : Nat) (lv : List (Nat × ml_X)), ml_d cX4_nextOf pc .ireturn 1 pc' → True → ml_V E "LostRoom$Lays" cX4_nextOf 3 false m pc lv [ml_i rv]) : ∀ (fu : Nat) (l0 : Nat) (l1 : Int32) (l2 : Int32) (l3 : Int32) (l4 : Int32), fX4_nextOf_3 fu l0 l1 l2 l3 l4 m = some rv → ml_V E "LostRoom$Lays" cX4_nextOf 3 false m 3 [(0, ml_r l0), (1, ml_i l1), (2, ml_i l2), (3, ml_i l3), (4, ml_i l4)] [] := by
  intro fu
  induction fu with
  | zero => intro l0 l1 l2 l3 l4 h; exact ml_none h
  | succ fu ih =>
    intro l0 l1 l2 l3 l4 h
    have hk3 := ih
    unfold fX4_nextOf_3 at h
    exact ml_iload dX4_nextOf_3 4 rfl <| ml_aload_n dX4_nextOf_5 0 rfl <| ml_ck_of h fun hc3144 h => ml_getI dX4_nextOf_6 wb_414 hc3144 <| ml_icmp_ge dX4_nextOf_9 h (fun _ h => ml_iconst dX4_nextOf_77 kc_i0 <| ml_rp (mk := ml_i) hr dX4_nextOf_78 (fun _ => trivial) h) (fun _ h => ml_iload_n dX4_nextOf_12 1 rfl <| ml_iload dX4_nextOf_13 4 rfl <| ml_b1_of h fun r3146 hv3145 h => ml_callSN (host := "LostRoom") dX4_nextOf_15 (by decide) wb_299 (sX10_has hv3145) rfl (Nat.le_of_ble_eq_true rfl) (Nat.le_of_ble_eq_true rfl) rfl <| ml_if_eq dX4_nextOf_18 h (fun _ h => ml_aload_n dX4_nextOf_24 0 rfl <| ml_getR dX4_nextOf_25 wb_412 hc3144 <| ml_lx (mk := ml_r) h fun a3147 h => ml_iload_n dX4_nextOf_28 1 rfl <| ml_iconst dX4_nextOf_29 kc_i1 <| ml_iload dX4_nextOf_30 4 rfl <| ml_ishl dX4_nextOf_32 <| ml_ior dX4_nextOf_33 <| ml_iload dX4_nextOf_34 4 rfl <| ml_b1_of h fun r3149 hv3148 h => ml_callS dX4_nextOf_36 wm_685 wb_415 (sX4_slot hv3148) rfl (Nat.le_of_ble_eq_true rfl) (Nat.le_of_ble_eq_true rfl) rfl <| ml_ck_of h fun hi3150 h => ml_iald dX4_nextOf_39 hi3150 <| ml_iload_n dX4_nextOf_40 3 rfl <| ml_iload dX4_nextOf_41 4 rfl <| ml_b1_of h fun r3152 hv3151 h => ml_callSN (host := "LostRoom") dX4_nextOf_43 (by decide) wb_299 (sX10_has hv3151) rfl (Nat.le_of_ble_eq_true rfl) (Nat.le_of_ble_eq_true rfl) rfl <| ml_if_eq dX4_nextOf_46 h (fun _ h => ml_iconst dX4_nextOf_53 kc_i1 <| ml_V.sub [0, 1, 2, 3, 4] rfl (vX4_nextOf_54 hL hr hk3 _ _ _ _ _ _ _ h)) (fun _ h => ml_iconst dX4_nextOf_49 kc_i0 <| ml_goto dX4_nextOf_50 <| ml_V.sub [0, 1, 2, 3, 4] rfl (vX4_nextOf_54 hL hr hk3 _ _ _ _ _ _ _ h))) (fun _ h => ml_goto dX4_nextOf_21 <| ml_V.sub [0, 1, 2, 3, 4] rfl (vX4_nextOf_71 hL hr hk3 _ _ _ _ _ h)))
def fX4_nextOf (l0 : Nat) (l1 : Int32) (l2 : Int32) (l3 : Int32) (m : ml_M) : Option Int32 :=
    fX4_nextOf_3 ml_fu l0 l1 l2 l3 (0 : Int32) m
theorem wX4_nextOf_0 {E : ml_E} (hL : ml_eL E = 6) {rv : Int32} {m : ml_M} (hr : ∀ (pc pc' : Nat) (lv : List (Nat × ml_X)), ml_d cX4_nextOf pc .ireturn 1 pc' → True → ml_V E "LostRoom$Lays" cX4_nextOf 3 false m pc lv [ml_i rv]) : ∀ (l0 : Nat) (l1 : Int32) (l2 : Int32) (l3 : Int32), fX4_nextOf l0 l1 l2 l3 m = some rv → ml_V E "LostRoom$Lays" cX4_nextOf 3 false m 0 [(0, ml_r l0), (1, ml_i l1), (2, ml_i l2), (3, ml_i l3)] [] := by
  intro l0 l1 l2 l3 h
  unfold fX4_nextOf at h
  exact ml_iconst dX4_nextOf_0 kc_i0 <| ml_istore (lv' := [(4, ml_i (0 : Int32)), (0, ml_r l0), (1, ml_i l1), (2, ml_i l2), (3, ml_i l3)]) dX4_nextOf_1 (ml_hn hL rfl) rfl <| ml_V.sub [1, 2, 3, 4, 0] rfl (vX4_nextOf_3 hL hr  ml_fu _ _ _ _ _ h)
theorem sX4_nextOf {l0 : Nat} {l1 : Int32} {l2 : Int32} {l3 : Int32} {m : ml_M} {rv : Int32} (h : fX4_nextOf l0 l1 l2 l3 m = some rv) : ml_Sn yX4_nextOf cX4_nextOf 6 (some .int) 3 [ml_r l0, ml_i l1, ml_i l2, ml_i l3] m (some (ml_i rv)) m :=
  ml_Sn_of (P := True) (ini := false) (by decide +kernel) (Nat.le_of_ble_eq_true rfl) (fun h => by cases h) (fun _ => ml_RkI rv) fun E hL hr => wX4_nextOf_0 hL hr _ _ _ _ h
theorem dX4_findFirst_0 : ml_d cX4_findFirst 0 (.iconst 0) 1 1 := ⟨by decide +kernel, rfl⟩
theorem dX4_findFirst_1 : ml_d cX4_findFirst 1 (.istore_n 1) 1 2 := ⟨by decide +kernel, rfl⟩
theorem dX4_findFirst_2 : ml_d cX4_findFirst 2 (.iconst 0) 1 3 := ⟨by decide +kernel, rfl⟩
theorem dX4_findFirst_3 : ml_d cX4_findFirst 3 (.iconst 0) 1 4 := ⟨by decide +kernel, rfl⟩
theorem dX4_findFirst_4 : ml_d cX4_findFirst 4 (.invokestatic 42) 3 7 := ⟨by decide +kernel, rfl⟩
theorem dX4_findFirst_7 : ml_d cX4_findFirst 7 (.istore_n 2) 1 8 := ⟨by decide +kernel, rfl⟩
theorem dX4_findFirst_8 : ml_d cX4_findFirst 8 (.iconst 0) 1 9 := ⟨by decide +kernel, rfl⟩
theorem dX4_findFirst_9 : ml_d cX4_findFirst 9 (.istore_n 3) 1 10 := ⟨by decide +kernel, rfl⟩
theorem dX4_findFirst_10 : ml_d cX4_findFirst 10 (.iconst 0) 1 11 := ⟨by decide +kernel, rfl⟩
theorem dX4_findFirst_11 : ml_d cX4_findFirst 11 (.istore 4) 2 13 := ⟨by decide +kernel, rfl⟩
theorem dX4_findFirst_13 : ml_d cX4_findFirst 13 (.iload 4) 2 15 := ⟨by decide +kernel, rfl⟩
theorem dX4_findFirst_15 : ml_d cX4_findFirst 15 (.aload_n 0) 1 16 := ⟨by decide +kernel, rfl⟩
theorem dX4_findFirst_16 : ml_d cX4_findFirst 16 (.getfield 28) 3 19 := ⟨by decide +kernel, rfl⟩
theorem dX4_findFirst_19 : ml_j cX4_findFirst 19 (.if_icmp .ge) 68 22 := ⟨49, by decide +kernel, by decide, rfl⟩
theorem dX4_findFirst_22 : ml_d cX4_findFirst 22 (.aload_n 0) 1 23 := ⟨by decide +kernel, rfl⟩
theorem dX4_findFirst_23 : ml_d cX4_findFirst 23 (.iload_n 1) 1 24 := ⟨by decide +kernel, rfl⟩
theorem dX4_findFirst_24 : ml_d cX4_findFirst 24 (.iload_n 2) 1 25 := ⟨by decide +kernel, rfl⟩
theorem dX4_findFirst_25 : ml_d cX4_findFirst 25 (.iload_n 3) 1 26 := ⟨by decide +kernel, rfl⟩
theorem dX4_findFirst_26 : ml_d cX4_findFirst 26 (.invokevirtual 59) 3 29 := ⟨by decide +kernel, rfl⟩
theorem dX4_findFirst_29 : ml_d cX4_findFirst 29 (.istore 5) 2 31 := ⟨by decide +kernel, rfl⟩
theorem dX4_findFirst_31 : ml_d cX4_findFirst 31 (.aload_n 0) 1 32 := ⟨by decide +kernel, rfl⟩
theorem dX4_findFirst_32 : ml_d cX4_findFirst 32 (.getfield 15) 3 35 := ⟨by decide +kernel, rfl⟩
theorem dX4_findFirst_35 : ml_d cX4_findFirst 35 (.iload 4) 2 37 := ⟨by decide +kernel, rfl⟩
theorem dX4_findFirst_37 : ml_d cX4_findFirst 37 (.iload 5) 2 39 := ⟨by decide +kernel, rfl⟩
theorem dX4_findFirst_39 : ml_d cX4_findFirst 39 (.iastore) 1 40 := ⟨by decide +kernel, rfl⟩
theorem dX4_findFirst_40 : ml_d cX4_findFirst 40 (.iload_n 1) 1 41 := ⟨by decide +kernel, rfl⟩
theorem dX4_findFirst_41 : ml_d cX4_findFirst 41 (.iconst 1) 1 42 := ⟨by decide +kernel, rfl⟩
theorem dX4_findFirst_42 : ml_d cX4_findFirst 42 (.iload 5) 2 44 := ⟨by decide +kernel, rfl⟩
theorem dX4_findFirst_44 : ml_d cX4_findFirst 44 (.ishl) 1 45 := ⟨by decide +kernel, rfl⟩
theorem dX4_findFirst_45 : ml_d cX4_findFirst 45 (.ior) 1 46 := ⟨by decide +kernel, rfl⟩
theorem dX4_findFirst_46 : ml_d cX4_findFirst 46 (.istore_n 1) 1 47 := ⟨by decide +kernel, rfl⟩
theorem dX4_findFirst_47 : ml_d cX4_findFirst 47 (.iload_n 1) 1 48 := ⟨by decide +kernel, rfl⟩
theorem dX4_findFirst_48 : ml_d cX4_findFirst 48 (.iload 5) 2 50 := ⟨by decide +kernel, rfl⟩
theorem dX4_findFirst_50 : ml_d cX4_findFirst 50 (.invokestatic 42) 3 53 := ⟨by decide +kernel, rfl⟩
theorem dX4_findFirst_53 : ml_d cX4_findFirst 53 (.istore_n 2) 1 54 := ⟨by decide +kernel, rfl⟩
theorem dX4_findFirst_54 : ml_d cX4_findFirst 54 (.aload_n 0) 1 55 := ⟨by decide +kernel, rfl⟩
theorem dX4_findFirst_55 : ml_d cX4_findFirst 55 (.getfield 19) 3 58 := ⟨by decide +kernel, rfl⟩
theorem dX4_findFirst_58 : ml_d cX4_findFirst 58 (.iload 5) 2 60 := ⟨by decide +kernel, rfl⟩
theorem dX4_findFirst_60 : ml_d cX4_findFirst 60 (.iaload) 1 61 := ⟨by decide +kernel, rfl⟩
theorem dX4_findFirst_61 : ml_d cX4_findFirst 61 (.istore_n 3) 1 62 := ⟨by decide +kernel, rfl⟩
theorem dX4_findFirst_62 : ml_d cX4_findFirst 62 (.iinc 4 1) 3 65 := ⟨by decide +kernel, rfl⟩
theorem dX4_findFirst_65 : ml_j cX4_findFirst 65 .goto 13 68 := ⟨(-52), by decide +kernel, by decide, rfl⟩
theorem dX4_findFirst_68 : ml_d cX4_findFirst 68 (.return_) 1 69 := ⟨by decide +kernel, rfl⟩
def fX4_findFirst_13 : Nat → Nat → Int32 → Int32 → Int32 → Int32 → ml_M → Option ml_M
  | 0, _, _, _, _, _, _ => none
  | fu + 1, l0, l1, l2, l3, l4, m =>
    if (ml_K m l0).1 = 4 then
    if (ml_I m l0 4) ≤ l4 then
    some m
    else
    ml_b1 (fX4_nextOf l0 l1 l2 l3 m) fun r3155 =>
    ml_let (ml_R m l0 3) fun a3156 =>
    if ml_in m a3156 20 l4 then
    ml_let (ml_sI m a3156 l4.toNatClampNeg r3155) fun m3158 =>
    ml_let (l1 ||| ((1 : Int32) <<< (r3155 &&& 31))) fun x3160 =>
    ml_b1 (fX4_slot x3160 r3155 m3158) fun r3162 =>
    ml_let (ml_R m3158 l0 5) fun a3163 =>
    if ml_in m3158 a3163 20 r3155 then
    ml_let (ml_I m3158 a3163 r3155.toNatClampNeg) fun x3165 =>
    (fX4_findFirst_13 fu) l0 x3160 r3162 x3165 (l4 + (1 : Int32)) m3158
    else none
    else none
    else none
theorem vX4_findFirst_13 {E : ml_E} (hL : ml_eL E = 6) {rm : ml_M} (hr : ∀ (pc pc' : Nat) (lv : List (Nat × ml_X)), ml_d cX4_findFirst pc .return_ 1 pc' → True → ml_V E "LostRoom$Lays" cX4_findFirst 4 false rm pc lv []) : ∀ (fu : Nat) (l0 : Nat) (l1 : Int32) (l2 : Int32) (l3 : Int32) (l4 : Int32) (m : ml_M), fX4_findFirst_13 fu l0 l1 l2 l3 l4 m = some rm → ml_V E "LostRoom$Lays" cX4_findFirst 4 false m 13 [(0, ml_r l0), (1, ml_i l1), (2, ml_i l2), (3, ml_i l3), (4, ml_i l4)] [] := by
  intro fu
  induction fu with
  | zero => intro l0 l1 l2 l3 l4 m h; exact ml_none h
  | succ fu ih =>
    intro l0 l1 l2 l3 l4 m h
    have hk13 := ih
    unfold fX4_findFirst_13 at h
    exact ml_iload dX4_findFirst_13 4 rfl <| ml_aload_n dX4_findFirst_15 0 rfl <| ml_ck_of h fun hc3153 h => ml_getI dX4_findFirst_16 wb_414 hc3153 <| ml_icmp_ge dX4_findFirst_19 h (fun _ h => ml_rv hr dX4_findFirst_68 trivial h) (fun _ h => ml_aload_n dX4_findFirst_22 0 rfl <| ml_iload_n dX4_findFirst_23 1 rfl <| ml_iload_n dX4_findFirst_24 2 rfl <| ml_iload_n dX4_findFirst_25 3 rfl <| ml_b1_of h fun r3155 hv3154 h => ml_callV dX4_findFirst_26 wm_689 wb_416 hc3153 (sX4_nextOf hv3154) rfl (Nat.le_of_ble_eq_true rfl) (Nat.le_of_ble_eq_true rfl) rfl <| ml_istore (lv' := [(5, ml_i r3155), (0, ml_r l0), (1, ml_i l1), (2, ml_i l2), (3, ml_i l3), (4, ml_i l4)]) dX4_findFirst_29 (ml_hn hL rfl) rfl <| ml_aload_n dX4_findFirst_31 1 rfl <| ml_getR dX4_findFirst_32 wb_417 hc3153 <| ml_lx (mk := ml_r) h fun a3156 h => ml_iload dX4_findFirst_35 5 rfl <| ml_iload dX4_findFirst_37 0 rfl <| ml_ck_of h fun hi3157 h => ml_iast dX4_findFirst_39 hi3157 <| ml_lt (m := m) rfl h fun m3158 em3159 h => ml_iload_n dX4_findFirst_40 2 rfl <| ml_iconst dX4_findFirst_41 kc_i1 <| ml_iload dX4_findFirst_42 0 rfl <| ml_ishl dX4_findFirst_44 <| ml_ior dX4_findFirst_45 <| ml_lx (mk := ml_i) h fun x3160 h => ml_istore_n (lv' := [(1, ml_i x3160), (5, ml_i r3155), (0, ml_r l0), (2, ml_i l2), (3, ml_i l3), (4, ml_i l4)]) dX4_findFirst_46 (ml_hn hL rfl) rfl <| ml_iload_n dX4_findFirst_47 0 rfl <| ml_iload dX4_findFirst_48 1 rfl <| ml_b1_of h fun r3162 hv3161 h => ml_callS dX4_findFirst_50 wm_685 wb_415 (sX4_slot hv3161) rfl (Nat.le_of_ble_eq_true rfl) (Nat.le_of_ble_eq_true rfl) rfl <| ml_istore_n (lv' := [(2, ml_i r3162), (1, ml_i x3160), (5, ml_i r3155), (0, ml_r l0), (3, ml_i l3), (4, ml_i l4)]) dX4_findFirst_53 (ml_hn hL rfl) rfl <| ml_aload_n dX4_findFirst_54 3 rfl <| ml_getR dX4_findFirst_55 wb_418 (ml_kk em3159 hc3153) <| ml_lx (mk := ml_r) h fun a3163 h => ml_iload dX4_findFirst_58 2 rfl <| ml_ck_of h fun hi3164 h => ml_iald dX4_findFirst_60 hi3164 <| ml_lx (mk := ml_i) h fun x3165 h => ml_istore_n (lv' := [(3, ml_i x3165), (2, ml_i r3162), (1, ml_i x3160), (5, ml_i r3155), (0, ml_r l0), (4, ml_i l4)]) dX4_findFirst_61 (ml_hn hL rfl) rfl <| ml_iinc (lv' := [(4, ml_i (l4 + (1 : Int32))), (3, ml_i x3165), (2, ml_i r3162), (1, ml_i x3160), (5, ml_i r3155), (0, ml_r l0)]) dX4_findFirst_62 5 rfl (congrArg (l4 + ·) kc_i1) (ml_hn hL rfl) rfl <| ml_goto dX4_findFirst_65 <| ml_V.sub [5, 3, 2, 1, 0] rfl (hk13 _ _ _ _ _ _ h))
def fX4_findFirst (l0 : Nat) (m : ml_M) : Option ml_M :=
    ml_b1 (fX4_slot (0 : Int32) (0 : Int32) m) fun r3167 =>
    fX4_findFirst_13 ml_fu l0 (0 : Int32) r3167 (0 : Int32) (0 : Int32) m
theorem wX4_findFirst_0 {E : ml_E} (hL : ml_eL E = 6) {rm : ml_M} (hr : ∀ (pc pc' : Nat) (lv : List (Nat × ml_X)), ml_d cX4_findFirst pc .return_ 1 pc' → True → ml_V E "LostRoom$Lays" cX4_findFirst 4 false rm pc lv []) : ∀ (l0 : Nat) (m : ml_M), fX4_findFirst l0 m = some rm → ml_V E "LostRoom$Lays" cX4_findFirst 4 false m 0 [(0, ml_r l0)] [] := by
  intro l0 m h
  unfold fX4_findFirst at h
  exact ml_iconst dX4_findFirst_0 kc_i0 <| ml_istore_n (lv' := [(1, ml_i (0 : Int32)), (0, ml_r l0)]) dX4_findFirst_1 (ml_hn hL rfl) rfl <| ml_iconst dX4_findFirst_2 kc_i0 <| ml_iconst dX4_findFirst_3 kc_i0 <| ml_b1_of h fun r3167 hv3166 h => ml_callS dX4_findFirst_4 wm_685 wb_415 (sX4_slot hv3166) rfl (Nat.le_of_ble_eq_true rfl) (Nat.le_of_ble_eq_true rfl) rfl <| ml_istore_n (lv' := [(2, ml_i r3167), (1, ml_i (0 : Int32)), (0, ml_r l0)]) dX4_findFirst_7 (ml_hn hL rfl) rfl <| ml_iconst dX4_findFirst_8 kc_i0 <| ml_istore_n (lv' := [(3, ml_i (0 : Int32)), (2, ml_i r3167), (1, ml_i (0 : Int32)), (0, ml_r l0)]) dX4_findFirst_9 (ml_hn hL rfl) rfl <| ml_iconst dX4_findFirst_10 kc_i0 <| ml_istore (lv' := [(4, ml_i (0 : Int32)), (3, ml_i (0 : Int32)), (2, ml_i r3167), (1, ml_i (0 : Int32)), (0, ml_r l0)]) dX4_findFirst_11 (ml_hn hL rfl) rfl <| ml_V.sub [4, 3, 2, 1, 0] rfl (vX4_findFirst_13 hL hr  ml_fu _ _ _ _ _ _ h)
theorem sX4_findFirst {l0 : Nat} {m : ml_M} {rm : ml_M} (h : fX4_findFirst l0 m = some rm) : ml_Sn yX4_findFirst cX4_findFirst 6 none 4 [ml_r l0] m none rm :=
  ml_Sn_of (P := True) (ini := false) (by decide +kernel) (Nat.le_of_ble_eq_true rfl) (fun h => by cases h) (fun _ => ml_RkV) fun E hL hr => wX4_findFirst_0 hL hr _ _ h
theorem dX4_gather_0 : ml_d cX4_gather 0 (.aload_n 0) 1 1 := ⟨by decide +kernel, rfl⟩
theorem dX4_gather_1 : ml_d cX4_gather 1 (.iload_n 2) 1 2 := ⟨by decide +kernel, rfl⟩
theorem dX4_gather_2 : ml_d cX4_gather 2 (.putfield 28) 3 5 := ⟨by decide +kernel, rfl⟩
theorem dX4_gather_5 : ml_d cX4_gather 5 (.iconst 0) 1 6 := ⟨by decide +kernel, rfl⟩
theorem dX4_gather_6 : ml_d cX4_gather 6 (.istore_n 3) 1 7 := ⟨by decide +kernel, rfl⟩
theorem dX4_gather_7 : ml_d cX4_gather 7 (.iload_n 3) 1 8 := ⟨by decide +kernel, rfl⟩
theorem dX4_gather_8 : ml_d cX4_gather 8 (.aload_n 0) 1 9 := ⟨by decide +kernel, rfl⟩
theorem dX4_gather_9 : ml_d cX4_gather 9 (.getfield 28) 3 12 := ⟨by decide +kernel, rfl⟩
theorem dX4_gather_12 : ml_j cX4_gather 12 (.if_icmp .ge) 78 15 := ⟨66, by decide +kernel, by decide, rfl⟩
theorem dX4_gather_15 : ml_d cX4_gather 15 (.aload_n 0) 1 16 := ⟨by decide +kernel, rfl⟩
theorem dX4_gather_16 : ml_d cX4_gather 16 (.getfield 19) 3 19 := ⟨by decide +kernel, rfl⟩
theorem dX4_gather_19 : ml_d cX4_gather 19 (.iload_n 3) 1 20 := ⟨by decide +kernel, rfl⟩
theorem dX4_gather_20 : ml_d cX4_gather 20 (.iconst 0) 1 21 := ⟨by decide +kernel, rfl⟩
theorem dX4_gather_21 : ml_d cX4_gather 21 (.iastore) 1 22 := ⟨by decide +kernel, rfl⟩
theorem dX4_gather_22 : ml_d cX4_gather 22 (.iconst 0) 1 23 := ⟨by decide +kernel, rfl⟩
theorem dX4_gather_23 : ml_d cX4_gather 23 (.istore 4) 2 25 := ⟨by decide +kernel, rfl⟩
theorem dX4_gather_25 : ml_d cX4_gather 25 (.iload 4) 2 27 := ⟨by decide +kernel, rfl⟩
theorem dX4_gather_27 : ml_d cX4_gather 27 (.aload_n 0) 1 28 := ⟨by decide +kernel, rfl⟩
theorem dX4_gather_28 : ml_d cX4_gather 28 (.getfield 28) 3 31 := ⟨by decide +kernel, rfl⟩
theorem dX4_gather_31 : ml_j cX4_gather 31 (.if_icmp .ge) 72 34 := ⟨41, by decide +kernel, by decide, rfl⟩
theorem dX4_gather_34 : ml_d cX4_gather 34 (.iload_n 3) 1 35 := ⟨by decide +kernel, rfl⟩
theorem dX4_gather_35 : ml_d cX4_gather 35 (.iload 4) 2 37 := ⟨by decide +kernel, rfl⟩
theorem dX4_gather_37 : ml_j cX4_gather 37 (.if_icmp .eq) 66 40 := ⟨29, by decide +kernel, by decide, rfl⟩
theorem dX4_gather_40 : ml_d cX4_gather 40 (.aload_n 1) 1 41 := ⟨by decide +kernel, rfl⟩
theorem dX4_gather_41 : ml_d cX4_gather 41 (.iload_n 3) 1 42 := ⟨by decide +kernel, rfl⟩
theorem dX4_gather_42 : ml_d cX4_gather 42 (.aaload) 1 43 := ⟨by decide +kernel, rfl⟩
theorem dX4_gather_43 : ml_d cX4_gather 43 (.aload_n 1) 1 44 := ⟨by decide +kernel, rfl⟩
theorem dX4_gather_44 : ml_d cX4_gather 44 (.iload 4) 2 46 := ⟨by decide +kernel, rfl⟩
theorem dX4_gather_46 : ml_d cX4_gather 46 (.aaload) 1 47 := ⟨by decide +kernel, rfl⟩
theorem dX4_gather_47 : ml_d cX4_gather 47 (.invokevirtual 32) 3 50 := ⟨by decide +kernel, rfl⟩
theorem dX4_gather_50 : ml_j cX4_gather 50 (.ifCond .eq) 66 53 := ⟨16, by decide +kernel, by decide, rfl⟩
theorem dX4_gather_53 : ml_d cX4_gather 53 (.aload_n 0) 1 54 := ⟨by decide +kernel, rfl⟩
theorem dX4_gather_54 : ml_d cX4_gather 54 (.getfield 19) 3 57 := ⟨by decide +kernel, rfl⟩
theorem dX4_gather_57 : ml_d cX4_gather 57 (.iload_n 3) 1 58 := ⟨by decide +kernel, rfl⟩
theorem dX4_gather_58 : ml_d cX4_gather 58 (.dup2) 1 59 := ⟨by decide +kernel, rfl⟩
theorem dX4_gather_59 : ml_d cX4_gather 59 (.iaload) 1 60 := ⟨by decide +kernel, rfl⟩
theorem dX4_gather_60 : ml_d cX4_gather 60 (.iconst 1) 1 61 := ⟨by decide +kernel, rfl⟩
theorem dX4_gather_61 : ml_d cX4_gather 61 (.iload 4) 2 63 := ⟨by decide +kernel, rfl⟩
theorem dX4_gather_63 : ml_d cX4_gather 63 (.ishl) 1 64 := ⟨by decide +kernel, rfl⟩
theorem dX4_gather_64 : ml_d cX4_gather 64 (.ior) 1 65 := ⟨by decide +kernel, rfl⟩
theorem dX4_gather_65 : ml_d cX4_gather 65 (.iastore) 1 66 := ⟨by decide +kernel, rfl⟩
theorem dX4_gather_66 : ml_d cX4_gather 66 (.iinc 4 1) 3 69 := ⟨by decide +kernel, rfl⟩
theorem dX4_gather_69 : ml_j cX4_gather 69 .goto 25 72 := ⟨(-44), by decide +kernel, by decide, rfl⟩
theorem dX4_gather_72 : ml_d cX4_gather 72 (.iinc 3 1) 3 75 := ⟨by decide +kernel, rfl⟩
theorem dX4_gather_75 : ml_j cX4_gather 75 .goto 7 78 := ⟨(-68), by decide +kernel, by decide, rfl⟩
theorem dX4_gather_78 : ml_d cX4_gather 78 (.iconst 1) 1 79 := ⟨by decide +kernel, rfl⟩
theorem dX4_gather_79 : ml_d cX4_gather 79 (.aload_n 0) 1 80 := ⟨by decide +kernel, rfl⟩
theorem dX4_gather_80 : ml_d cX4_gather 80 (.getfield 28) 3 83 := ⟨by decide +kernel, rfl⟩
theorem dX4_gather_83 : ml_d cX4_gather 83 (.ishl) 1 84 := ⟨by decide +kernel, rfl⟩
theorem dX4_gather_84 : ml_d cX4_gather 84 (.iconst 1) 1 85 := ⟨by decide +kernel, rfl⟩
theorem dX4_gather_85 : ml_d cX4_gather 85 (.isub) 1 86 := ⟨by decide +kernel, rfl⟩
theorem dX4_gather_86 : ml_d cX4_gather 86 (.istore_n 3) 1 87 := ⟨by decide +kernel, rfl⟩
theorem dX4_gather_87 : ml_d cX4_gather 87 (.iload_n 3) 1 88 := ⟨by decide +kernel, rfl⟩
theorem dX4_gather_88 : ml_j cX4_gather 88 (.ifCond .le) 142 91 := ⟨54, by decide +kernel, by decide, rfl⟩
theorem dX4_gather_91 : ml_d cX4_gather 91 (.iconst 0) 1 92 := ⟨by decide +kernel, rfl⟩
theorem dX4_gather_92 : ml_d cX4_gather 92 (.istore 4) 2 94 := ⟨by decide +kernel, rfl⟩
theorem dX4_gather_94 : ml_d cX4_gather 94 (.iload 4) 2 96 := ⟨by decide +kernel, rfl⟩
theorem dX4_gather_96 : ml_d cX4_gather 96 (.aload_n 0) 1 97 := ⟨by decide +kernel, rfl⟩
theorem dX4_gather_97 : ml_d cX4_gather 97 (.getfield 28) 3 100 := ⟨by decide +kernel, rfl⟩
theorem dX4_gather_100 : ml_j cX4_gather 100 (.if_icmp .ge) 136 103 := ⟨36, by decide +kernel, by decide, rfl⟩
theorem dX4_gather_103 : ml_d cX4_gather 103 (.iload_n 3) 1 104 := ⟨by decide +kernel, rfl⟩
theorem dX4_gather_104 : ml_d cX4_gather 104 (.iload 4) 2 106 := ⟨by decide +kernel, rfl⟩
theorem dX4_gather_106 : ml_d cX4_gather 106 (.invokestatic 38) 3 109 := ⟨by decide +kernel, rfl⟩
theorem dX4_gather_109 : ml_j cX4_gather 109 (.ifCond .eq) 130 112 := ⟨21, by decide +kernel, by decide, rfl⟩
theorem dX4_gather_112 : ml_d cX4_gather 112 (.aload_n 0) 1 113 := ⟨by decide +kernel, rfl⟩
theorem dX4_gather_113 : ml_d cX4_gather 113 (.iload_n 3) 1 114 := ⟨by decide +kernel, rfl⟩
theorem dX4_gather_114 : ml_d cX4_gather 114 (.iload_n 3) 1 115 := ⟨by decide +kernel, rfl⟩
theorem dX4_gather_115 : ml_d cX4_gather 115 (.iload 4) 2 117 := ⟨by decide +kernel, rfl⟩
theorem dX4_gather_117 : ml_d cX4_gather 117 (.invokestatic 42) 3 120 := ⟨by decide +kernel, rfl⟩
theorem dX4_gather_120 : ml_d cX4_gather 120 (.aload_n 0) 1 121 := ⟨by decide +kernel, rfl⟩
theorem dX4_gather_121 : ml_d cX4_gather 121 (.getfield 19) 3 124 := ⟨by decide +kernel, rfl⟩
theorem dX4_gather_124 : ml_d cX4_gather 124 (.iload 4) 2 126 := ⟨by decide +kernel, rfl⟩
theorem dX4_gather_126 : ml_d cX4_gather 126 (.iaload) 1 127 := ⟨by decide +kernel, rfl⟩
theorem dX4_gather_127 : ml_d cX4_gather 127 (.invokevirtual 46) 3 130 := ⟨by decide +kernel, rfl⟩
theorem dX4_gather_130 : ml_d cX4_gather 130 (.iinc 4 1) 3 133 := ⟨by decide +kernel, rfl⟩
theorem dX4_gather_133 : ml_j cX4_gather 133 .goto 94 136 := ⟨(-39), by decide +kernel, by decide, rfl⟩
theorem dX4_gather_136 : ml_d cX4_gather 136 (.iinc 3 (-1)) 3 139 := ⟨by decide +kernel, rfl⟩
theorem dX4_gather_139 : ml_j cX4_gather 139 .goto 87 142 := ⟨(-52), by decide +kernel, by decide, rfl⟩
theorem dX4_gather_142 : ml_d cX4_gather 142 (.aload_n 0) 1 143 := ⟨by decide +kernel, rfl⟩
theorem dX4_gather_143 : ml_d cX4_gather 143 (.iconst 0) 1 144 := ⟨by decide +kernel, rfl⟩
theorem dX4_gather_144 : ml_d cX4_gather 144 (.iconst 0) 1 145 := ⟨by decide +kernel, rfl⟩
theorem dX4_gather_145 : ml_d cX4_gather 145 (.iconst 0) 1 146 := ⟨by decide +kernel, rfl⟩
theorem dX4_gather_146 : ml_d cX4_gather 146 (.invokestatic 42) 3 149 := ⟨by decide +kernel, rfl⟩
theorem dX4_gather_149 : ml_d cX4_gather 149 (.iconst 0) 1 150 := ⟨by decide +kernel, rfl⟩
theorem dX4_gather_150 : ml_d cX4_gather 150 (.invokevirtual 46) 3 153 := ⟨by decide +kernel, rfl⟩
theorem dX4_gather_153 : ml_d cX4_gather 153 (.aload_n 0) 1 154 := ⟨by decide +kernel, rfl⟩
theorem dX4_gather_154 : ml_d cX4_gather 154 (.aload_n 0) 1 155 := ⟨by decide +kernel, rfl⟩
theorem dX4_gather_155 : ml_d cX4_gather 155 (.getfield 22) 3 158 := ⟨by decide +kernel, rfl⟩
theorem dX4_gather_158 : ml_d cX4_gather 158 (.iconst 0) 1 159 := ⟨by decide +kernel, rfl⟩
theorem dX4_gather_159 : ml_d cX4_gather 159 (.iconst 0) 1 160 := ⟨by decide +kernel, rfl⟩
theorem dX4_gather_160 : ml_d cX4_gather 160 (.invokestatic 42) 3 163 := ⟨by decide +kernel, rfl⟩
theorem dX4_gather_163 : ml_d cX4_gather 163 (.iaload) 1 164 := ⟨by decide +kernel, rfl⟩
theorem dX4_gather_164 : ml_d cX4_gather 164 (.putfield 50) 3 167 := ⟨by decide +kernel, rfl⟩
theorem dX4_gather_167 : ml_d cX4_gather 167 (.aload_n 0) 1 168 := ⟨by decide +kernel, rfl⟩
theorem dX4_gather_168 : ml_d cX4_gather 168 (.aload_n 0) 1 169 := ⟨by decide +kernel, rfl⟩
theorem dX4_gather_169 : ml_d cX4_gather 169 (.getfield 25) 3 172 := ⟨by decide +kernel, rfl⟩
theorem dX4_gather_172 : ml_d cX4_gather 172 (.iconst 0) 1 173 := ⟨by decide +kernel, rfl⟩
theorem dX4_gather_173 : ml_d cX4_gather 173 (.iconst 0) 1 174 := ⟨by decide +kernel, rfl⟩
theorem dX4_gather_174 : ml_d cX4_gather 174 (.invokestatic 42) 3 177 := ⟨by decide +kernel, rfl⟩
theorem dX4_gather_177 : ml_d cX4_gather 177 (.iaload) 1 178 := ⟨by decide +kernel, rfl⟩
theorem dX4_gather_178 : ml_d cX4_gather 178 (.putfield 53) 3 181 := ⟨by decide +kernel, rfl⟩
theorem dX4_gather_181 : ml_d cX4_gather 181 (.aload_n 0) 1 182 := ⟨by decide +kernel, rfl⟩
theorem dX4_gather_182 : ml_d cX4_gather 182 (.invokevirtual 56) 3 185 := ⟨by decide +kernel, rfl⟩
theorem dX4_gather_185 : ml_d cX4_gather 185 (.aload_n 0) 1 186 := ⟨by decide +kernel, rfl⟩
theorem dX4_gather_186 : ml_d cX4_gather 186 (.iconst 0) 1 187 := ⟨by decide +kernel, rfl⟩
theorem dX4_gather_187 : ml_d cX4_gather 187 (.putfield 9) 3 190 := ⟨by decide +kernel, rfl⟩
theorem dX4_gather_190 : ml_d cX4_gather 190 (.return_) 1 191 := ⟨by decide +kernel, rfl⟩
def fX4_gather_66 (k7 : Nat → Nat → Int32 → ml_M → Option ml_M) (k25 : Nat → Nat → Int32 → Int32 → ml_M → Option ml_M) (l0 : Nat) (l1 : Nat) (l3 : Int32) (l4 : Int32) (m : ml_M) : Option ml_M :=
    k25 l0 l1 l3 (l4 + (1 : Int32)) m
theorem vX4_gather_66 {E : ml_E} (hL : ml_eL E = 5) {rm : ml_M} (hr : ∀ (pc pc' : Nat) (lv : List (Nat × ml_X)), ml_d cX4_gather pc .return_ 1 pc' → True → ml_V E "LostRoom$Lays" cX4_gather 5 false rm pc lv []) {k7 : Nat → Nat → Int32 → ml_M → Option ml_M} (hk7 : ∀ (l0 : Nat) (l1 : Nat) (l3 : Int32) (m : ml_M), k7 l0 l1 l3 m = some rm → ml_V E "LostRoom$Lays" cX4_gather 5 false m 7 [(0, ml_r l0), (1, ml_r l1), (3, ml_i l3)] []) {k25 : Nat → Nat → Int32 → Int32 → ml_M → Option ml_M} (hk25 : ∀ (l0 : Nat) (l1 : Nat) (l3 : Int32) (l4 : Int32) (m : ml_M), k25 l0 l1 l3 l4 m = some rm → ml_V E "LostRoom$Lays" cX4_gather 5 false m 25 [(0, ml_r l0), (1, ml_r l1), (3, ml_i l3), (4, ml_i l4)] []) : ∀ (l0 : Nat) (l1 : Nat) (l3 : Int32) (l4 : Int32) (m : ml_M), fX4_gather_66 k7 k25 l0 l1 l3 l4 m = some rm → ml_V E "LostRoom$Lays" cX4_gather 5 false m 66 [(0, ml_r l0), (1, ml_r l1), (3, ml_i l3), (4, ml_i l4)] [] := by
  intro l0 l1 l3 l4 m h
  unfold fX4_gather_66 at h
  exact ml_iinc (lv' := [(4, ml_i (l4 + (1 : Int32))), (0, ml_r l0), (1, ml_r l1), (3, ml_i l3)]) dX4_gather_66 3 rfl (congrArg (l4 + ·) kc_i1) (ml_hn hL rfl) rfl <| ml_goto dX4_gather_69 <| ml_V.sub [1, 2, 3, 0] rfl (hk25 _ _ _ _ _ h)
def fX4_gather_72 (k7 : Nat → Nat → Int32 → ml_M → Option ml_M) (l0 : Nat) (l1 : Nat) (l3 : Int32) (m : ml_M) : Option ml_M :=
    k7 l0 l1 (l3 + (1 : Int32)) m
theorem vX4_gather_72 {E : ml_E} (hL : ml_eL E = 5) {rm : ml_M} (hr : ∀ (pc pc' : Nat) (lv : List (Nat × ml_X)), ml_d cX4_gather pc .return_ 1 pc' → True → ml_V E "LostRoom$Lays" cX4_gather 5 false rm pc lv []) {k7 : Nat → Nat → Int32 → ml_M → Option ml_M} (hk7 : ∀ (l0 : Nat) (l1 : Nat) (l3 : Int32) (m : ml_M), k7 l0 l1 l3 m = some rm → ml_V E "LostRoom$Lays" cX4_gather 5 false m 7 [(0, ml_r l0), (1, ml_r l1), (3, ml_i l3)] []) : ∀ (l0 : Nat) (l1 : Nat) (l3 : Int32) (m : ml_M), fX4_gather_72 k7 l0 l1 l3 m = some rm → ml_V E "LostRoom$Lays" cX4_gather 5 false m 72 [(0, ml_r l0), (1, ml_r l1), (3, ml_i l3)] [] := by
  intro l0 l1 l3 m h
  unfold fX4_gather_72 at h
  exact ml_iinc (lv' := [(3, ml_i (l3 + (1 : Int32))), (0, ml_r l0), (1, ml_r l1)]) dX4_gather_72 2 rfl (congrArg (l3 + ·) kc_i1) (ml_hn hL rfl) rfl <| ml_goto dX4_gather_75 <| ml_V.sub [1, 2, 0] rfl (hk7 _ _ _ _ h)
def fX4_gather_25 (k7 : Nat → Nat → Int32 → ml_M → Option ml_M) : Nat → Nat → Nat → Int32 → Int32 → ml_M → Option ml_M
  | 0, _, _, _, _, _ => none
  | fu + 1, l0, l1, l3, l4, m =>
    if (ml_K m l0).1 = 4 then
    if (ml_I m l0 4) ≤ l4 then
    fX4_gather_72 k7 l0 l1 l3 m
    else
    if l3 = l4 then
    fX4_gather_66 k7 (fX4_gather_25 k7 fu) l0 l1 l3 l4 m
    else
    if ml_in m l1 25 l3 then
    ml_let (ml_R m l1 l3.toNatClampNeg) fun a3170 =>
    if ml_in m l1 25 l4 then
    ml_let (ml_R m l1 l4.toNatClampNeg) fun a3172 =>
    if (ml_K m a3170).1 = 0 then
    ml_b1 (fX0_meets a3170 a3172 m) fun r3175 =>
    if r3175 = 0 then
    fX4_gather_66 k7 (fX4_gather_25 k7 fu) l0 l1 l3 l4 m
    else
    ml_let (ml_R m l0 5) fun a3176 =>
    if ml_in m a3176 20 l3 then
    if ml_in m a3176 20 l3 then
    ml_let (ml_sI m a3176 l3.toNatClampNeg ((ml_I m a3176 l3.toNatClampNeg) ||| ((1 : Int32) <<< (l4 &&& 31)))) fun m3179 =>
    fX4_gather_66 k7 (fX4_gather_25 k7 fu) l0 l1 l3 l4 m3179
    else none
    else none
    else none
    else none
    else none
    else none
theorem vX4_gather_25 {E : ml_E} (hL : ml_eL E = 5) {rm : ml_M} (hr : ∀ (pc pc' : Nat) (lv : List (Nat × ml_X)), ml_d cX4_gather pc .return_ 1 pc' → True → ml_V E "LostRoom$Lays" cX4_gather 5 false rm pc lv []) {k7 : Nat → Nat → Int32 → ml_M → Option ml_M} (hk7 : ∀ (l0 : Nat) (l1 : Nat) (l3 : Int32) (m : ml_M), k7 l0 l1 l3 m = some rm → ml_V E "LostRoom$Lays" cX4_gather 5 false m 7 [(0, ml_r l0), (1, ml_r l1), (3, ml_i l3)] []) : ∀ (fu : Nat) (l0 : Nat) (l1 : Nat) (l3 : Int32) (l4 : Int32) (m : ml_M), fX4_gather_25 k7 fu l0 l1 l3 l4 m = some rm → ml_V E "LostRoom$Lays" cX4_gather 5 false m 25 [(0, ml_r l0), (1, ml_r l1), (3, ml_i l3), (4, ml_i l4)] [] := by
  intro fu
  induction fu with
  | zero => intro l0 l1 l3 l4 m h; exact ml_none h
  | succ fu ih =>
    intro l0 l1 l3 l4 m h
    have hk25 := ih
    unfold fX4_gather_25 at h
    exact ml_iload dX4_gather_25 3 rfl <| ml_aload_n dX4_gather_27 0 rfl <| ml_ck_of h fun hc3168 h => ml_getI dX4_gather_28 wb_414 hc3168 <| ml_icmp_ge dX4_gather_31 h (fun _ h => ml_V.sub [0, 1, 2] rfl (vX4_gather_72 hL hr hk7 _ _ _ _ h)) (fun _ h => ml_iload_n dX4_gather_34 2 rfl <| ml_iload dX4_gather_35 3 rfl <| ml_icmp_eq dX4_gather_37 h (fun _ h => ml_V.sub [0, 1, 2, 3] rfl (vX4_gather_66 hL hr hk7 hk25 _ _ _ _ _ h)) (fun _ h => ml_aload_n dX4_gather_40 1 rfl <| ml_iload_n dX4_gather_41 2 rfl <| ml_ck_of h fun hi3169 h => ml_aald (kd := 25) dX4_gather_42 (by decide) hi3169 <| ml_lx (mk := ml_r) h fun a3170 h => ml_aload_n dX4_gather_43 1 rfl <| ml_iload dX4_gather_44 3 rfl <| ml_ck_of h fun hi3171 h => ml_aald (kd := 25) dX4_gather_46 (by decide) hi3171 <| ml_lx (mk := ml_r) h fun a3172 h => ml_ck_of h fun hc3174 h => ml_b1_of h fun r3175 hv3173 h => ml_callV dX4_gather_47 wm_690 wb_410 hc3174 (sX0_meets hv3173) rfl (Nat.le_of_ble_eq_true rfl) (Nat.le_of_ble_eq_true rfl) rfl <| ml_if_eq dX4_gather_50 h (fun _ h => ml_V.sub [0, 1, 2, 3] rfl (vX4_gather_66 hL hr hk7 hk25 _ _ _ _ _ h)) (fun _ h => ml_aload_n dX4_gather_53 0 rfl <| ml_getR dX4_gather_54 wb_418 hc3168 <| ml_lx (mk := ml_r) h fun a3176 h => ml_iload_n dX4_gather_57 2 rfl <| ml_dup2 dX4_gather_58 rfl rfl <| ml_ck_of h fun hi3177 h => ml_iald dX4_gather_59 hi3177 <| ml_iconst dX4_gather_60 kc_i1 <| ml_iload dX4_gather_61 3 rfl <| ml_ishl dX4_gather_63 <| ml_ior dX4_gather_64 <| ml_ck_of h fun hi3178 h => ml_iast dX4_gather_65 hi3178 <| ml_lt (m := m) rfl h fun m3179 em3180 h => ml_V.sub [0, 1, 2, 3] rfl (vX4_gather_66 hL hr hk7 hk25 _ _ _ _ _ h))))
def fX4_gather_130 (k87 : Nat → Int32 → ml_M → Option ml_M) (k94 : Nat → Int32 → Int32 → ml_M → Option ml_M) (l0 : Nat) (l3 : Int32) (l4 : Int32) (m : ml_M) : Option ml_M :=
    k94 l0 l3 (l4 + (1 : Int32)) m
theorem vX4_gather_130 {E : ml_E} (hL : ml_eL E = 5) {rm : ml_M} (hr : ∀ (pc pc' : Nat) (lv : List (Nat × ml_X)), ml_d cX4_gather pc .return_ 1 pc' → True → ml_V E "LostRoom$Lays" cX4_gather 5 false rm pc lv []) {k87 : Nat → Int32 → ml_M → Option ml_M} (hk87 : ∀ (l0 : Nat) (l3 : Int32) (m : ml_M), k87 l0 l3 m = some rm → ml_V E "LostRoom$Lays" cX4_gather 5 false m 87 [(0, ml_r l0), (3, ml_i l3)] []) {k94 : Nat → Int32 → Int32 → ml_M → Option ml_M} (hk94 : ∀ (l0 : Nat) (l3 : Int32) (l4 : Int32) (m : ml_M), k94 l0 l3 l4 m = some rm → ml_V E "LostRoom$Lays" cX4_gather 5 false m 94 [(0, ml_r l0), (3, ml_i l3), (4, ml_i l4)] []) : ∀ (l0 : Nat) (l3 : Int32) (l4 : Int32) (m : ml_M), fX4_gather_130 k87 k94 l0 l3 l4 m = some rm → ml_V E "LostRoom$Lays" cX4_gather 5 false m 130 [(0, ml_r l0), (3, ml_i l3), (4, ml_i l4)] [] := by
  intro l0 l3 l4 m h
  unfold fX4_gather_130 at h
  exact ml_iinc (lv' := [(4, ml_i (l4 + (1 : Int32))), (0, ml_r l0), (3, ml_i l3)]) dX4_gather_130 2 rfl (congrArg (l4 + ·) kc_i1) (ml_hn hL rfl) rfl <| ml_goto dX4_gather_133 <| ml_V.sub [1, 2, 0] rfl (hk94 _ _ _ _ h)
def fX4_gather_136 (k87 : Nat → Int32 → ml_M → Option ml_M) (l0 : Nat) (l3 : Int32) (m : ml_M) : Option ml_M :=
    k87 l0 (l3 + (-1 : Int32)) m
theorem vX4_gather_136 {E : ml_E} (hL : ml_eL E = 5) {rm : ml_M} (hr : ∀ (pc pc' : Nat) (lv : List (Nat × ml_X)), ml_d cX4_gather pc .return_ 1 pc' → True → ml_V E "LostRoom$Lays" cX4_gather 5 false rm pc lv []) {k87 : Nat → Int32 → ml_M → Option ml_M} (hk87 : ∀ (l0 : Nat) (l3 : Int32) (m : ml_M), k87 l0 l3 m = some rm → ml_V E "LostRoom$Lays" cX4_gather 5 false m 87 [(0, ml_r l0), (3, ml_i l3)] []) : ∀ (l0 : Nat) (l3 : Int32) (m : ml_M), fX4_gather_136 k87 l0 l3 m = some rm → ml_V E "LostRoom$Lays" cX4_gather 5 false m 136 [(0, ml_r l0), (3, ml_i l3)] [] := by
  intro l0 l3 m h
  unfold fX4_gather_136 at h
  exact ml_iinc (lv' := [(3, ml_i (l3 + (-1 : Int32))), (0, ml_r l0)]) dX4_gather_136 1 rfl (congrArg (l3 + ·) kc_im1) (ml_hn hL rfl) rfl <| ml_goto dX4_gather_139 <| ml_V.sub [1, 0] rfl (hk87 _ _ _ h)
def fX4_gather_94 (k87 : Nat → Int32 → ml_M → Option ml_M) : Nat → Nat → Int32 → Int32 → ml_M → Option ml_M
  | 0, _, _, _, _ => none
  | fu + 1, l0, l3, l4, m =>
    if (ml_K m l0).1 = 4 then
    if (ml_I m l0 4) ≤ l4 then
    fX4_gather_136 k87 l0 l3 m
    else
    ml_b1 (fX10_has l3 l4 m) fun r3183 =>
    if r3183 = 0 then
    fX4_gather_130 k87 (fX4_gather_94 k87 fu) l0 l3 l4 m
    else
    ml_b1 (fX4_slot l3 l4 m) fun r3185 =>
    ml_let (ml_R m l0 5) fun a3186 =>
    if ml_in m a3186 20 l4 then
    ml_b1 (fX4_follow l0 l3 r3185 (ml_I m a3186 l4.toNatClampNeg) m) fun m3189 =>
    fX4_gather_130 k87 (fX4_gather_94 k87 fu) l0 l3 l4 m3189
    else none
    else none
theorem vX4_gather_94 {E : ml_E} (hL : ml_eL E = 5) {rm : ml_M} (hr : ∀ (pc pc' : Nat) (lv : List (Nat × ml_X)), ml_d cX4_gather pc .return_ 1 pc' → True → ml_V E "LostRoom$Lays" cX4_gather 5 false rm pc lv []) {k87 : Nat → Int32 → ml_M → Option ml_M} (hk87 : ∀ (l0 : Nat) (l3 : Int32) (m : ml_M), k87 l0 l3 m = some rm → ml_V E "LostRoom$Lays" cX4_gather 5 false m 87 [(0, ml_r l0), (3, ml_i l3)] []) : ∀ (fu : Nat) (l0 : Nat) (l3 : Int32) (l4 : Int32) (m : ml_M), fX4_gather_94 k87 fu l0 l3 l4 m = some rm → ml_V E "LostRoom$Lays" cX4_gather 5 false m 94 [(0, ml_r l0), (3, ml_i l3), (4, ml_i l4)] [] := by
  intro fu
  induction fu with
  | zero => intro l0 l3 l4 m h; exact ml_none h
  | succ fu ih =>
    intro l0 l3 l4 m h
    have hk94 := ih
    unfold fX4_gather_94 at h
    exact ml_iload dX4_gather_94 2 rfl <| ml_aload_n dX4_gather_96 0 rfl <| ml_ck_of h fun hc3181 h => ml_getI dX4_gather_97 wb_414 hc3181 <| ml_icmp_ge dX4_gather_100 h (fun _ h => ml_V.sub [0, 1] rfl (vX4_gather_136 hL hr hk87 _ _ _ h)) (fun _ h => ml_iload_n dX4_gather_103 1 rfl <| ml_iload dX4_gather_104 2 rfl <| ml_b1_of h fun r3183 hv3182 h => ml_callSN (host := "LostRoom") dX4_gather_106 (by decide) wb_299 (sX10_has hv3182) rfl (Nat.le_of_ble_eq_true rfl) (Nat.le_of_ble_eq_true rfl) rfl <| ml_if_eq dX4_gather_109 h (fun _ h => ml_V.sub [0, 1, 2] rfl (vX4_gather_130 hL hr hk87 hk94 _ _ _ _ h)) (fun _ h => ml_aload_n dX4_gather_112 0 rfl <| ml_iload_n dX4_gather_113 1 rfl <| ml_iload_n dX4_gather_114 1 rfl <| ml_iload dX4_gather_115 2 rfl <| ml_b1_of h fun r3185 hv3184 h => ml_callS dX4_gather_117 wm_685 wb_415 (sX4_slot hv3184) rfl (Nat.le_of_ble_eq_true rfl) (Nat.le_of_ble_eq_true rfl) rfl <| ml_aload_n dX4_gather_120 0 rfl <| ml_getR dX4_gather_121 wb_418 hc3181 <| ml_lx (mk := ml_r) h fun a3186 h => ml_iload dX4_gather_124 2 rfl <| ml_ck_of h fun hi3187 h => ml_iald dX4_gather_126 hi3187 <| ml_b1_of h fun m3189 hv3188 h => ml_callV dX4_gather_127 wm_694 wb_419 hc3181 (sX4_follow hv3188) rfl (Nat.le_of_ble_eq_true rfl) (Nat.le_of_ble_eq_true rfl) rfl <| ml_V.sub [0, 1, 2] rfl (vX4_gather_130 hL hr hk87 hk94 _ _ _ _ h)))
def fX4_gather_142 (l0 : Nat) (m : ml_M) : Option ml_M :=
    ml_b1 (fX4_slot (0 : Int32) (0 : Int32) m) fun r3191 =>
    if (ml_K m l0).1 = 4 then
    ml_b1 (fX4_follow l0 (0 : Int32) r3191 (0 : Int32) m) fun m3194 =>
    if (ml_K m3194 l0).1 = 4 then
    ml_let (ml_R m3194 l0 6) fun a3196 =>
    ml_b1 (fX4_slot (0 : Int32) (0 : Int32) m3194) fun r3198 =>
    if ml_in m3194 a3196 20 r3198 then
    ml_let (ml_sI m3194 l0 1 (ml_I m3194 a3196 r3198.toNatClampNeg)) fun m3200 =>
    ml_let (ml_R m3200 l0 7) fun a3202 =>
    ml_b1 (fX4_slot (0 : Int32) (0 : Int32) m3200) fun r3204 =>
    if ml_in m3200 a3202 20 r3204 then
    ml_let (ml_sI m3200 l0 2 (ml_I m3200 a3202 r3204.toNatClampNeg)) fun m3206 =>
    ml_b1 (fX4_findFirst l0 m3206) fun m3209 =>
    if (ml_K m3209 l0).1 = 4 then
    ml_let (ml_sI m3209 l0 0 (0 : Int32)) fun m3211 =>
    some m3211
    else none
    else none
    else none
    else none
    else none
theorem vX4_gather_142 {E : ml_E} (hL : ml_eL E = 5) {rm : ml_M} (hr : ∀ (pc pc' : Nat) (lv : List (Nat × ml_X)), ml_d cX4_gather pc .return_ 1 pc' → True → ml_V E "LostRoom$Lays" cX4_gather 5 false rm pc lv []) : ∀ (l0 : Nat) (m : ml_M), fX4_gather_142 l0 m = some rm → ml_V E "LostRoom$Lays" cX4_gather 5 false m 142 [(0, ml_r l0)] [] := by
  intro l0 m h
  unfold fX4_gather_142 at h
  exact ml_aload_n dX4_gather_142 0 rfl <| ml_iconst dX4_gather_143 kc_i0 <| ml_iconst dX4_gather_144 kc_i0 <| ml_iconst dX4_gather_145 kc_i0 <| ml_b1_of h fun r3191 hv3190 h => ml_callS dX4_gather_146 wm_685 wb_415 (sX4_slot hv3190) rfl (Nat.le_of_ble_eq_true rfl) (Nat.le_of_ble_eq_true rfl) rfl <| ml_iconst dX4_gather_149 kc_i0 <| ml_ck_of h fun hc3193 h => ml_b1_of h fun m3194 hv3192 h => ml_callV dX4_gather_150 wm_694 wb_419 hc3193 (sX4_follow hv3192) rfl (Nat.le_of_ble_eq_true rfl) (Nat.le_of_ble_eq_true rfl) rfl <| ml_aload_n dX4_gather_153 0 rfl <| ml_aload_n dX4_gather_154 0 rfl <| ml_ck_of h fun hc3195 h => ml_getR dX4_gather_155 wb_412 hc3195 <| ml_lx (mk := ml_r) h fun a3196 h => ml_iconst dX4_gather_158 kc_i0 <| ml_iconst dX4_gather_159 kc_i0 <| ml_b1_of h fun r3198 hv3197 h => ml_callS dX4_gather_160 wm_685 wb_415 (sX4_slot hv3197) rfl (Nat.le_of_ble_eq_true rfl) (Nat.le_of_ble_eq_true rfl) rfl <| ml_ck_of h fun hi3199 h => ml_iald dX4_gather_163 hi3199 <| ml_putI dX4_gather_164 wb_420 hc3195 <| ml_lt (m := m3194) rfl h fun m3200 em3201 h => ml_aload_n dX4_gather_167 0 rfl <| ml_aload_n dX4_gather_168 0 rfl <| ml_getR dX4_gather_169 wb_413 (ml_kk em3201 hc3195) <| ml_lx (mk := ml_r) h fun a3202 h => ml_iconst dX4_gather_172 kc_i0 <| ml_iconst dX4_gather_173 kc_i0 <| ml_b1_of h fun r3204 hv3203 h => ml_callS dX4_gather_174 wm_685 wb_415 (sX4_slot hv3203) rfl (Nat.le_of_ble_eq_true rfl) (Nat.le_of_ble_eq_true rfl) rfl <| ml_ck_of h fun hi3205 h => ml_iald dX4_gather_177 hi3205 <| ml_putI dX4_gather_178 wb_421 (ml_kk em3201 hc3195) <| ml_lt (m := m3200) rfl h fun m3206 em3207 h => ml_aload_n dX4_gather_181 0 rfl <| ml_b1_of h fun m3209 hv3208 h => ml_callV dX4_gather_182 wm_700 wb_422 (ml_kk em3207 (ml_kk em3201 hc3195)) (sX4_findFirst hv3208) rfl (Nat.le_of_ble_eq_true rfl) (Nat.le_of_ble_eq_true rfl) rfl <| ml_aload_n dX4_gather_185 0 rfl <| ml_iconst dX4_gather_186 kc_i0 <| ml_ck_of h fun hc3210 h => ml_putZ dX4_gather_187 wb_423 hc3210 (Or.inl rfl) <| ml_lt (m := m3209) rfl h fun m3211 em3212 h => ml_rv hr dX4_gather_190 trivial h
def fX4_gather_87 : Nat → Nat → Int32 → ml_M → Option ml_M
  | 0, _, _, _ => none
  | fu + 1, l0, l3, m =>
    if l3 ≤ 0 then
    fX4_gather_142 l0 m
    else
    fX4_gather_94 (fX4_gather_87 fu) ml_fu l0 l3 (0 : Int32) m
theorem vX4_gather_87 {E : ml_E} (hL : ml_eL E = 5) {rm : ml_M} (hr : ∀ (pc pc' : Nat) (lv : List (Nat × ml_X)), ml_d cX4_gather pc .return_ 1 pc' → True → ml_V E "LostRoom$Lays" cX4_gather 5 false rm pc lv []) : ∀ (fu : Nat) (l0 : Nat) (l3 : Int32) (m : ml_M), fX4_gather_87 fu l0 l3 m = some rm → ml_V E "LostRoom$Lays" cX4_gather 5 false m 87 [(0, ml_r l0), (3, ml_i l3)] [] := by
  intro fu
  induction fu with
  | zero => intro l0 l3 m h; exact ml_none h
  | succ fu ih =>
    intro l0 l3 m h
    have hk87 := ih
    unfold fX4_gather_87 at h
    exact ml_iload_n dX4_gather_87 1 rfl <| ml_if_le dX4_gather_88 h (fun _ h => ml_V.sub [0] rfl (vX4_gather_142 hL hr  _ _ h)) (fun _ h => ml_iconst dX4_gather_91 kc_i0 <| ml_istore (lv' := [(4, ml_i (0 : Int32)), (0, ml_r l0), (3, ml_i l3)]) dX4_gather_92 (ml_hn hL rfl) rfl <| ml_V.sub [1, 2, 0] rfl (vX4_gather_94 hL hr hk87 ml_fu _ _ _ _ h))
def fX4_gather_78 (l0 : Nat) (m : ml_M) : Option ml_M :=
    if (ml_K m l0).1 = 4 then
    ml_let (((1 : Int32) <<< ((ml_I m l0 4) &&& 31)) - (1 : Int32)) fun x3214 =>
    fX4_gather_87 ml_fu l0 x3214 m
    else none
theorem vX4_gather_78 {E : ml_E} (hL : ml_eL E = 5) {rm : ml_M} (hr : ∀ (pc pc' : Nat) (lv : List (Nat × ml_X)), ml_d cX4_gather pc .return_ 1 pc' → True → ml_V E "LostRoom$Lays" cX4_gather 5 false rm pc lv []) : ∀ (l0 : Nat) (m : ml_M), fX4_gather_78 l0 m = some rm → ml_V E "LostRoom$Lays" cX4_gather 5 false m 78 [(0, ml_r l0)] [] := by
  intro l0 m h
  unfold fX4_gather_78 at h
  exact ml_iconst dX4_gather_78 kc_i1 <| ml_aload_n dX4_gather_79 0 rfl <| ml_ck_of h fun hc3213 h => ml_getI dX4_gather_80 wb_414 hc3213 <| ml_ishl dX4_gather_83 <| ml_iconst dX4_gather_84 kc_i1 <| ml_isub dX4_gather_85 <| ml_lx (mk := ml_i) h fun x3214 h => ml_istore_n (lv' := [(3, ml_i x3214), (0, ml_r l0)]) dX4_gather_86 (ml_hn hL rfl) rfl <| ml_V.sub [1, 0] rfl (vX4_gather_87 hL hr  ml_fu _ _ _ h)
def fX4_gather_7 : Nat → Nat → Nat → Int32 → ml_M → Option ml_M
  | 0, _, _, _, _ => none
  | fu + 1, l0, l1, l3, m =>
    if (ml_K m l0).1 = 4 then
    if (ml_I m l0 4) ≤ l3 then
    fX4_gather_78 l0 m
    else
    ml_let (ml_R m l0 5) fun a3216 =>
    if ml_in m a3216 20 l3 then
    ml_let (ml_sI m a3216 l3.toNatClampNeg (0 : Int32)) fun m3218 =>
    fX4_gather_25 (fX4_gather_7 fu) ml_fu l0 l1 l3 (0 : Int32) m3218
    else none
    else none
theorem vX4_gather_7 {E : ml_E} (hL : ml_eL E = 5) {rm : ml_M} (hr : ∀ (pc pc' : Nat) (lv : List (Nat × ml_X)), ml_d cX4_gather pc .return_ 1 pc' → True → ml_V E "LostRoom$Lays" cX4_gather 5 false rm pc lv []) : ∀ (fu : Nat) (l0 : Nat) (l1 : Nat) (l3 : Int32) (m : ml_M), fX4_gather_7 fu l0 l1 l3 m = some rm → ml_V E "LostRoom$Lays" cX4_gather 5 false m 7 [(0, ml_r l0), (1, ml_r l1), (3, ml_i l3)] [] := by
  intro fu
  induction fu with
  | zero => intro l0 l1 l3 m h; exact ml_none h
  | succ fu ih =>
    intro l0 l1 l3 m h
    have hk7 := ih
    unfold fX4_gather_7 at h
    exact ml_iload_n dX4_gather_7 2 rfl <| ml_aload_n dX4_gather_8 0 rfl <| ml_ck_of h fun hc3215 h => ml_getI dX4_gather_9 wb_414 hc3215 <| ml_icmp_ge dX4_gather_12 h (fun _ h => ml_V.sub [0] rfl (vX4_gather_78 hL hr  _ _ h)) (fun _ h => ml_aload_n dX4_gather_15 0 rfl <| ml_getR dX4_gather_16 wb_418 hc3215 <| ml_lx (mk := ml_r) h fun a3216 h => ml_iload_n dX4_gather_19 2 rfl <| ml_iconst dX4_gather_20 kc_i0 <| ml_ck_of h fun hi3217 h => ml_iast dX4_gather_21 hi3217 <| ml_lt (m := m) rfl h fun m3218 em3219 h => ml_iconst dX4_gather_22 kc_i0 <| ml_istore (lv' := [(4, ml_i (0 : Int32)), (0, ml_r l0), (1, ml_r l1), (3, ml_i l3)]) dX4_gather_23 (ml_hn hL rfl) rfl <| ml_V.sub [1, 2, 3, 0] rfl (vX4_gather_25 hL hr hk7 ml_fu _ _ _ _ _ h))
def fX4_gather (l0 : Nat) (l1 : Nat) (l2 : Int32) (m : ml_M) : Option ml_M :=
    if (ml_K m l0).1 = 4 then
    ml_let (ml_sI m l0 4 l2) fun m3221 =>
    fX4_gather_7 ml_fu l0 l1 (0 : Int32) m3221
    else none
theorem wX4_gather_0 {E : ml_E} (hL : ml_eL E = 5) {rm : ml_M} (hr : ∀ (pc pc' : Nat) (lv : List (Nat × ml_X)), ml_d cX4_gather pc .return_ 1 pc' → True → ml_V E "LostRoom$Lays" cX4_gather 5 false rm pc lv []) : ∀ (l0 : Nat) (l1 : Nat) (l2 : Int32) (m : ml_M), fX4_gather l0 l1 l2 m = some rm → ml_V E "LostRoom$Lays" cX4_gather 5 false m 0 [(0, ml_r l0), (1, ml_r l1), (2, ml_i l2)] [] := by
  intro l0 l1 l2 m h
  unfold fX4_gather at h
  exact ml_aload_n dX4_gather_0 0 rfl <| ml_iload_n dX4_gather_1 2 rfl <| ml_ck_of h fun hc3220 h => ml_putI dX4_gather_2 wb_424 hc3220 <| ml_lt (m := m) rfl h fun m3221 em3222 h => ml_iconst dX4_gather_5 kc_i0 <| ml_istore_n (lv' := [(3, ml_i (0 : Int32)), (0, ml_r l0), (1, ml_r l1), (2, ml_i l2)]) dX4_gather_6 (ml_hn hL rfl) rfl <| ml_V.sub [1, 2, 0] rfl (vX4_gather_7 hL hr  ml_fu _ _ _ _ h)
theorem sX4_gather {l0 : Nat} {l1 : Nat} {l2 : Int32} {m : ml_M} {rm : ml_M} (h : fX4_gather l0 l1 l2 m = some rm) : ml_Sn yX4_gather cX4_gather 5 none 5 [ml_r l0, ml_r l1, ml_i l2] m none rm :=
  ml_Sn_of (P := True) (ini := false) (by decide +kernel) (Nat.le_of_ble_eq_true rfl) (fun h => by cases h) (fun _ => ml_RkV) fun E hL hr => wX4_gather_0 hL hr _ _ _ _ h
theorem dX10_refreshLays_0 : ml_d cX10_refreshLays 0 (.aload_n 0) 1 1 := ⟨by decide +kernel, rfl⟩
theorem dX10_refreshLays_1 : ml_d cX10_refreshLays 1 (.getfield 68) 3 4 := ⟨by decide +kernel, rfl⟩
theorem dX10_refreshLays_4 : ml_d cX10_refreshLays 4 (.getfield 134) 3 7 := ⟨by decide +kernel, rfl⟩
theorem dX10_refreshLays_7 : ml_j cX10_refreshLays 7 (.ifCond .eq) 25 10 := ⟨18, by decide +kernel, by decide, rfl⟩
theorem dX10_refreshLays_10 : ml_d cX10_refreshLays 10 (.aload_n 0) 1 11 := ⟨by decide +kernel, rfl⟩
theorem dX10_refreshLays_11 : ml_d cX10_refreshLays 11 (.getfield 68) 3 14 := ⟨by decide +kernel, rfl⟩
theorem dX10_refreshLays_14 : ml_d cX10_refreshLays 14 (.aload_n 0) 1 15 := ⟨by decide +kernel, rfl⟩
theorem dX10_refreshLays_15 : ml_d cX10_refreshLays 15 (.getfield 48) 3 18 := ⟨by decide +kernel, rfl⟩
theorem dX10_refreshLays_18 : ml_d cX10_refreshLays 18 (.aload_n 0) 1 19 := ⟨by decide +kernel, rfl⟩
theorem dX10_refreshLays_19 : ml_d cX10_refreshLays 19 (.getfield 124) 3 22 := ⟨by decide +kernel, rfl⟩
theorem dX10_refreshLays_22 : ml_d cX10_refreshLays 22 (.invokevirtual 417) 3 25 := ⟨by decide +kernel, rfl⟩
theorem dX10_refreshLays_25 : ml_d cX10_refreshLays 25 (.return_) 1 26 := ⟨by decide +kernel, rfl⟩
def fX10_refreshLays (l0 : Nat) (m : ml_M) : Option ml_M :=
    if (ml_K m l0).1 = 10 then
    ml_let (ml_R m l0 13) fun a3224 =>
    if (ml_K m a3224).1 = 4 then
    if (ml_I m a3224 0) = 0 then
    some m
    else
    ml_let (ml_R m l0 13) fun a3226 =>
    ml_let (ml_R m l0 8) fun a3227 =>
    if (ml_K m a3226).1 = 4 then
    ml_b1 (fX4_gather a3226 a3227 (ml_I m l0 9) m) fun m3230 =>
    some m3230
    else none
    else none
    else none
theorem wX10_refreshLays_0 {E : ml_E} (hL : ml_eL E = 1) {rm : ml_M} (hr : ∀ (pc pc' : Nat) (lv : List (Nat × ml_X)), ml_d cX10_refreshLays pc .return_ 1 pc' → True → ml_V E "LostRoom" cX10_refreshLays 6 false rm pc lv []) : ∀ (l0 : Nat) (m : ml_M), fX10_refreshLays l0 m = some rm → ml_V E "LostRoom" cX10_refreshLays 6 false m 0 [(0, ml_r l0)] [] := by
  intro l0 m h
  unfold fX10_refreshLays at h
  exact ml_aload_n dX10_refreshLays_0 0 rfl <| ml_ck_of h fun hc3223 h => ml_getR dX10_refreshLays_1 wb_187 hc3223 <| ml_lx (mk := ml_r) h fun a3224 h => ml_ck_of h fun hc3225 h => ml_getI dX10_refreshLays_4 wb_425 hc3225 <| ml_if_eq dX10_refreshLays_7 h (fun _ h => ml_rv hr dX10_refreshLays_25 trivial h) (fun _ h => ml_aload_n dX10_refreshLays_10 0 rfl <| ml_getR dX10_refreshLays_11 wb_187 hc3223 <| ml_lx (mk := ml_r) h fun a3226 h => ml_aload_n dX10_refreshLays_14 0 rfl <| ml_getR dX10_refreshLays_15 wb_401 hc3223 <| ml_lx (mk := ml_r) h fun a3227 h => ml_aload_n dX10_refreshLays_18 0 rfl <| ml_getI dX10_refreshLays_19 wb_400 hc3223 <| ml_ck_of h fun hc3229 h => ml_b1_of h fun m3230 hv3228 h => ml_callV dX10_refreshLays_22 wm_704 wb_426 hc3229 (sX4_gather hv3228) rfl (Nat.le_of_ble_eq_true rfl) (Nat.le_of_ble_eq_true rfl) rfl <| ml_rv hr dX10_refreshLays_25 trivial h)
theorem sX10_refreshLays {l0 : Nat} {m : ml_M} {rm : ml_M} (h : fX10_refreshLays l0 m = some rm) : ml_Sn yX10_refreshLays cX10_refreshLays 1 none 6 [ml_r l0] m none rm :=
  ml_Sn_of (P := True) (ini := false) (by decide +kernel) (Nat.le_of_ble_eq_true rfl) (fun h => by cases h) (fun _ => ml_RkV) fun E hL hr => wX10_refreshLays_0 hL hr _ _ h
theorem dX10_sheets_0 : ml_d cX10_sheets 0 (.iload_n 1) 1 1 := ⟨by decide +kernel, rfl⟩
theorem dX10_sheets_1 : ml_d cX10_sheets 1 (.invokestatic 82) 3 4 := ⟨by decide +kernel, rfl⟩
theorem dX10_sheets_4 : ml_j cX10_sheets 4 (.ifCond .ne) 9 7 := ⟨5, by decide +kernel, by decide, rfl⟩
theorem dX10_sheets_7 : ml_d cX10_sheets 7 (.iconst (-1)) 1 8 := ⟨by decide +kernel, rfl⟩
theorem dX10_sheets_8 : ml_d cX10_sheets 8 (.ireturn) 1 9 := ⟨by decide +kernel, rfl⟩
theorem dX10_sheets_9 : ml_d cX10_sheets 9 (.aload_n 0) 1 10 := ⟨by decide +kernel, rfl⟩
theorem dX10_sheets_10 : ml_d cX10_sheets 10 (.invokevirtual 288) 3 13 := ⟨by decide +kernel, rfl⟩
theorem dX10_sheets_13 : ml_d cX10_sheets 13 (.aload_n 0) 1 14 := ⟨by decide +kernel, rfl⟩
theorem dX10_sheets_14 : ml_d cX10_sheets 14 (.getfield 11) 3 17 := ⟨by decide +kernel, rfl⟩
theorem dX10_sheets_17 : ml_d cX10_sheets 17 (.iload_n 1) 1 18 := ⟨by decide +kernel, rfl⟩
theorem dX10_sheets_18 : ml_d cX10_sheets 18 (.aload_n 0) 1 19 := ⟨by decide +kernel, rfl⟩
theorem dX10_sheets_19 : ml_d cX10_sheets 19 (.getfield 68) 3 22 := ⟨by decide +kernel, rfl⟩
theorem dX10_sheets_22 : ml_d cX10_sheets 22 (.getfield 291) 3 25 := ⟨by decide +kernel, rfl⟩
theorem dX10_sheets_25 : ml_d cX10_sheets 25 (.aload_n 0) 1 26 := ⟨by decide +kernel, rfl⟩
theorem dX10_sheets_26 : ml_d cX10_sheets 26 (.getfield 124) 3 29 := ⟨by decide +kernel, rfl⟩
theorem dX10_sheets_29 : ml_d cX10_sheets 29 (.invokestatic 252) 3 32 := ⟨by decide +kernel, rfl⟩
theorem dX10_sheets_32 : ml_d cX10_sheets 32 (.aastore) 1 33 := ⟨by decide +kernel, rfl⟩
theorem dX10_sheets_33 : ml_d cX10_sheets 33 (.aload_n 0) 1 34 := ⟨by decide +kernel, rfl⟩
theorem dX10_sheets_34 : ml_d cX10_sheets 34 (.getfield 68) 3 37 := ⟨by decide +kernel, rfl⟩
theorem dX10_sheets_37 : ml_d cX10_sheets 37 (.getfield 292) 3 40 := ⟨by decide +kernel, rfl⟩
theorem dX10_sheets_40 : ml_d cX10_sheets 40 (.ireturn) 1 41 := ⟨by decide +kernel, rfl⟩
def fX10_sheets (l0 : Nat) (l1 : Int32) (m : ml_M) : Option (Int32 × ml_M) :=
    ml_b1 (fX10_isRow l1 m) fun r3232 =>
    if r3232 = 0 then
    some ((-1 : Int32), m)
    else
    if (ml_K m l0).1 = 10 then
    ml_b1 (fX10_refreshLays l0 m) fun m3235 =>
    if (ml_K m3235 l0).1 = 10 then
    ml_let (ml_R m3235 l0 0) fun a3237 =>
    ml_let (ml_R m3235 l0 13) fun a3238 =>
    if (ml_K m3235 a3238).1 = 4 then
    ml_let (ml_R m3235 a3238 3) fun a3240 =>
    ml_b2 (fJ7_copyOf_59c91 a3240 (ml_I m3235 l0 9) m3235) fun a3242 m3243 =>
    if (ml_K m3243 a3242).1 = 20 then
    if ml_in m3243 a3237 23 l1 then
    ml_let (ml_sR m3243 a3237 l1.toNatClampNeg a3242) fun m3246 =>
    if (ml_K m3246 l0).1 = 10 then
    ml_let (ml_R m3246 l0 13) fun a3249 =>
    if (ml_K m3246 a3249).1 = 4 then
    some ((ml_I m3246 a3249 1), m3246)
    else none
    else none
    else none
    else none
    else none
    else none
    else none
theorem wX10_sheets_0 {E : ml_E} (hL : ml_eL E = 2) {rv : Int32} {rm : ml_M} (hr : ∀ (pc pc' : Nat) (lv : List (Nat × ml_X)), ml_d cX10_sheets pc .ireturn 1 pc' → True → ml_V E "LostRoom" cX10_sheets 7 false rm pc lv [ml_i rv]) : ∀ (l0 : Nat) (l1 : Int32) (m : ml_M), fX10_sheets l0 l1 m = some (rv, rm) → ml_V E "LostRoom" cX10_sheets 7 false m 0 [(0, ml_r l0), (1, ml_i l1)] [] := by
  intro l0 l1 m h
  unfold fX10_sheets at h
  exact ml_iload_n dX10_sheets_0 1 rfl <| ml_b1_of h fun r3232 hv3231 h => ml_callS dX10_sheets_1 wm_128 wb_97 (sX10_isRow hv3231) rfl (Nat.le_of_ble_eq_true rfl) (Nat.le_of_ble_eq_true rfl) rfl <| ml_if_ne dX10_sheets_4 h (fun _ h => ml_aload_n dX10_sheets_9 0 rfl <| ml_ck_of h fun hc3234 h => ml_b1_of h fun m3235 hv3233 h => ml_callV dX10_sheets_10 wm_708 wb_427 hc3234 (sX10_refreshLays hv3233) rfl (Nat.le_of_ble_eq_true rfl) (Nat.le_of_ble_eq_true rfl) rfl <| ml_aload_n dX10_sheets_13 0 rfl <| ml_ck_of h fun hc3236 h => ml_getR dX10_sheets_14 wb_98 hc3236 <| ml_lx (mk := ml_r) h fun a3237 h => ml_iload_n dX10_sheets_17 1 rfl <| ml_aload_n dX10_sheets_18 0 rfl <| ml_getR dX10_sheets_19 wb_187 hc3236 <| ml_lx (mk := ml_r) h fun a3238 h => ml_ck_of h fun hc3239 h => ml_getR dX10_sheets_22 wb_428 hc3239 <| ml_lx (mk := ml_r) h fun a3240 h => ml_aload_n dX10_sheets_25 0 rfl <| ml_getI dX10_sheets_26 wb_400 hc3236 <| ml_b2_of h fun a3242 m3243 hv3241 h => ml_callS dX10_sheets_29 wm_578 wb_351 (sJ7_copyOf_59c91 hv3241) rfl (Nat.le_of_ble_eq_true rfl) (Nat.le_of_ble_eq_true rfl) rfl <| ml_ck_of h fun hc3245 h => ml_ck_of h fun hi3244 h => ml_aastA (kd := 23) (ka := 20) dX10_sheets_32 (by decide) hi3244 hc3245 <| ml_lt (m := m3243) rfl h fun m3246 em3247 h => ml_aload_n dX10_sheets_33 0 rfl <| ml_ck_of h fun hc3248 h => ml_getR dX10_sheets_34 wb_187 hc3248 <| ml_lx (mk := ml_r) h fun a3249 h => ml_ck_of h fun hc3250 h => ml_getI dX10_sheets_37 wb_429 hc3250 <| ml_rI (mk := ml_i) hr dX10_sheets_40 (fun _ => trivial) h) (fun _ h => ml_iconst dX10_sheets_7 kc_im1 <| ml_rI (mk := ml_i) hr dX10_sheets_8 (fun _ => trivial) h)
theorem sX10_sheets {l0 : Nat} {l1 : Int32} {m : ml_M} {rv : Int32} {rm : ml_M} (h : fX10_sheets l0 l1 m = some (rv, rm)) : ml_Sn yX10_sheets cX10_sheets 2 (some .int) 7 [ml_r l0, ml_i l1] m (some (ml_i rv)) rm :=
  ml_Sn_of (P := True) (ini := false) (by decide +kernel) (Nat.le_of_ble_eq_true rfl) (fun h => by cases h) (fun _ => ml_RkI rv) fun E hL hr => wX10_sheets_0 hL hr _ _ _ h
theorem dX11_addGap_0 : ml_d cX11_addGap 0 (.aload_n 0) 1 1 := ⟨by decide +kernel, rfl⟩
theorem dX11_addGap_1 : ml_d cX11_addGap 1 (.getfield 71) 3 4 := ⟨by decide +kernel, rfl⟩
theorem dX11_addGap_4 : ml_d cX11_addGap 4 (.iload_n 2) 1 5 := ⟨by decide +kernel, rfl⟩
theorem dX11_addGap_5 : ml_d cX11_addGap 5 (.iaload) 1 6 := ⟨by decide +kernel, rfl⟩
theorem dX11_addGap_6 : ml_d cX11_addGap 6 (.iload_n 3) 1 7 := ⟨by decide +kernel, rfl⟩
theorem dX11_addGap_7 : ml_d cX11_addGap 7 (.iadd) 1 8 := ⟨by decide +kernel, rfl⟩
theorem dX11_addGap_8 : ml_d cX11_addGap 8 (.istore 4) 2 10 := ⟨by decide +kernel, rfl⟩
theorem dX11_addGap_10 : ml_d cX11_addGap 10 (.iload 4) 2 12 := ⟨by decide +kernel, rfl⟩
theorem dX11_addGap_12 : ml_d cX11_addGap 12 (.aload_n 0) 1 13 := ⟨by decide +kernel, rfl⟩
theorem dX11_addGap_13 : ml_d cX11_addGap 13 (.getfield 71) 3 16 := ⟨by decide +kernel, rfl⟩
theorem dX11_addGap_16 : ml_d cX11_addGap 16 (.iload_n 1) 1 17 := ⟨by decide +kernel, rfl⟩
theorem dX11_addGap_17 : ml_d cX11_addGap 17 (.iaload) 1 18 := ⟨by decide +kernel, rfl⟩
theorem dX11_addGap_18 : ml_j cX11_addGap 18 (.if_icmp .ge) 36 21 := ⟨18, by decide +kernel, by decide, rfl⟩
theorem dX11_addGap_21 : ml_d cX11_addGap 21 (.aload_n 0) 1 22 := ⟨by decide +kernel, rfl⟩
theorem dX11_addGap_22 : ml_d cX11_addGap 22 (.getfield 71) 3 25 := ⟨by decide +kernel, rfl⟩
theorem dX11_addGap_25 : ml_d cX11_addGap 25 (.iload_n 1) 1 26 := ⟨by decide +kernel, rfl⟩
theorem dX11_addGap_26 : ml_d cX11_addGap 26 (.iload 4) 2 28 := ⟨by decide +kernel, rfl⟩
theorem dX11_addGap_28 : ml_d cX11_addGap 28 (.iastore) 1 29 := ⟨by decide +kernel, rfl⟩
theorem dX11_addGap_29 : ml_d cX11_addGap 29 (.aload_n 0) 1 30 := ⟨by decide +kernel, rfl⟩
theorem dX11_addGap_30 : ml_d cX11_addGap 30 (.getfield 74) 3 33 := ⟨by decide +kernel, rfl⟩
theorem dX11_addGap_33 : ml_d cX11_addGap 33 (.iload_n 1) 1 34 := ⟨by decide +kernel, rfl⟩
theorem dX11_addGap_34 : ml_d cX11_addGap 34 (.iconst 0) 1 35 := ⟨by decide +kernel, rfl⟩
theorem dX11_addGap_35 : ml_d cX11_addGap 35 (.iastore) 1 36 := ⟨by decide +kernel, rfl⟩
theorem dX11_addGap_36 : ml_d cX11_addGap 36 (.aload_n 0) 1 37 := ⟨by decide +kernel, rfl⟩
theorem dX11_addGap_37 : ml_d cX11_addGap 37 (.getfield 74) 3 40 := ⟨by decide +kernel, rfl⟩
theorem dX11_addGap_40 : ml_d cX11_addGap 40 (.iload_n 1) 1 41 := ⟨by decide +kernel, rfl⟩
theorem dX11_addGap_41 : ml_d cX11_addGap 41 (.dup2) 1 42 := ⟨by decide +kernel, rfl⟩
theorem dX11_addGap_42 : ml_d cX11_addGap 42 (.iaload) 1 43 := ⟨by decide +kernel, rfl⟩
theorem dX11_addGap_43 : ml_d cX11_addGap 43 (.iload 4) 2 45 := ⟨by decide +kernel, rfl⟩
theorem dX11_addGap_45 : ml_d cX11_addGap 45 (.aload_n 0) 1 46 := ⟨by decide +kernel, rfl⟩
theorem dX11_addGap_46 : ml_d cX11_addGap 46 (.getfield 71) 3 49 := ⟨by decide +kernel, rfl⟩
theorem dX11_addGap_49 : ml_d cX11_addGap 49 (.iload_n 1) 1 50 := ⟨by decide +kernel, rfl⟩
theorem dX11_addGap_50 : ml_d cX11_addGap 50 (.iaload) 1 51 := ⟨by decide +kernel, rfl⟩
theorem dX11_addGap_51 : ml_j cX11_addGap 51 (.if_icmp .ne) 63 54 := ⟨12, by decide +kernel, by decide, rfl⟩
theorem dX11_addGap_54 : ml_d cX11_addGap 54 (.aload_n 0) 1 55 := ⟨by decide +kernel, rfl⟩
theorem dX11_addGap_55 : ml_d cX11_addGap 55 (.getfield 74) 3 58 := ⟨by decide +kernel, rfl⟩
theorem dX11_addGap_58 : ml_d cX11_addGap 58 (.iload_n 2) 1 59 := ⟨by decide +kernel, rfl⟩
theorem dX11_addGap_59 : ml_d cX11_addGap 59 (.iaload) 1 60 := ⟨by decide +kernel, rfl⟩
theorem dX11_addGap_60 : ml_j cX11_addGap 60 .goto 64 63 := ⟨4, by decide +kernel, by decide, rfl⟩
theorem dX11_addGap_63 : ml_d cX11_addGap 63 (.iconst 0) 1 64 := ⟨by decide +kernel, rfl⟩
theorem dX11_addGap_64 : ml_d cX11_addGap 64 (.iadd) 1 65 := ⟨by decide +kernel, rfl⟩
theorem dX11_addGap_65 : ml_d cX11_addGap 65 (.iastore) 1 66 := ⟨by decide +kernel, rfl⟩
theorem dX11_addGap_66 : ml_d cX11_addGap 66 (.return_) 1 67 := ⟨by decide +kernel, rfl⟩
def fX11_addGap_64 (t0 : Int32) (t1 : Int32) (t2 : Int32) (t3 : Nat) (m : ml_M) : Option ml_M :=
    if ml_in m t3 20 t2 then
    ml_let (ml_sI m t3 t2.toNatClampNeg (t1 + t0)) fun m3252 =>
    some m3252
    else none
theorem vX11_addGap_64 {E : ml_E} (hL : ml_eL E = 5) {rm : ml_M} (hr : ∀ (pc pc' : Nat) (lv : List (Nat × ml_X)), ml_d cX11_addGap pc .return_ 1 pc' → True → ml_V E "LostRoomModel" cX11_addGap 2 false rm pc lv []) : ∀ (t0 : Int32) (t1 : Int32) (t2 : Int32) (t3 : Nat) (m : ml_M), fX11_addGap_64 t0 t1 t2 t3 m = some rm → ml_V E "LostRoomModel" cX11_addGap 2 false m 64 [] [ml_i t0, ml_i t1, ml_i t2, ml_r t3] := by
  intro t0 t1 t2 t3 m h
  unfold fX11_addGap_64 at h
  exact ml_iadd dX11_addGap_64 <| ml_ck_of h fun hi3251 h => ml_iast dX11_addGap_65 hi3251 <| ml_lt (m := m) rfl h fun m3252 em3253 h => ml_rv hr dX11_addGap_66 trivial h
def fX11_addGap_36 (l0 : Nat) (l1 : Int32) (l2 : Int32) (l4 : Int32) (m : ml_M) : Option ml_M :=
    if (ml_K m l0).1 = 11 then
    ml_let (ml_R m l0 40) fun a3255 =>
    if ml_in m a3255 20 l1 then
    ml_let (ml_R m l0 39) fun a3257 =>
    if ml_in m a3257 20 l1 then
    if l4 = (ml_I m a3257 l1.toNatClampNeg) then
    ml_let (ml_R m l0 40) fun a3259 =>
    if ml_in m a3259 20 l2 then
    fX11_addGap_64 (ml_I m a3259 l2.toNatClampNeg) (ml_I m a3255 l1.toNatClampNeg) l1 a3255 m
    else none
    else
    fX11_addGap_64 (0 : Int32) (ml_I m a3255 l1.toNatClampNeg) l1 a3255 m
    else none
    else none
    else none
theorem vX11_addGap_36 {E : ml_E} (hL : ml_eL E = 5) {rm : ml_M} (hr : ∀ (pc pc' : Nat) (lv : List (Nat × ml_X)), ml_d cX11_addGap pc .return_ 1 pc' → True → ml_V E "LostRoomModel" cX11_addGap 2 false rm pc lv []) : ∀ (l0 : Nat) (l1 : Int32) (l2 : Int32) (l4 : Int32) (m : ml_M), fX11_addGap_36 l0 l1 l2 l4 m = some rm → ml_V E "LostRoomModel" cX11_addGap 2 false m 36 [(0, ml_r l0), (1, ml_i l1), (2, ml_i l2), (4, ml_i l4)] [] := by
  intro l0 l1 l2 l4 m h
  unfold fX11_addGap_36 at h
  exact ml_aload_n dX11_addGap_36 0 rfl <| ml_ck_of h fun hc3254 h => ml_getR dX11_addGap_37 wb_430 hc3254 <| ml_lx (mk := ml_r) h fun a3255 h => ml_iload_n dX11_addGap_40 1 rfl <| ml_dup2 dX11_addGap_41 rfl rfl <| ml_ck_of h fun hi3256 h => ml_iald dX11_addGap_42 hi3256 <| ml_iload dX11_addGap_43 3 rfl <| ml_aload_n dX11_addGap_45 0 rfl <| ml_getR dX11_addGap_46 wb_431 hc3254 <| ml_lx (mk := ml_r) h fun a3257 h => ml_iload_n dX11_addGap_49 1 rfl <| ml_ck_of h fun hi3258 h => ml_iald dX11_addGap_50 hi3258 <| ml_icmp_ne dX11_addGap_51 h (fun _ h => ml_iconst dX11_addGap_63 kc_i0 <| ml_V.sub [] rfl (vX11_addGap_64 hL hr  _ _ _ _ _ h)) (fun _ h => ml_aload_n dX11_addGap_54 0 rfl <| ml_getR dX11_addGap_55 wb_430 hc3254 <| ml_lx (mk := ml_r) h fun a3259 h => ml_iload_n dX11_addGap_58 2 rfl <| ml_ck_of h fun hi3260 h => ml_iald dX11_addGap_59 hi3260 <| ml_goto dX11_addGap_60 <| ml_V.sub [] rfl (vX11_addGap_64 hL hr  _ _ _ _ _ h))
def fX11_addGap (l0 : Nat) (l1 : Int32) (l2 : Int32) (l3 : Int32) (m : ml_M) : Option ml_M :=
    if (ml_K m l0).1 = 11 then
    ml_let (ml_R m l0 39) fun a3262 =>
    if ml_in m a3262 20 l2 then
    ml_let ((ml_I m a3262 l2.toNatClampNeg) + l3) fun x3264 =>
    ml_let (ml_R m l0 39) fun a3265 =>
    if ml_in m a3265 20 l1 then
    if (ml_I m a3265 l1.toNatClampNeg) ≤ x3264 then
    fX11_addGap_36 l0 l1 l2 x3264 m
    else
    ml_let (ml_R m l0 39) fun a3267 =>
    if ml_in m a3267 20 l1 then
    ml_let (ml_sI m a3267 l1.toNatClampNeg x3264) fun m3269 =>
    ml_let (ml_R m3269 l0 40) fun a3271 =>
    if ml_in m3269 a3271 20 l1 then
    ml_let (ml_sI m3269 a3271 l1.toNatClampNeg (0 : Int32)) fun m3273 =>
    fX11_addGap_36 l0 l1 l2 x3264 m3273
    else none
    else none
    else none
    else none
    else none
theorem wX11_addGap_0 {E : ml_E} (hL : ml_eL E = 5) {rm : ml_M} (hr : ∀ (pc pc' : Nat) (lv : List (Nat × ml_X)), ml_d cX11_addGap pc .return_ 1 pc' → True → ml_V E "LostRoomModel" cX11_addGap 2 false rm pc lv []) : ∀ (l0 : Nat) (l1 : Int32) (l2 : Int32) (l3 : Int32) (m : ml_M), fX11_addGap l0 l1 l2 l3 m = some rm → ml_V E "LostRoomModel" cX11_addGap 2 false m 0 [(0, ml_r l0), (1, ml_i l1), (2, ml_i l2), (3, ml_i l3)] [] := by
  intro l0 l1 l2 l3 m h
  unfold fX11_addGap at h
  exact ml_aload_n dX11_addGap_0 0 rfl <| ml_ck_of h fun hc3261 h => ml_getR dX11_addGap_1 wb_431 hc3261 <| ml_lx (mk := ml_r) h fun a3262 h => ml_iload_n dX11_addGap_4 2 rfl <| ml_ck_of h fun hi3263 h => ml_iald dX11_addGap_5 hi3263 <| ml_iload_n dX11_addGap_6 3 rfl <| ml_iadd dX11_addGap_7 <| ml_lx (mk := ml_i) h fun x3264 h => ml_istore (lv' := [(4, ml_i x3264), (0, ml_r l0), (1, ml_i l1), (2, ml_i l2), (3, ml_i l3)]) dX11_addGap_8 (ml_hn hL rfl) rfl <| ml_iload dX11_addGap_10 0 rfl <| ml_aload_n dX11_addGap_12 1 rfl <| ml_getR dX11_addGap_13 wb_431 hc3261 <| ml_lx (mk := ml_r) h fun a3265 h => ml_iload_n dX11_addGap_16 2 rfl <| ml_ck_of h fun hi3266 h => ml_iald dX11_addGap_17 hi3266 <| ml_icmp_ge dX11_addGap_18 h (fun _ h => ml_V.sub [1, 2, 3, 0] rfl (vX11_addGap_36 hL hr  _ _ _ _ _ h)) (fun _ h => ml_aload_n dX11_addGap_21 1 rfl <| ml_getR dX11_addGap_22 wb_431 hc3261 <| ml_lx (mk := ml_r) h fun a3267 h => ml_iload_n dX11_addGap_25 2 rfl <| ml_iload dX11_addGap_26 0 rfl <| ml_ck_of h fun hi3268 h => ml_iast dX11_addGap_28 hi3268 <| ml_lt (m := m) rfl h fun m3269 em3270 h => ml_aload_n dX11_addGap_29 1 rfl <| ml_getR dX11_addGap_30 wb_430 (ml_kk em3270 hc3261) <| ml_lx (mk := ml_r) h fun a3271 h => ml_iload_n dX11_addGap_33 2 rfl <| ml_iconst dX11_addGap_34 kc_i0 <| ml_ck_of h fun hi3272 h => ml_iast dX11_addGap_35 hi3272 <| ml_lt (m := m3269) rfl h fun m3273 em3274 h => ml_V.sub [1, 2, 3, 0] rfl (vX11_addGap_36 hL hr  _ _ _ _ _ h))
theorem sX11_addGap {l0 : Nat} {l1 : Int32} {l2 : Int32} {l3 : Int32} {m : ml_M} {rm : ml_M} (h : fX11_addGap l0 l1 l2 l3 m = some rm) : ml_Sn yX11_addGap cX11_addGap 5 none 2 [ml_r l0, ml_i l1, ml_i l2, ml_i l3] m none rm :=
  ml_Sn_of (P := True) (ini := false) (by decide +kernel) (Nat.le_of_ble_eq_true rfl) (fun h => by cases h) (fun _ => ml_RkV) fun E hL hr => wX11_addGap_0 hL hr _ _ _ _ _ h
theorem dX11_layGaps_0 : ml_d cX11_layGaps 0 (.iconst 1) 1 1 := ⟨by decide +kernel, rfl⟩
theorem dX11_layGaps_1 : ml_d cX11_layGaps 1 (.aload_n 0) 1 2 := ⟨by decide +kernel, rfl⟩
theorem dX11_layGaps_2 : ml_d cX11_layGaps 2 (.getfield 187) 3 5 := ⟨by decide +kernel, rfl⟩
theorem dX11_layGaps_5 : ml_d cX11_layGaps 5 (.ishl) 1 6 := ⟨by decide +kernel, rfl⟩
theorem dX11_layGaps_6 : ml_d cX11_layGaps 6 (.iconst 1) 1 7 := ⟨by decide +kernel, rfl⟩
theorem dX11_layGaps_7 : ml_d cX11_layGaps 7 (.isub) 1 8 := ⟨by decide +kernel, rfl⟩
theorem dX11_layGaps_8 : ml_d cX11_layGaps 8 (.istore_n 1) 1 9 := ⟨by decide +kernel, rfl⟩
theorem dX11_layGaps_9 : ml_d cX11_layGaps 9 (.iload_n 1) 1 10 := ⟨by decide +kernel, rfl⟩
theorem dX11_layGaps_10 : ml_d cX11_layGaps 10 (.istore_n 2) 1 11 := ⟨by decide +kernel, rfl⟩
theorem dX11_layGaps_11 : ml_d cX11_layGaps 11 (.iload_n 2) 1 12 := ⟨by decide +kernel, rfl⟩
theorem dX11_layGaps_12 : ml_j cX11_layGaps 12 (.ifCond .le) 148 15 := ⟨136, by decide +kernel, by decide, rfl⟩
theorem dX11_layGaps_15 : ml_d cX11_layGaps 15 (.iconst 0) 1 16 := ⟨by decide +kernel, rfl⟩
theorem dX11_layGaps_16 : ml_d cX11_layGaps 16 (.istore_n 3) 1 17 := ⟨by decide +kernel, rfl⟩
theorem dX11_layGaps_17 : ml_d cX11_layGaps 17 (.iload_n 3) 1 18 := ⟨by decide +kernel, rfl⟩
theorem dX11_layGaps_18 : ml_d cX11_layGaps 18 (.aload_n 0) 1 19 := ⟨by decide +kernel, rfl⟩
theorem dX11_layGaps_19 : ml_d cX11_layGaps 19 (.getfield 187) 3 22 := ⟨by decide +kernel, rfl⟩
theorem dX11_layGaps_22 : ml_j cX11_layGaps 22 (.if_icmp .ge) 142 25 := ⟨120, by decide +kernel, by decide, rfl⟩
theorem dX11_layGaps_25 : ml_d cX11_layGaps 25 (.bipush 10) 2 27 := ⟨by decide +kernel, rfl⟩
theorem dX11_layGaps_27 : ml_d cX11_layGaps 27 (.iload_n 2) 1 28 := ⟨by decide +kernel, rfl⟩
theorem dX11_layGaps_28 : ml_d cX11_layGaps 28 (.imul) 1 29 := ⟨by decide +kernel, rfl⟩
theorem dX11_layGaps_29 : ml_d cX11_layGaps 29 (.iload_n 3) 1 30 := ⟨by decide +kernel, rfl⟩
theorem dX11_layGaps_30 : ml_d cX11_layGaps 30 (.iadd) 1 31 := ⟨by decide +kernel, rfl⟩
theorem dX11_layGaps_31 : ml_d cX11_layGaps 31 (.istore 4) 2 33 := ⟨by decide +kernel, rfl⟩
theorem dX11_layGaps_33 : ml_d cX11_layGaps 33 (.aload_n 0) 1 34 := ⟨by decide +kernel, rfl⟩
theorem dX11_layGaps_34 : ml_d cX11_layGaps 34 (.getfield 71) 3 37 := ⟨by decide +kernel, rfl⟩
theorem dX11_layGaps_37 : ml_d cX11_layGaps 37 (.iload 4) 2 39 := ⟨by decide +kernel, rfl⟩
theorem dX11_layGaps_39 : ml_d cX11_layGaps 39 (.iload_n 2) 1 40 := ⟨by decide +kernel, rfl⟩
theorem dX11_layGaps_40 : ml_d cX11_layGaps 40 (.iload_n 1) 1 41 := ⟨by decide +kernel, rfl⟩
theorem dX11_layGaps_41 : ml_j cX11_layGaps 41 (.if_icmp .ne) 48 44 := ⟨7, by decide +kernel, by decide, rfl⟩
theorem dX11_layGaps_44 : ml_d cX11_layGaps 44 (.iconst 0) 1 45 := ⟨by decide +kernel, rfl⟩
theorem dX11_layGaps_45 : ml_j cX11_layGaps 45 .goto 50 48 := ⟨5, by decide +kernel, by decide, rfl⟩
theorem dX11_layGaps_48 : ml_d cX11_layGaps 48 (.bipush 100) 2 50 := ⟨by decide +kernel, rfl⟩
theorem dX11_layGaps_50 : ml_d cX11_layGaps 50 (.iastore) 1 51 := ⟨by decide +kernel, rfl⟩
theorem dX11_layGaps_51 : ml_d cX11_layGaps 51 (.aload_n 0) 1 52 := ⟨by decide +kernel, rfl⟩
theorem dX11_layGaps_52 : ml_d cX11_layGaps 52 (.getfield 74) 3 55 := ⟨by decide +kernel, rfl⟩
theorem dX11_layGaps_55 : ml_d cX11_layGaps 55 (.iload 4) 2 57 := ⟨by decide +kernel, rfl⟩
theorem dX11_layGaps_57 : ml_d cX11_layGaps 57 (.iload_n 2) 1 58 := ⟨by decide +kernel, rfl⟩
theorem dX11_layGaps_58 : ml_d cX11_layGaps 58 (.iload_n 1) 1 59 := ⟨by decide +kernel, rfl⟩
theorem dX11_layGaps_59 : ml_j cX11_layGaps 59 (.if_icmp .ne) 66 62 := ⟨7, by decide +kernel, by decide, rfl⟩
theorem dX11_layGaps_62 : ml_d cX11_layGaps 62 (.iconst 1) 1 63 := ⟨by decide +kernel, rfl⟩
theorem dX11_layGaps_63 : ml_j cX11_layGaps 63 .goto 67 66 := ⟨4, by decide +kernel, by decide, rfl⟩
theorem dX11_layGaps_66 : ml_d cX11_layGaps 66 (.iconst 0) 1 67 := ⟨by decide +kernel, rfl⟩
theorem dX11_layGaps_67 : ml_d cX11_layGaps 67 (.iastore) 1 68 := ⟨by decide +kernel, rfl⟩
theorem dX11_layGaps_68 : ml_d cX11_layGaps 68 (.iconst 0) 1 69 := ⟨by decide +kernel, rfl⟩
theorem dX11_layGaps_69 : ml_d cX11_layGaps 69 (.istore 5) 2 71 := ⟨by decide +kernel, rfl⟩
theorem dX11_layGaps_71 : ml_d cX11_layGaps 71 (.iload 5) 2 73 := ⟨by decide +kernel, rfl⟩
theorem dX11_layGaps_73 : ml_d cX11_layGaps 73 (.aload_n 0) 1 74 := ⟨by decide +kernel, rfl⟩
theorem dX11_layGaps_74 : ml_d cX11_layGaps 74 (.getfield 187) 3 77 := ⟨by decide +kernel, rfl⟩
theorem dX11_layGaps_77 : ml_j cX11_layGaps 77 (.if_icmp .ge) 136 80 := ⟨59, by decide +kernel, by decide, rfl⟩
theorem dX11_layGaps_80 : ml_d cX11_layGaps 80 (.iload_n 2) 1 81 := ⟨by decide +kernel, rfl⟩
theorem dX11_layGaps_81 : ml_d cX11_layGaps 81 (.iload_n 3) 1 82 := ⟨by decide +kernel, rfl⟩
theorem dX11_layGaps_82 : ml_d cX11_layGaps 82 (.invokestatic 260) 3 85 := ⟨by decide +kernel, rfl⟩
theorem dX11_layGaps_85 : ml_j cX11_layGaps 85 (.ifCond .eq) 136 88 := ⟨51, by decide +kernel, by decide, rfl⟩
theorem dX11_layGaps_88 : ml_d cX11_layGaps 88 (.iload_n 2) 1 89 := ⟨by decide +kernel, rfl⟩
theorem dX11_layGaps_89 : ml_d cX11_layGaps 89 (.iload 5) 2 91 := ⟨by decide +kernel, rfl⟩
theorem dX11_layGaps_91 : ml_d cX11_layGaps 91 (.invokestatic 260) 3 94 := ⟨by decide +kernel, rfl⟩
theorem dX11_layGaps_94 : ml_j cX11_layGaps 94 (.ifCond .ne) 130 97 := ⟨36, by decide +kernel, by decide, rfl⟩
theorem dX11_layGaps_97 : ml_d cX11_layGaps 97 (.aload_n 0) 1 98 := ⟨by decide +kernel, rfl⟩
theorem dX11_layGaps_98 : ml_d cX11_layGaps 98 (.iload 4) 2 100 := ⟨by decide +kernel, rfl⟩
theorem dX11_layGaps_100 : ml_d cX11_layGaps 100 (.bipush 10) 2 102 := ⟨by decide +kernel, rfl⟩
theorem dX11_layGaps_102 : ml_d cX11_layGaps 102 (.iload_n 2) 1 103 := ⟨by decide +kernel, rfl⟩
theorem dX11_layGaps_103 : ml_d cX11_layGaps 103 (.iconst 1) 1 104 := ⟨by decide +kernel, rfl⟩
theorem dX11_layGaps_104 : ml_d cX11_layGaps 104 (.iload 5) 2 106 := ⟨by decide +kernel, rfl⟩
theorem dX11_layGaps_106 : ml_d cX11_layGaps 106 (.ishl) 1 107 := ⟨by decide +kernel, rfl⟩
theorem dX11_layGaps_107 : ml_d cX11_layGaps 107 (.ior) 1 108 := ⟨by decide +kernel, rfl⟩
theorem dX11_layGaps_108 : ml_d cX11_layGaps 108 (.imul) 1 109 := ⟨by decide +kernel, rfl⟩
theorem dX11_layGaps_109 : ml_d cX11_layGaps 109 (.iload 5) 2 111 := ⟨by decide +kernel, rfl⟩
theorem dX11_layGaps_111 : ml_d cX11_layGaps 111 (.iadd) 1 112 := ⟨by decide +kernel, rfl⟩
theorem dX11_layGaps_112 : ml_d cX11_layGaps 112 (.aload_n 0) 1 113 := ⟨by decide +kernel, rfl⟩
theorem dX11_layGaps_113 : ml_d cX11_layGaps 113 (.iload_n 3) 1 114 := ⟨by decide +kernel, rfl⟩
theorem dX11_layGaps_114 : ml_d cX11_layGaps 114 (.iload 5) 2 116 := ⟨by decide +kernel, rfl⟩
theorem dX11_layGaps_116 : ml_d cX11_layGaps 116 (.invokevirtual 325) 3 119 := ⟨by decide +kernel, rfl⟩
theorem dX11_layGaps_119 : ml_j cX11_layGaps 119 (.ifCond .eq) 126 122 := ⟨7, by decide +kernel, by decide, rfl⟩
theorem dX11_layGaps_122 : ml_d cX11_layGaps 122 (.iconst 0) 1 123 := ⟨by decide +kernel, rfl⟩
theorem dX11_layGaps_123 : ml_j cX11_layGaps 123 .goto 127 126 := ⟨4, by decide +kernel, by decide, rfl⟩
theorem dX11_layGaps_126 : ml_d cX11_layGaps 126 (.iconst 1) 1 127 := ⟨by decide +kernel, rfl⟩
theorem dX11_layGaps_127 : ml_d cX11_layGaps 127 (.invokevirtual 328) 3 130 := ⟨by decide +kernel, rfl⟩
theorem dX11_layGaps_130 : ml_d cX11_layGaps 130 (.iinc 5 1) 3 133 := ⟨by decide +kernel, rfl⟩
theorem dX11_layGaps_133 : ml_j cX11_layGaps 133 .goto 71 136 := ⟨(-62), by decide +kernel, by decide, rfl⟩
theorem dX11_layGaps_136 : ml_d cX11_layGaps 136 (.iinc 3 1) 3 139 := ⟨by decide +kernel, rfl⟩
theorem dX11_layGaps_139 : ml_j cX11_layGaps 139 .goto 17 142 := ⟨(-122), by decide +kernel, by decide, rfl⟩
theorem dX11_layGaps_142 : ml_d cX11_layGaps 142 (.iinc 2 (-1)) 3 145 := ⟨by decide +kernel, rfl⟩
theorem dX11_layGaps_145 : ml_j cX11_layGaps 145 .goto 11 148 := ⟨(-134), by decide +kernel, by decide, rfl⟩
theorem dX11_layGaps_148 : ml_d cX11_layGaps 148 (.return_) 1 149 := ⟨by decide +kernel, rfl⟩
def fX11_layGaps_130 (k11 : Nat → Int32 → Int32 → ml_M → Option ml_M) (k17 : Nat → Int32 → Int32 → Int32 → ml_M → Option ml_M) (k71 : Nat → Int32 → Int32 → Int32 → Int32 → Int32 → ml_M → Option ml_M) (l0 : Nat) (l1 : Int32) (l2 : Int32) (l3 : Int32) (l4 : Int32) (l5 : Int32) (m : ml_M) : Option ml_M :=
    k71 l0 l1 l2 l3 l4 (l5 + (1 : Int32)) m
theorem vX11_layGaps_130 {E : ml_E} (hL : ml_eL E = 6) {rm : ml_M} (hr : ∀ (pc pc' : Nat) (lv : List (Nat × ml_X)), ml_d cX11_layGaps pc .return_ 1 pc' → True → ml_V E "LostRoomModel" cX11_layGaps 3 false rm pc lv []) {k11 : Nat → Int32 → Int32 → ml_M → Option ml_M} (hk11 : ∀ (l0 : Nat) (l1 : Int32) (l2 : Int32) (m : ml_M), k11 l0 l1 l2 m = some rm → ml_V E "LostRoomModel" cX11_layGaps 3 false m 11 [(0, ml_r l0), (1, ml_i l1), (2, ml_i l2)] []) {k17 : Nat → Int32 → Int32 → Int32 → ml_M → Option ml_M} (hk17 : ∀ (l0 : Nat) (l1 : Int32) (l2 : Int32) (l3 : Int32) (m : ml_M), k17 l0 l1 l2 l3 m = some rm → ml_V E "LostRoomModel" cX11_layGaps 3 false m 17 [(0, ml_r l0), (1, ml_i l1), (2, ml_i l2), (3, ml_i l3)] []) {k71 : Nat → Int32 → Int32 → Int32 → Int32 → Int32 → ml_M → Option ml_M} (hk71 : ∀ (l0 : Nat) (l1 : Int32) (l2 : Int32) (l3 : Int32) (l4 : Int32) (l5 : Int32) (m : ml_M), k71 l0 l1 l2 l3 l4 l5 m = some rm → ml_V E "LostRoomModel" cX11_layGaps 3 false m 71 [(0, ml_r l0), (1, ml_i l1), (2, ml_i l2), (3, ml_i l3), (4, ml_i l4), (5, ml_i l5)] []) : ∀ (l0 : Nat) (l1 : Int32) (l2 : Int32) (l3 : Int32) (l4 : Int32) (l5 : Int32) (m : ml_M), fX11_layGaps_130 k11 k17 k71 l0 l1 l2 l3 l4 l5 m = some rm → ml_V E "LostRoomModel" cX11_layGaps 3 false m 130 [(0, ml_r l0), (1, ml_i l1), (2, ml_i l2), (3, ml_i l3), (4, ml_i l4), (5, ml_i l5)] [] := by
  intro l0 l1 l2 l3 l4 l5 m h
  unfold fX11_layGaps_130 at h
  exact ml_iinc (lv' := [(5, ml_i (l5 + (1 : Int32))), (0, ml_r l0), (1, ml_i l1), (2, ml_i l2), (3, ml_i l3), (4, ml_i l4)]) dX11_layGaps_130 5 rfl (congrArg (l5 + ·) kc_i1) (ml_hn hL rfl) rfl <| ml_goto dX11_layGaps_133 <| ml_V.sub [1, 2, 3, 4, 5, 0] rfl (hk71 _ _ _ _ _ _ _ h)
def fX11_layGaps_127 (k11 : Nat → Int32 → Int32 → ml_M → Option ml_M) (k17 : Nat → Int32 → Int32 → Int32 → ml_M → Option ml_M) (k71 : Nat → Int32 → Int32 → Int32 → Int32 → Int32 → ml_M → Option ml_M) (l0 : Nat) (l1 : Int32) (l2 : Int32) (l3 : Int32) (l4 : Int32) (l5 : Int32) (t0 : Int32) (t1 : Int32) (t2 : Int32) (t3 : Nat) (m : ml_M) : Option ml_M :=
    if (ml_K m t3).1 = 11 then
    ml_b1 (fX11_addGap t3 t2 t1 t0 m) fun m3277 =>
    fX11_layGaps_130 k11 k17 k71 l0 l1 l2 l3 l4 l5 m3277
    else none
theorem vX11_layGaps_127 {E : ml_E} (hL : ml_eL E = 6) {rm : ml_M} (hr : ∀ (pc pc' : Nat) (lv : List (Nat × ml_X)), ml_d cX11_layGaps pc .return_ 1 pc' → True → ml_V E "LostRoomModel" cX11_layGaps 3 false rm pc lv []) {k11 : Nat → Int32 → Int32 → ml_M → Option ml_M} (hk11 : ∀ (l0 : Nat) (l1 : Int32) (l2 : Int32) (m : ml_M), k11 l0 l1 l2 m = some rm → ml_V E "LostRoomModel" cX11_layGaps 3 false m 11 [(0, ml_r l0), (1, ml_i l1), (2, ml_i l2)] []) {k17 : Nat → Int32 → Int32 → Int32 → ml_M → Option ml_M} (hk17 : ∀ (l0 : Nat) (l1 : Int32) (l2 : Int32) (l3 : Int32) (m : ml_M), k17 l0 l1 l2 l3 m = some rm → ml_V E "LostRoomModel" cX11_layGaps 3 false m 17 [(0, ml_r l0), (1, ml_i l1), (2, ml_i l2), (3, ml_i l3)] []) {k71 : Nat → Int32 → Int32 → Int32 → Int32 → Int32 → ml_M → Option ml_M} (hk71 : ∀ (l0 : Nat) (l1 : Int32) (l2 : Int32) (l3 : Int32) (l4 : Int32) (l5 : Int32) (m : ml_M), k71 l0 l1 l2 l3 l4 l5 m = some rm → ml_V E "LostRoomModel" cX11_layGaps 3 false m 71 [(0, ml_r l0), (1, ml_i l1), (2, ml_i l2), (3, ml_i l3), (4, ml_i l4), (5, ml_i l5)] []) : ∀ (l0 : Nat) (l1 : Int32) (l2 : Int32) (l3 : Int32) (l4 : Int32) (l5 : Int32) (t0 : Int32) (t1 : Int32) (t2 : Int32) (t3 : Nat) (m : ml_M), fX11_layGaps_127 k11 k17 k71 l0 l1 l2 l3 l4 l5 t0 t1 t2 t3 m = some rm → ml_V E "LostRoomModel" cX11_layGaps 3 false m 127 [(0, ml_r l0), (1, ml_i l1), (2, ml_i l2), (3, ml_i l3), (4, ml_i l4), (5, ml_i l5)] [ml_i t0, ml_i t1, ml_i t2, ml_r t3] := by
  intro l0 l1 l2 l3 l4 l5 t0 t1 t2 t3 m h
  unfold fX11_layGaps_127 at h
  exact ml_ck_of h fun hc3276 h => ml_b1_of h fun m3277 hv3275 h => ml_callV dX11_layGaps_127 wm_714 wb_432 hc3276 (sX11_addGap hv3275) rfl (Nat.le_of_ble_eq_true rfl) (Nat.le_of_ble_eq_true rfl) rfl <| ml_V.sub [0, 1, 2, 3, 4, 5] rfl (vX11_layGaps_130 hL hr hk11 hk17 hk71 _ _ _ _ _ _ _ h)
def fX11_layGaps_136 (k11 : Nat → Int32 → Int32 → ml_M → Option ml_M) (k17 : Nat → Int32 → Int32 → Int32 → ml_M → Option ml_M) (l0 : Nat) (l1 : Int32) (l2 : Int32) (l3 : Int32) (m : ml_M) : Option ml_M :=
    k17 l0 l1 l2 (l3 + (1 : Int32)) m
theorem vX11_layGaps_136 {E : ml_E} (hL : ml_eL E = 6) {rm : ml_M} (hr : ∀ (pc pc' : Nat) (lv : List (Nat × ml_X)), ml_d cX11_layGaps pc .return_ 1 pc' → True → ml_V E "LostRoomModel" cX11_layGaps 3 false rm pc lv []) {k11 : Nat → Int32 → Int32 → ml_M → Option ml_M} (hk11 : ∀ (l0 : Nat) (l1 : Int32) (l2 : Int32) (m : ml_M), k11 l0 l1 l2 m = some rm → ml_V E "LostRoomModel" cX11_layGaps 3 false m 11 [(0, ml_r l0), (1, ml_i l1), (2, ml_i l2)] []) {k17 : Nat → Int32 → Int32 → Int32 → ml_M → Option ml_M} (hk17 : ∀ (l0 : Nat) (l1 : Int32) (l2 : Int32) (l3 : Int32) (m : ml_M), k17 l0 l1 l2 l3 m = some rm → ml_V E "LostRoomModel" cX11_layGaps 3 false m 17 [(0, ml_r l0), (1, ml_i l1), (2, ml_i l2), (3, ml_i l3)] []) : ∀ (l0 : Nat) (l1 : Int32) (l2 : Int32) (l3 : Int32) (m : ml_M), fX11_layGaps_136 k11 k17 l0 l1 l2 l3 m = some rm → ml_V E "LostRoomModel" cX11_layGaps 3 false m 136 [(0, ml_r l0), (1, ml_i l1), (2, ml_i l2), (3, ml_i l3)] [] := by
  intro l0 l1 l2 l3 m h
  unfold fX11_layGaps_136 at h
  exact ml_iinc (lv' := [(3, ml_i (l3 + (1 : Int32))), (0, ml_r l0), (1, ml_i l1), (2, ml_i l2)]) dX11_layGaps_136 3 rfl (congrArg (l3 + ·) kc_i1) (ml_hn hL rfl) rfl <| ml_goto dX11_layGaps_139 <| ml_V.sub [1, 2, 3, 0] rfl (hk17 _ _ _ _ _ h)
def fX11_layGaps_71 (k11 : Nat → Int32 → Int32 → ml_M → Option ml_M) (k17 : Nat → Int32 → Int32 → Int32 → ml_M → Option ml_M) : Nat → Nat → Int32 → Int32 → Int32 → Int32 → Int32 → ml_M → Option ml_M
  | 0, _, _, _, _, _, _, _ => none
  | fu + 1, l0, l1, l2, l3, l4, l5, m =>
    if (ml_K m l0).1 = 11 then
    if (ml_I m l0 37) ≤ l5 then
    fX11_layGaps_136 k11 k17 l0 l1 l2 l3 m
    else
    ml_b1 (fX11_has l2 l3 m) fun r3280 =>
    if r3280 = 0 then
    fX11_layGaps_136 k11 k17 l0 l1 l2 l3 m
    else
    ml_b1 (fX11_has l2 l5 m) fun r3282 =>
    if r3282 = 0 then
    ml_b1 (fX11_doesJoin l0 l3 l5 m) fun r3284 =>
    if r3284 = 0 then
    fX11_layGaps_127 k11 k17 (fX11_layGaps_71 k11 k17 fu) l0 l1 l2 l3 l4 l5 (1 : Int32) (((10 : Int32) * (l2 ||| ((1 : Int32) <<< (l5 &&& 31)))) + l5) l4 l0 m
    else
    fX11_layGaps_127 k11 k17 (fX11_layGaps_71 k11 k17 fu) l0 l1 l2 l3 l4 l5 (0 : Int32) (((10 : Int32) * (l2 ||| ((1 : Int32) <<< (l5 &&& 31)))) + l5) l4 l0 m
    else
    fX11_layGaps_130 k11 k17 (fX11_layGaps_71 k11 k17 fu) l0 l1 l2 l3 l4 l5 m
    else none
theorem vX11_layGaps_71 {E : ml_E} (hL : ml_eL E = 6) {rm : ml_M} (hr : ∀ (pc pc' : Nat) (lv : List (Nat × ml_X)), ml_d cX11_layGaps pc .return_ 1 pc' → True → ml_V E "LostRoomModel" cX11_layGaps 3 false rm pc lv []) {k11 : Nat → Int32 → Int32 → ml_M → Option ml_M} (hk11 : ∀ (l0 : Nat) (l1 : Int32) (l2 : Int32) (m : ml_M), k11 l0 l1 l2 m = some rm → ml_V E "LostRoomModel" cX11_layGaps 3 false m 11 [(0, ml_r l0), (1, ml_i l1), (2, ml_i l2)] []) {k17 : Nat → Int32 → Int32 → Int32 → ml_M → Option ml_M} (hk17 : ∀ (l0 : Nat) (l1 : Int32) (l2 : Int32) (l3 : Int32) (m : ml_M), k17 l0 l1 l2 l3 m = some rm → ml_V E "LostRoomModel" cX11_layGaps 3 false m 17 [(0, ml_r l0), (1, ml_i l1), (2, ml_i l2), (3, ml_i l3)] []) : ∀ (fu : Nat) (l0 : Nat) (l1 : Int32) (l2 : Int32) (l3 : Int32) (l4 : Int32) (l5 : Int32) (m : ml_M), fX11_layGaps_71 k11 k17 fu l0 l1 l2 l3 l4 l5 m = some rm → ml_V E "LostRoomModel" cX11_layGaps 3 false m 71 [(0, ml_r l0), (1, ml_i l1), (2, ml_i l2), (3, ml_i l3), (4, ml_i l4), (5, ml_i l5)] [] := by
  intro fu
  induction fu with
  | zero => intro l0 l1 l2 l3 l4 l5 m h; exact ml_none h
  | succ fu ih =>
    intro l0 l1 l2 l3 l4 l5 m h
    have hk71 := ih
    unfold fX11_layGaps_71 at h
    exact ml_iload dX11_layGaps_71 5 rfl <| ml_aload_n dX11_layGaps_73 0 rfl <| ml_ck_of h fun hc3278 h => ml_getI dX11_layGaps_74 wb_404 hc3278 <| ml_icmp_ge dX11_layGaps_77 h (fun _ h => ml_V.sub [0, 1, 2, 3] rfl (vX11_layGaps_136 hL hr hk11 hk17 _ _ _ _ _ h)) (fun _ h => ml_iload_n dX11_layGaps_80 2 rfl <| ml_iload_n dX11_layGaps_81 3 rfl <| ml_b1_of h fun r3280 hv3279 h => ml_callS dX11_layGaps_82 wm_492 wb_300 (sX11_has hv3279) rfl (Nat.le_of_ble_eq_true rfl) (Nat.le_of_ble_eq_true rfl) rfl <| ml_if_eq dX11_layGaps_85 h (fun _ h => ml_V.sub [0, 1, 2, 3] rfl (vX11_layGaps_136 hL hr hk11 hk17 _ _ _ _ _ h)) (fun _ h => ml_iload_n dX11_layGaps_88 2 rfl <| ml_iload dX11_layGaps_89 5 rfl <| ml_b1_of h fun r3282 hv3281 h => ml_callS dX11_layGaps_91 wm_492 wb_300 (sX11_has hv3281) rfl (Nat.le_of_ble_eq_true rfl) (Nat.le_of_ble_eq_true rfl) rfl <| ml_if_ne dX11_layGaps_94 h (fun _ h => ml_V.sub [0, 1, 2, 3, 4, 5] rfl (vX11_layGaps_130 hL hr hk11 hk17 hk71 _ _ _ _ _ _ _ h)) (fun _ h => ml_aload_n dX11_layGaps_97 0 rfl <| ml_iload dX11_layGaps_98 4 rfl <| ml_bipush dX11_layGaps_100 kc_b10 <| ml_iload_n dX11_layGaps_102 2 rfl <| ml_iconst dX11_layGaps_103 kc_i1 <| ml_iload dX11_layGaps_104 5 rfl <| ml_ishl dX11_layGaps_106 <| ml_ior dX11_layGaps_107 <| ml_imul dX11_layGaps_108 <| ml_iload dX11_layGaps_109 5 rfl <| ml_iadd dX11_layGaps_111 <| ml_aload_n dX11_layGaps_112 0 rfl <| ml_iload_n dX11_layGaps_113 3 rfl <| ml_iload dX11_layGaps_114 5 rfl <| ml_b1_of h fun r3284 hv3283 h => ml_callV dX11_layGaps_116 wm_681 wb_411 hc3278 (sX11_doesJoin hv3283) rfl (Nat.le_of_ble_eq_true rfl) (Nat.le_of_ble_eq_true rfl) rfl <| ml_if_eq dX11_layGaps_119 h (fun _ h => ml_iconst dX11_layGaps_126 kc_i1 <| ml_V.sub [0, 1, 2, 3, 4, 5] rfl (vX11_layGaps_127 hL hr hk11 hk17 hk71 _ _ _ _ _ _ _ _ _ _ _ h)) (fun _ h => ml_iconst dX11_layGaps_122 kc_i0 <| ml_goto dX11_layGaps_123 <| ml_V.sub [0, 1, 2, 3, 4, 5] rfl (vX11_layGaps_127 hL hr hk11 hk17 hk71 _ _ _ _ _ _ _ _ _ _ _ h)))))
def fX11_layGaps_67 (k11 : Nat → Int32 → Int32 → ml_M → Option ml_M) (k17 : Nat → Int32 → Int32 → Int32 → ml_M → Option ml_M) (l0 : Nat) (l1 : Int32) (l2 : Int32) (l3 : Int32) (l4 : Int32) (t0 : Int32) (t1 : Int32) (t2 : Nat) (m : ml_M) : Option ml_M :=
    if ml_in m t2 20 t1 then
    ml_let (ml_sI m t2 t1.toNatClampNeg t0) fun m3286 =>
    fX11_layGaps_71 k11 k17 ml_fu l0 l1 l2 l3 l4 (0 : Int32) m3286
    else none
theorem vX11_layGaps_67 {E : ml_E} (hL : ml_eL E = 6) {rm : ml_M} (hr : ∀ (pc pc' : Nat) (lv : List (Nat × ml_X)), ml_d cX11_layGaps pc .return_ 1 pc' → True → ml_V E "LostRoomModel" cX11_layGaps 3 false rm pc lv []) {k11 : Nat → Int32 → Int32 → ml_M → Option ml_M} (hk11 : ∀ (l0 : Nat) (l1 : Int32) (l2 : Int32) (m : ml_M), k11 l0 l1 l2 m = some rm → ml_V E "LostRoomModel" cX11_layGaps 3 false m 11 [(0, ml_r l0), (1, ml_i l1), (2, ml_i l2)] []) {k17 : Nat → Int32 → Int32 → Int32 → ml_M → Option ml_M} (hk17 : ∀ (l0 : Nat) (l1 : Int32) (l2 : Int32) (l3 : Int32) (m : ml_M), k17 l0 l1 l2 l3 m = some rm → ml_V E "LostRoomModel" cX11_layGaps 3 false m 17 [(0, ml_r l0), (1, ml_i l1), (2, ml_i l2), (3, ml_i l3)] []) : ∀ (l0 : Nat) (l1 : Int32) (l2 : Int32) (l3 : Int32) (l4 : Int32) (t0 : Int32) (t1 : Int32) (t2 : Nat) (m : ml_M), fX11_layGaps_67 k11 k17 l0 l1 l2 l3 l4 t0 t1 t2 m = some rm → ml_V E "LostRoomModel" cX11_layGaps 3 false m 67 [(0, ml_r l0), (1, ml_i l1), (2, ml_i l2), (3, ml_i l3), (4, ml_i l4)] [ml_i t0, ml_i t1, ml_r t2] := by
  intro l0 l1 l2 l3 l4 t0 t1 t2 m h
  unfold fX11_layGaps_67 at h
  exact ml_ck_of h fun hi3285 h => ml_iast dX11_layGaps_67 hi3285 <| ml_lt (m := m) rfl h fun m3286 em3287 h => ml_iconst dX11_layGaps_68 kc_i0 <| ml_istore (lv' := [(5, ml_i (0 : Int32)), (0, ml_r l0), (1, ml_i l1), (2, ml_i l2), (3, ml_i l3), (4, ml_i l4)]) dX11_layGaps_69 (ml_hn hL rfl) rfl <| ml_V.sub [1, 2, 3, 4, 5, 0] rfl (vX11_layGaps_71 hL hr hk11 hk17 ml_fu _ _ _ _ _ _ _ h)
def fX11_layGaps_50 (k11 : Nat → Int32 → Int32 → ml_M → Option ml_M) (k17 : Nat → Int32 → Int32 → Int32 → ml_M → Option ml_M) (l0 : Nat) (l1 : Int32) (l2 : Int32) (l3 : Int32) (l4 : Int32) (t0 : Int32) (t1 : Int32) (t2 : Nat) (m : ml_M) : Option ml_M :=
    if ml_in m t2 20 t1 then
    ml_let (ml_sI m t2 t1.toNatClampNeg t0) fun m3289 =>
    if (ml_K m3289 l0).1 = 11 then
    ml_let (ml_R m3289 l0 40) fun a3292 =>
    if l2 = l1 then
    fX11_layGaps_67 k11 k17 l0 l1 l2 l3 l4 (1 : Int32) l4 a3292 m3289
    else
    fX11_layGaps_67 k11 k17 l0 l1 l2 l3 l4 (0 : Int32) l4 a3292 m3289
    else none
    else none
theorem vX11_layGaps_50 {E : ml_E} (hL : ml_eL E = 6) {rm : ml_M} (hr : ∀ (pc pc' : Nat) (lv : List (Nat × ml_X)), ml_d cX11_layGaps pc .return_ 1 pc' → True → ml_V E "LostRoomModel" cX11_layGaps 3 false rm pc lv []) {k11 : Nat → Int32 → Int32 → ml_M → Option ml_M} (hk11 : ∀ (l0 : Nat) (l1 : Int32) (l2 : Int32) (m : ml_M), k11 l0 l1 l2 m = some rm → ml_V E "LostRoomModel" cX11_layGaps 3 false m 11 [(0, ml_r l0), (1, ml_i l1), (2, ml_i l2)] []) {k17 : Nat → Int32 → Int32 → Int32 → ml_M → Option ml_M} (hk17 : ∀ (l0 : Nat) (l1 : Int32) (l2 : Int32) (l3 : Int32) (m : ml_M), k17 l0 l1 l2 l3 m = some rm → ml_V E "LostRoomModel" cX11_layGaps 3 false m 17 [(0, ml_r l0), (1, ml_i l1), (2, ml_i l2), (3, ml_i l3)] []) : ∀ (l0 : Nat) (l1 : Int32) (l2 : Int32) (l3 : Int32) (l4 : Int32) (t0 : Int32) (t1 : Int32) (t2 : Nat) (m : ml_M), fX11_layGaps_50 k11 k17 l0 l1 l2 l3 l4 t0 t1 t2 m = some rm → ml_V E "LostRoomModel" cX11_layGaps 3 false m 50 [(0, ml_r l0), (1, ml_i l1), (2, ml_i l2), (3, ml_i l3), (4, ml_i l4)] [ml_i t0, ml_i t1, ml_r t2] := by
  intro l0 l1 l2 l3 l4 t0 t1 t2 m h
  unfold fX11_layGaps_50 at h
  exact ml_ck_of h fun hi3288 h => ml_iast dX11_layGaps_50 hi3288 <| ml_lt (m := m) rfl h fun m3289 em3290 h => ml_aload_n dX11_layGaps_51 0 rfl <| ml_ck_of h fun hc3291 h => ml_getR dX11_layGaps_52 wb_430 hc3291 <| ml_lx (mk := ml_r) h fun a3292 h => ml_iload dX11_layGaps_55 4 rfl <| ml_iload_n dX11_layGaps_57 2 rfl <| ml_iload_n dX11_layGaps_58 1 rfl <| ml_icmp_ne dX11_layGaps_59 h (fun _ h => ml_iconst dX11_layGaps_66 kc_i0 <| ml_V.sub [0, 1, 2, 3, 4] rfl (vX11_layGaps_67 hL hr hk11 hk17 _ _ _ _ _ _ _ _ _ h)) (fun _ h => ml_iconst dX11_layGaps_62 kc_i1 <| ml_goto dX11_layGaps_63 <| ml_V.sub [0, 1, 2, 3, 4] rfl (vX11_layGaps_67 hL hr hk11 hk17 _ _ _ _ _ _ _ _ _ h))
def fX11_layGaps_142 (k11 : Nat → Int32 → Int32 → ml_M → Option ml_M) (l0 : Nat) (l1 : Int32) (l2 : Int32) (m : ml_M) : Option ml_M :=
    k11 l0 l1 (l2 + (-1 : Int32)) m
theorem vX11_layGaps_142 {E : ml_E} (hL : ml_eL E = 6) {rm : ml_M} (hr : ∀ (pc pc' : Nat) (lv : List (Nat × ml_X)), ml_d cX11_layGaps pc .return_ 1 pc' → True → ml_V E "LostRoomModel" cX11_layGaps 3 false rm pc lv []) {k11 : Nat → Int32 → Int32 → ml_M → Option ml_M} (hk11 : ∀ (l0 : Nat) (l1 : Int32) (l2 : Int32) (m : ml_M), k11 l0 l1 l2 m = some rm → ml_V E "LostRoomModel" cX11_layGaps 3 false m 11 [(0, ml_r l0), (1, ml_i l1), (2, ml_i l2)] []) : ∀ (l0 : Nat) (l1 : Int32) (l2 : Int32) (m : ml_M), fX11_layGaps_142 k11 l0 l1 l2 m = some rm → ml_V E "LostRoomModel" cX11_layGaps 3 false m 142 [(0, ml_r l0), (1, ml_i l1), (2, ml_i l2)] [] := by
  intro l0 l1 l2 m h
  unfold fX11_layGaps_142 at h
  exact ml_iinc (lv' := [(2, ml_i (l2 + (-1 : Int32))), (0, ml_r l0), (1, ml_i l1)]) dX11_layGaps_142 2 rfl (congrArg (l2 + ·) kc_im1) (ml_hn hL rfl) rfl <| ml_goto dX11_layGaps_145 <| ml_V.sub [1, 2, 0] rfl (hk11 _ _ _ _ h)
def fX11_layGaps_17 (k11 : Nat → Int32 → Int32 → ml_M → Option ml_M) : Nat → Nat → Int32 → Int32 → Int32 → ml_M → Option ml_M
  | 0, _, _, _, _, _ => none
  | fu + 1, l0, l1, l2, l3, m =>
    if (ml_K m l0).1 = 11 then
    if (ml_I m l0 37) ≤ l3 then
    fX11_layGaps_142 k11 l0 l1 l2 m
    else
    ml_let (((10 : Int32) * l2) + l3) fun x3294 =>
    ml_let (ml_R m l0 39) fun a3295 =>
    if l2 = l1 then
    fX11_layGaps_50 k11 (fX11_layGaps_17 k11 fu) l0 l1 l2 l3 x3294 (0 : Int32) x3294 a3295 m
    else
    fX11_layGaps_50 k11 (fX11_layGaps_17 k11 fu) l0 l1 l2 l3 x3294 (100 : Int32) x3294 a3295 m
    else none
theorem vX11_layGaps_17 {E : ml_E} (hL : ml_eL E = 6) {rm : ml_M} (hr : ∀ (pc pc' : Nat) (lv : List (Nat × ml_X)), ml_d cX11_layGaps pc .return_ 1 pc' → True → ml_V E "LostRoomModel" cX11_layGaps 3 false rm pc lv []) {k11 : Nat → Int32 → Int32 → ml_M → Option ml_M} (hk11 : ∀ (l0 : Nat) (l1 : Int32) (l2 : Int32) (m : ml_M), k11 l0 l1 l2 m = some rm → ml_V E "LostRoomModel" cX11_layGaps 3 false m 11 [(0, ml_r l0), (1, ml_i l1), (2, ml_i l2)] []) : ∀ (fu : Nat) (l0 : Nat) (l1 : Int32) (l2 : Int32) (l3 : Int32) (m : ml_M), fX11_layGaps_17 k11 fu l0 l1 l2 l3 m = some rm → ml_V E "LostRoomModel" cX11_layGaps 3 false m 17 [(0, ml_r l0), (1, ml_i l1), (2, ml_i l2), (3, ml_i l3)] [] := by
  intro fu
  induction fu with
  | zero => intro l0 l1 l2 l3 m h; exact ml_none h
  | succ fu ih =>
    intro l0 l1 l2 l3 m h
    have hk17 := ih
    unfold fX11_layGaps_17 at h
    exact ml_iload_n dX11_layGaps_17 3 rfl <| ml_aload_n dX11_layGaps_18 0 rfl <| ml_ck_of h fun hc3293 h => ml_getI dX11_layGaps_19 wb_404 hc3293 <| ml_icmp_ge dX11_layGaps_22 h (fun _ h => ml_V.sub [0, 1, 2] rfl (vX11_layGaps_142 hL hr hk11 _ _ _ _ h)) (fun _ h => ml_bipush dX11_layGaps_25 kc_b10 <| ml_iload_n dX11_layGaps_27 2 rfl <| ml_imul dX11_layGaps_28 <| ml_iload_n dX11_layGaps_29 3 rfl <| ml_iadd dX11_layGaps_30 <| ml_lx (mk := ml_i) h fun x3294 h => ml_istore (lv' := [(4, ml_i x3294), (0, ml_r l0), (1, ml_i l1), (2, ml_i l2), (3, ml_i l3)]) dX11_layGaps_31 (ml_hn hL rfl) rfl <| ml_aload_n dX11_layGaps_33 1 rfl <| ml_getR dX11_layGaps_34 wb_431 hc3293 <| ml_lx (mk := ml_r) h fun a3295 h => ml_iload dX11_layGaps_37 0 rfl <| ml_iload_n dX11_layGaps_39 3 rfl <| ml_iload_n dX11_layGaps_40 2 rfl <| ml_icmp_ne dX11_layGaps_41 h (fun _ h => ml_bipush dX11_layGaps_48 kc_b100 <| ml_V.sub [1, 2, 3, 4, 0] rfl (vX11_layGaps_50 hL hr hk11 hk17 _ _ _ _ _ _ _ _ _ h)) (fun _ h => ml_iconst dX11_layGaps_44 kc_i0 <| ml_goto dX11_layGaps_45 <| ml_V.sub [1, 2, 3, 4, 0] rfl (vX11_layGaps_50 hL hr hk11 hk17 _ _ _ _ _ _ _ _ _ h)))
def fX11_layGaps_11 : Nat → Nat → Int32 → Int32 → ml_M → Option ml_M
  | 0, _, _, _, _ => none
  | fu + 1, l0, l1, l2, m =>
    if l2 ≤ 0 then
    some m
    else
    fX11_layGaps_17 (fX11_layGaps_11 fu) ml_fu l0 l1 l2 (0 : Int32) m
theorem vX11_layGaps_11 {E : ml_E} (hL : ml_eL E = 6) {rm : ml_M} (hr : ∀ (pc pc' : Nat) (lv : List (Nat × ml_X)), ml_d cX11_layGaps pc .return_ 1 pc' → True → ml_V E "LostRoomModel" cX11_layGaps 3 false rm pc lv []) : ∀ (fu : Nat) (l0 : Nat) (l1 : Int32) (l2 : Int32) (m : ml_M), fX11_layGaps_11 fu l0 l1 l2 m = some rm → ml_V E "LostRoomModel" cX11_layGaps 3 false m 11 [(0, ml_r l0), (1, ml_i l1), (2, ml_i l2)] [] := by
  intro fu
  induction fu with
  | zero => intro l0 l1 l2 m h; exact ml_none h
  | succ fu ih =>
    intro l0 l1 l2 m h
    have hk11 := ih
    unfold fX11_layGaps_11 at h
    exact ml_iload_n dX11_layGaps_11 2 rfl <| ml_if_le dX11_layGaps_12 h (fun _ h => ml_rv hr dX11_layGaps_148 trivial h) (fun _ h => ml_iconst dX11_layGaps_15 kc_i0 <| ml_istore_n (lv' := [(3, ml_i (0 : Int32)), (0, ml_r l0), (1, ml_i l1), (2, ml_i l2)]) dX11_layGaps_16 (ml_hn hL rfl) rfl <| ml_V.sub [1, 2, 3, 0] rfl (vX11_layGaps_17 hL hr hk11 ml_fu _ _ _ _ _ h))
def fX11_layGaps (l0 : Nat) (m : ml_M) : Option ml_M :=
    if (ml_K m l0).1 = 11 then
    ml_let (((1 : Int32) <<< ((ml_I m l0 37) &&& 31)) - (1 : Int32)) fun x3297 =>
    fX11_layGaps_11 ml_fu l0 x3297 x3297 m
    else none
theorem wX11_layGaps_0 {E : ml_E} (hL : ml_eL E = 6) {rm : ml_M} (hr : ∀ (pc pc' : Nat) (lv : List (Nat × ml_X)), ml_d cX11_layGaps pc .return_ 1 pc' → True → ml_V E "LostRoomModel" cX11_layGaps 3 false rm pc lv []) : ∀ (l0 : Nat) (m : ml_M), fX11_layGaps l0 m = some rm → ml_V E "LostRoomModel" cX11_layGaps 3 false m 0 [(0, ml_r l0)] [] := by
  intro l0 m h
  unfold fX11_layGaps at h
  exact ml_iconst dX11_layGaps_0 kc_i1 <| ml_aload_n dX11_layGaps_1 0 rfl <| ml_ck_of h fun hc3296 h => ml_getI dX11_layGaps_2 wb_404 hc3296 <| ml_ishl dX11_layGaps_5 <| ml_iconst dX11_layGaps_6 kc_i1 <| ml_isub dX11_layGaps_7 <| ml_lx (mk := ml_i) h fun x3297 h => ml_istore_n (lv' := [(1, ml_i x3297), (0, ml_r l0)]) dX11_layGaps_8 (ml_hn hL rfl) rfl <| ml_iload_n dX11_layGaps_9 0 rfl <| ml_istore_n (lv' := [(2, ml_i x3297), (1, ml_i x3297), (0, ml_r l0)]) dX11_layGaps_10 (ml_hn hL rfl) rfl <| ml_V.sub [2, 1, 0] rfl (vX11_layGaps_11 hL hr  ml_fu _ _ _ _ h)
theorem sX11_layGaps {l0 : Nat} {m : ml_M} {rm : ml_M} (h : fX11_layGaps l0 m = some rm) : ml_Sn yX11_layGaps cX11_layGaps 6 none 3 [ml_r l0] m none rm :=
  ml_Sn_of (P := True) (ini := false) (by decide +kernel) (Nat.le_of_ble_eq_true rfl) (fun h => by cases h) (fun _ => ml_RkV) fun E hL hr => wX11_layGaps_0 hL hr _ _ h

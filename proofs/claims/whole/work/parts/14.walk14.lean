/-! printed by wip/whole/emit.py out of the claim's own listing -/
theorem dX10_hasRun_0 : ml_d cX10_hasRun 0 (.iload_n 1) 1 1 := ⟨by decide +kernel, rfl⟩
theorem dX10_hasRun_1 : ml_j cX10_hasRun 1 (.ifCond .lt) 20 4 := ⟨19, by decide +kernel, by decide, rfl⟩
theorem dX10_hasRun_4 : ml_d cX10_hasRun 4 (.iload_n 1) 1 5 := ⟨by decide +kernel, rfl⟩
theorem dX10_hasRun_5 : ml_d cX10_hasRun 5 (.iload_n 0) 1 6 := ⟨by decide +kernel, rfl⟩
theorem dX10_hasRun_6 : ml_j cX10_hasRun 6 (.if_icmp .gt) 20 9 := ⟨14, by decide +kernel, by decide, rfl⟩
theorem dX10_hasRun_9 : ml_d cX10_hasRun 9 (.iload_n 2) 1 10 := ⟨by decide +kernel, rfl⟩
theorem dX10_hasRun_10 : ml_d cX10_hasRun 10 (.iload_n 0) 1 11 := ⟨by decide +kernel, rfl⟩
theorem dX10_hasRun_11 : ml_d cX10_hasRun 11 (.iload_n 1) 1 12 := ⟨by decide +kernel, rfl⟩
theorem dX10_hasRun_12 : ml_d cX10_hasRun 12 (.isub) 1 13 := ⟨by decide +kernel, rfl⟩
theorem dX10_hasRun_13 : ml_j cX10_hasRun 13 (.if_icmp .gt) 20 16 := ⟨7, by decide +kernel, by decide, rfl⟩
theorem dX10_hasRun_16 : ml_d cX10_hasRun 16 (.iconst 1) 1 17 := ⟨by decide +kernel, rfl⟩
theorem dX10_hasRun_17 : ml_j cX10_hasRun 17 .goto 21 20 := ⟨4, by decide +kernel, by decide, rfl⟩
theorem dX10_hasRun_20 : ml_d cX10_hasRun 20 (.iconst 0) 1 21 := ⟨by decide +kernel, rfl⟩
theorem dX10_hasRun_21 : ml_d cX10_hasRun 21 (.ireturn) 1 22 := ⟨by decide +kernel, rfl⟩
def fX10_hasRun (l0 : Int32) (l1 : Int32) (l2 : Int32) (m : ml_M) : Option Int32 :=
    if l1 < 0 then
    some (0 : Int32)
    else
    if l0 < l1 then
    some (0 : Int32)
    else
    if (l0 - l1) < l2 then
    some (0 : Int32)
    else
    some (1 : Int32)
theorem wX10_hasRun_0 {E : ml_E} (hL : ml_eL E = 3) {rv : Int32} {m : ml_M} (hr : ∀ (pc pc' : Nat) (lv : List (Nat × ml_X)), ml_d cX10_hasRun pc .ireturn 1 pc' → (rv = 0 ∨ rv = 1) → ml_V E "LostRoom" cX10_hasRun 2 false m pc lv [ml_i rv]) : ∀ (l0 : Int32) (l1 : Int32) (l2 : Int32), fX10_hasRun l0 l1 l2 m = some rv → ml_V E "LostRoom" cX10_hasRun 2 false m 0 [(0, ml_i l0), (1, ml_i l1), (2, ml_i l2)] [] := by
  intro l0 l1 l2 h
  unfold fX10_hasRun at h
  exact ml_iload_n dX10_hasRun_0 1 rfl <| ml_if_lt dX10_hasRun_1 h (fun _ h => ml_iconst dX10_hasRun_20 kc_i0 <| ml_rp (mk := ml_i) hr dX10_hasRun_21 (fun e => Or.inl e.symm) h) (fun _ h => ml_iload_n dX10_hasRun_4 1 rfl <| ml_iload_n dX10_hasRun_5 0 rfl <| ml_icmp_gt dX10_hasRun_6 h (fun _ h => ml_iconst dX10_hasRun_20 kc_i0 <| ml_rp (mk := ml_i) hr dX10_hasRun_21 (fun e => Or.inl e.symm) h) (fun _ h => ml_iload_n dX10_hasRun_9 2 rfl <| ml_iload_n dX10_hasRun_10 0 rfl <| ml_iload_n dX10_hasRun_11 1 rfl <| ml_isub dX10_hasRun_12 <| ml_icmp_gt dX10_hasRun_13 h (fun _ h => ml_iconst dX10_hasRun_20 kc_i0 <| ml_rp (mk := ml_i) hr dX10_hasRun_21 (fun e => Or.inl e.symm) h) (fun _ h => ml_iconst dX10_hasRun_16 kc_i1 <| ml_goto dX10_hasRun_17 <| ml_rp (mk := ml_i) hr dX10_hasRun_21 (fun e => Or.inr e.symm) h)))
theorem sX10_hasRun {l0 : Int32} {l1 : Int32} {l2 : Int32} {m : ml_M} {rv : Int32} (h : fX10_hasRun l0 l1 l2 m = some rv) : ml_Sn yX10_hasRun cX10_hasRun 3 (some .boolean) 2 [ml_i l0, ml_i l1, ml_i l2] m (some (ml_i rv)) m :=
  ml_Sn_of (P := (rv = 0 ∨ rv = 1)) (ini := false) (by decide +kernel) (Nat.le_of_ble_eq_true rfl) (fun h => by cases h) (fun hz => ml_RkZ rv hz) fun E hL hr => wX10_hasRun_0 hL hr _ _ _ h
theorem dX10_copy_0 : ml_d cX10_copy 0 (.iload_n 1) 1 1 := ⟨by decide +kernel, rfl⟩
theorem dX10_copy_1 : ml_d cX10_copy 1 (.invokestatic 82) 3 4 := ⟨by decide +kernel, rfl⟩
theorem dX10_copy_4 : ml_j cX10_copy 4 (.ifCond .eq) 14 7 := ⟨10, by decide +kernel, by decide, rfl⟩
theorem dX10_copy_7 : ml_d cX10_copy 7 (.iload_n 3) 1 8 := ⟨by decide +kernel, rfl⟩
theorem dX10_copy_8 : ml_d cX10_copy 8 (.invokestatic 82) 3 11 := ⟨by decide +kernel, rfl⟩
theorem dX10_copy_11 : ml_j cX10_copy 11 (.ifCond .ne) 16 14 := ⟨5, by decide +kernel, by decide, rfl⟩
theorem dX10_copy_14 : ml_d cX10_copy 14 (.iconst (-1)) 1 15 := ⟨by decide +kernel, rfl⟩
theorem dX10_copy_15 : ml_d cX10_copy 15 (.ireturn) 1 16 := ⟨by decide +kernel, rfl⟩
theorem dX10_copy_16 : ml_d cX10_copy 16 (.iload 5) 2 18 := ⟨by decide +kernel, rfl⟩
theorem dX10_copy_18 : ml_j cX10_copy 18 (.ifCond .ge) 27 21 := ⟨9, by decide +kernel, by decide, rfl⟩
theorem dX10_copy_21 : ml_d cX10_copy 21 (.aload_n 0) 1 22 := ⟨by decide +kernel, rfl⟩
theorem dX10_copy_22 : ml_d cX10_copy 22 (.iconst 5) 1 23 := ⟨by decide +kernel, rfl⟩
theorem dX10_copy_23 : ml_d cX10_copy 23 (.invokevirtual 86) 3 26 := ⟨by decide +kernel, rfl⟩
theorem dX10_copy_26 : ml_d cX10_copy 26 (.ireturn) 1 27 := ⟨by decide +kernel, rfl⟩
theorem dX10_copy_27 : ml_d cX10_copy 27 (.aload_n 0) 1 28 := ⟨by decide +kernel, rfl⟩
theorem dX10_copy_28 : ml_d cX10_copy 28 (.getfield 11) 3 31 := ⟨by decide +kernel, rfl⟩
theorem dX10_copy_31 : ml_d cX10_copy 31 (.iload_n 1) 1 32 := ⟨by decide +kernel, rfl⟩
theorem dX10_copy_32 : ml_d cX10_copy 32 (.aaload) 1 33 := ⟨by decide +kernel, rfl⟩
theorem dX10_copy_33 : ml_d cX10_copy 33 (.astore 6) 2 35 := ⟨by decide +kernel, rfl⟩
theorem dX10_copy_35 : ml_d cX10_copy 35 (.aload_n 0) 1 36 := ⟨by decide +kernel, rfl⟩
theorem dX10_copy_36 : ml_d cX10_copy 36 (.getfield 11) 3 39 := ⟨by decide +kernel, rfl⟩
theorem dX10_copy_39 : ml_d cX10_copy 39 (.iload_n 3) 1 40 := ⟨by decide +kernel, rfl⟩
theorem dX10_copy_40 : ml_d cX10_copy 40 (.aaload) 1 41 := ⟨by decide +kernel, rfl⟩
theorem dX10_copy_41 : ml_d cX10_copy 41 (.astore 7) 2 43 := ⟨by decide +kernel, rfl⟩
theorem dX10_copy_43 : ml_d cX10_copy 43 (.aload 6) 2 45 := ⟨by decide +kernel, rfl⟩
theorem dX10_copy_45 : ml_j cX10_copy 45 .ifnull 53 48 := ⟨8, by decide +kernel, by decide, rfl⟩
theorem dX10_copy_48 : ml_d cX10_copy 48 (.aload 7) 2 50 := ⟨by decide +kernel, rfl⟩
theorem dX10_copy_50 : ml_j cX10_copy 50 .ifnonnull 59 53 := ⟨9, by decide +kernel, by decide, rfl⟩
theorem dX10_copy_53 : ml_d cX10_copy 53 (.aload_n 0) 1 54 := ⟨by decide +kernel, rfl⟩
theorem dX10_copy_54 : ml_d cX10_copy 54 (.iconst 1) 1 55 := ⟨by decide +kernel, rfl⟩
theorem dX10_copy_55 : ml_d cX10_copy 55 (.invokevirtual 86) 3 58 := ⟨by decide +kernel, rfl⟩
theorem dX10_copy_58 : ml_d cX10_copy 58 (.ireturn) 1 59 := ⟨by decide +kernel, rfl⟩
theorem dX10_copy_59 : ml_d cX10_copy 59 (.aload 6) 2 61 := ⟨by decide +kernel, rfl⟩
theorem dX10_copy_61 : ml_d cX10_copy 61 (.arraylength) 1 62 := ⟨by decide +kernel, rfl⟩
theorem dX10_copy_62 : ml_d cX10_copy 62 (.iload_n 2) 1 63 := ⟨by decide +kernel, rfl⟩
theorem dX10_copy_63 : ml_d cX10_copy 63 (.iload 5) 2 65 := ⟨by decide +kernel, rfl⟩
theorem dX10_copy_65 : ml_d cX10_copy 65 (.invokestatic 93) 3 68 := ⟨by decide +kernel, rfl⟩
theorem dX10_copy_68 : ml_j cX10_copy 68 (.ifCond .eq) 84 71 := ⟨16, by decide +kernel, by decide, rfl⟩
theorem dX10_copy_71 : ml_d cX10_copy 71 (.aload 7) 2 73 := ⟨by decide +kernel, rfl⟩
theorem dX10_copy_73 : ml_d cX10_copy 73 (.arraylength) 1 74 := ⟨by decide +kernel, rfl⟩
theorem dX10_copy_74 : ml_d cX10_copy 74 (.iload 4) 2 76 := ⟨by decide +kernel, rfl⟩
theorem dX10_copy_76 : ml_d cX10_copy 76 (.iload 5) 2 78 := ⟨by decide +kernel, rfl⟩
theorem dX10_copy_78 : ml_d cX10_copy 78 (.invokestatic 93) 3 81 := ⟨by decide +kernel, rfl⟩
theorem dX10_copy_81 : ml_j cX10_copy 81 (.ifCond .ne) 90 84 := ⟨9, by decide +kernel, by decide, rfl⟩
theorem dX10_copy_84 : ml_d cX10_copy 84 (.aload_n 0) 1 85 := ⟨by decide +kernel, rfl⟩
theorem dX10_copy_85 : ml_d cX10_copy 85 (.iconst 2) 1 86 := ⟨by decide +kernel, rfl⟩
theorem dX10_copy_86 : ml_d cX10_copy 86 (.invokevirtual 86) 3 89 := ⟨by decide +kernel, rfl⟩
theorem dX10_copy_89 : ml_d cX10_copy 89 (.ireturn) 1 90 := ⟨by decide +kernel, rfl⟩
theorem dX10_copy_90 : ml_d cX10_copy 90 (.aload 6) 2 92 := ⟨by decide +kernel, rfl⟩
theorem dX10_copy_92 : ml_d cX10_copy 92 (.iload_n 2) 1 93 := ⟨by decide +kernel, rfl⟩
theorem dX10_copy_93 : ml_d cX10_copy 93 (.aload 7) 2 95 := ⟨by decide +kernel, rfl⟩
theorem dX10_copy_95 : ml_d cX10_copy 95 (.iload 4) 2 97 := ⟨by decide +kernel, rfl⟩
theorem dX10_copy_97 : ml_d cX10_copy 97 (.iload 5) 2 99 := ⟨by decide +kernel, rfl⟩
theorem dX10_copy_99 : ml_d cX10_copy 99 (.invokestatic 97) 3 102 := ⟨by decide +kernel, rfl⟩
theorem dX10_copy_102 : ml_d cX10_copy 102 (.iconst 1) 1 103 := ⟨by decide +kernel, rfl⟩
theorem dX10_copy_103 : ml_d cX10_copy 103 (.ireturn) 1 104 := ⟨by decide +kernel, rfl⟩
def fX10_copy_53 (l0 : Nat) (m : ml_M) : Option (Int32 × ml_M) :=
    if (ml_K m l0).1 = 10 then
    ml_b2 (fX10_found l0 (1 : Int32) m) fun r645 m646 =>
    some (r645, m646)
    else none
theorem vX10_copy_53 {E : ml_E} (hL : ml_eL E = 8) {rv : Int32} {rm : ml_M} (hr : ∀ (pc pc' : Nat) (lv : List (Nat × ml_X)), ml_d cX10_copy pc .ireturn 1 pc' → True → ml_V E "LostRoom" cX10_copy 4 false rm pc lv [ml_i rv]) : ∀ (l0 : Nat) (m : ml_M), fX10_copy_53 l0 m = some (rv, rm) → ml_V E "LostRoom" cX10_copy 4 false m 53 [(0, ml_r l0)] [] := by
  intro l0 m h
  unfold fX10_copy_53 at h
  exact ml_aload_n dX10_copy_53 0 rfl <| ml_iconst dX10_copy_54 kc_i1 <| ml_ck_of h fun hc644 h => ml_b2_of h fun r645 m646 hv643 h => ml_callV dX10_copy_55 wm_132 wb_99 hc644 (sX10_found hv643) rfl (Nat.le_of_ble_eq_true rfl) (Nat.le_of_ble_eq_true rfl) rfl <| ml_rI (mk := ml_i) hr dX10_copy_58 (fun _ => trivial) h
def fX10_copy_84 (l0 : Nat) (m : ml_M) : Option (Int32 × ml_M) :=
    if (ml_K m l0).1 = 10 then
    ml_b2 (fX10_found l0 (2 : Int32) m) fun r649 m650 =>
    some (r649, m650)
    else none
theorem vX10_copy_84 {E : ml_E} (hL : ml_eL E = 8) {rv : Int32} {rm : ml_M} (hr : ∀ (pc pc' : Nat) (lv : List (Nat × ml_X)), ml_d cX10_copy pc .ireturn 1 pc' → True → ml_V E "LostRoom" cX10_copy 4 false rm pc lv [ml_i rv]) : ∀ (l0 : Nat) (m : ml_M), fX10_copy_84 l0 m = some (rv, rm) → ml_V E "LostRoom" cX10_copy 4 false m 84 [(0, ml_r l0)] [] := by
  intro l0 m h
  unfold fX10_copy_84 at h
  exact ml_aload_n dX10_copy_84 0 rfl <| ml_iconst dX10_copy_85 kc_i2 <| ml_ck_of h fun hc648 h => ml_b2_of h fun r649 m650 hv647 h => ml_callV dX10_copy_86 wm_132 wb_99 hc648 (sX10_found hv647) rfl (Nat.le_of_ble_eq_true rfl) (Nat.le_of_ble_eq_true rfl) rfl <| ml_rI (mk := ml_i) hr dX10_copy_89 (fun _ => trivial) h
def fX10_copy (l0 : Nat) (l1 : Int32) (l2 : Int32) (l3 : Int32) (l4 : Int32) (l5 : Int32) (m : ml_M) : Option (Int32 × ml_M) :=
    ml_b1 (fX10_isRow l1 m) fun r652 =>
    if r652 = 0 then
    some ((-1 : Int32), m)
    else
    ml_b1 (fX10_isRow l3 m) fun r654 =>
    if r654 = 0 then
    some ((-1 : Int32), m)
    else
    if 0 ≤ l5 then
    if (ml_K m l0).1 = 10 then
    ml_let (ml_R m l0 0) fun a656 =>
    if ml_in m a656 23 l1 then
    ml_let (ml_R m a656 l1.toNatClampNeg) fun a658 =>
    ml_let (ml_R m l0 0) fun a659 =>
    if ml_in m a659 23 l3 then
    ml_let (ml_R m a659 l3.toNatClampNeg) fun a661 =>
    if a658 = 0 then
    fX10_copy_53 l0 m
    else
    if a661 = 0 then
    fX10_copy_53 l0 m
    else
    if (ml_K m a658).1 = 20 then
    ml_b1 (fX10_hasRun (Int32.ofNat (ml_K m a658).2) l2 l5 m) fun r664 =>
    if r664 = 0 then
    fX10_copy_84 l0 m
    else
    if (ml_K m a661).1 = 20 then
    ml_b1 (fX10_hasRun (Int32.ofNat (ml_K m a661).2) l4 l5 m) fun r667 =>
    if r667 = 0 then
    fX10_copy_84 l0 m
    else
    if ml_cpo m a658 a661 l2 l4 l5 then
    ml_let (ml_cp m a658 l2.toNatClampNeg a661 l4.toNatClampNeg l5.toNatClampNeg) fun m669 =>
    some ((1 : Int32), m669)
    else none
    else none
    else none
    else none
    else none
    else none
    else
    if (ml_K m l0).1 = 10 then
    ml_b2 (fX10_found l0 (5 : Int32) m) fun r673 m674 =>
    some (r673, m674)
    else none
theorem wX10_copy_0 {E : ml_E} (hL : ml_eL E = 8) {rv : Int32} {rm : ml_M} (hr : ∀ (pc pc' : Nat) (lv : List (Nat × ml_X)), ml_d cX10_copy pc .ireturn 1 pc' → True → ml_V E "LostRoom" cX10_copy 4 false rm pc lv [ml_i rv]) : ∀ (l0 : Nat) (l1 : Int32) (l2 : Int32) (l3 : Int32) (l4 : Int32) (l5 : Int32) (m : ml_M), fX10_copy l0 l1 l2 l3 l4 l5 m = some (rv, rm) → ml_V E "LostRoom" cX10_copy 4 false m 0 [(0, ml_r l0), (1, ml_i l1), (2, ml_i l2), (3, ml_i l3), (4, ml_i l4), (5, ml_i l5)] [] := by
  intro l0 l1 l2 l3 l4 l5 m h
  unfold fX10_copy at h
  exact ml_iload_n dX10_copy_0 1 rfl <| ml_b1_of h fun r652 hv651 h => ml_callS dX10_copy_1 wm_128 wb_97 (sX10_isRow hv651) rfl (Nat.le_of_ble_eq_true rfl) (Nat.le_of_ble_eq_true rfl) rfl <| ml_if_eq dX10_copy_4 h (fun _ h => ml_iconst dX10_copy_14 kc_im1 <| ml_rI (mk := ml_i) hr dX10_copy_15 (fun _ => trivial) h) (fun _ h => ml_iload_n dX10_copy_7 3 rfl <| ml_b1_of h fun r654 hv653 h => ml_callS dX10_copy_8 wm_128 wb_97 (sX10_isRow hv653) rfl (Nat.le_of_ble_eq_true rfl) (Nat.le_of_ble_eq_true rfl) rfl <| ml_if_ne dX10_copy_11 h (fun _ h => ml_iload dX10_copy_16 5 rfl <| ml_if_ge dX10_copy_18 h (fun _ h => ml_aload_n dX10_copy_27 0 rfl <| ml_ck_of h fun hc655 h => ml_getR dX10_copy_28 wb_98 hc655 <| ml_lx (mk := ml_r) h fun a656 h => ml_iload_n dX10_copy_31 1 rfl <| ml_ck_of h fun hi657 h => ml_aald (kd := 23) dX10_copy_32 (by decide) hi657 <| ml_lx (mk := ml_r) h fun a658 h => ml_astore (lv' := [(6, ml_r a658), (0, ml_r l0), (1, ml_i l1), (2, ml_i l2), (3, ml_i l3), (4, ml_i l4), (5, ml_i l5)]) dX10_copy_33 (ml_hn hL rfl) rfl <| ml_aload_n dX10_copy_35 1 rfl <| ml_getR dX10_copy_36 wb_98 hc655 <| ml_lx (mk := ml_r) h fun a659 h => ml_iload_n dX10_copy_39 4 rfl <| ml_ck_of h fun hi660 h => ml_aald (kd := 23) dX10_copy_40 (by decide) hi660 <| ml_lx (mk := ml_r) h fun a661 h => ml_astore (lv' := [(7, ml_r a661), (6, ml_r a658), (0, ml_r l0), (1, ml_i l1), (2, ml_i l2), (3, ml_i l3), (4, ml_i l4), (5, ml_i l5)]) dX10_copy_41 (ml_hn hL rfl) rfl <| ml_aload dX10_copy_43 1 rfl <| ml_ifnull dX10_copy_45 h (fun _ h => ml_V.sub [2] rfl (vX10_copy_53 hL hr  _ _ h)) (fun _ h => ml_aload dX10_copy_48 0 rfl <| ml_ifnonnull dX10_copy_50 h (fun _ h => ml_aload dX10_copy_59 1 rfl <| ml_ck_of h fun hc662 h => ml_alen (kd := 20) dX10_copy_61 (by decide) hc662 <| ml_iload_n dX10_copy_62 4 rfl <| ml_iload dX10_copy_63 7 rfl <| ml_b1_of h fun r664 hv663 h => ml_callS dX10_copy_65 wm_161 wb_111 (sX10_hasRun hv663) rfl (Nat.le_of_ble_eq_true rfl) (Nat.le_of_ble_eq_true rfl) rfl <| ml_if_eq dX10_copy_68 h (fun _ h => ml_V.sub [2] rfl (vX10_copy_84 hL hr  _ _ h)) (fun _ h => ml_aload dX10_copy_71 0 rfl <| ml_ck_of h fun hc665 h => ml_alen (kd := 20) dX10_copy_73 (by decide) hc665 <| ml_iload dX10_copy_74 6 rfl <| ml_iload dX10_copy_76 7 rfl <| ml_b1_of h fun r667 hv666 h => ml_callS dX10_copy_78 wm_161 wb_111 (sX10_hasRun hv666) rfl (Nat.le_of_ble_eq_true rfl) (Nat.le_of_ble_eq_true rfl) rfl <| ml_if_ne dX10_copy_81 h (fun _ h => ml_aload dX10_copy_90 1 rfl <| ml_iload_n dX10_copy_92 4 rfl <| ml_aload dX10_copy_93 0 rfl <| ml_iload dX10_copy_95 6 rfl <| ml_iload dX10_copy_97 7 rfl <| ml_ck_of h fun ho668 h => ml_copys dX10_copy_99 wb_112 (Nat.le_of_ble_eq_true rfl) (Nat.le_of_ble_eq_true rfl) ho668 h fun m669 em670 h => ml_iconst dX10_copy_102 kc_i1 <| ml_rI (mk := ml_i) hr dX10_copy_103 (fun _ => trivial) h) (fun _ h => ml_V.sub [2] rfl (vX10_copy_84 hL hr  _ _ h)))) (fun _ h => ml_V.sub [2] rfl (vX10_copy_53 hL hr  _ _ h)))) (fun _ h => ml_aload_n dX10_copy_21 0 rfl <| ml_iconst dX10_copy_22 kc_i5 <| ml_ck_of h fun hc672 h => ml_b2_of h fun r673 m674 hv671 h => ml_callV dX10_copy_23 wm_132 wb_99 hc672 (sX10_found hv671) rfl (Nat.le_of_ble_eq_true rfl) (Nat.le_of_ble_eq_true rfl) rfl <| ml_rI (mk := ml_i) hr dX10_copy_26 (fun _ => trivial) h)) (fun _ h => ml_iconst dX10_copy_14 kc_im1 <| ml_rI (mk := ml_i) hr dX10_copy_15 (fun _ => trivial) h))
theorem sX10_copy {l0 : Nat} {l1 : Int32} {l2 : Int32} {l3 : Int32} {l4 : Int32} {l5 : Int32} {m : ml_M} {rv : Int32} {rm : ml_M} (h : fX10_copy l0 l1 l2 l3 l4 l5 m = some (rv, rm)) : ml_Sn yX10_copy cX10_copy 8 (some .int) 4 [ml_r l0, ml_i l1, ml_i l2, ml_i l3, ml_i l4, ml_i l5] m (some (ml_i rv)) rm :=
  ml_Sn_of (P := True) (ini := false) (by decide +kernel) (Nat.le_of_ble_eq_true rfl) (fun h => by cases h) (fun _ => ml_RkI rv) fun E hL hr => wX10_copy_0 hL hr _ _ _ _ _ _ _ h
theorem dX11_copy_0 : ml_d cX11_copy 0 (.iload_n 1) 1 1 := ⟨by decide +kernel, rfl⟩
theorem dX11_copy_1 : ml_d cX11_copy 1 (.invokestatic 111) 3 4 := ⟨by decide +kernel, rfl⟩
theorem dX11_copy_4 : ml_j cX11_copy 4 (.ifCond .eq) 14 7 := ⟨10, by decide +kernel, by decide, rfl⟩
theorem dX11_copy_7 : ml_d cX11_copy 7 (.iload_n 3) 1 8 := ⟨by decide +kernel, rfl⟩
theorem dX11_copy_8 : ml_d cX11_copy 8 (.invokestatic 111) 3 11 := ⟨by decide +kernel, rfl⟩
theorem dX11_copy_11 : ml_j cX11_copy 11 (.ifCond .ne) 16 14 := ⟨5, by decide +kernel, by decide, rfl⟩
theorem dX11_copy_14 : ml_d cX11_copy 14 (.iconst (-1)) 1 15 := ⟨by decide +kernel, rfl⟩
theorem dX11_copy_15 : ml_d cX11_copy 15 (.ireturn) 1 16 := ⟨by decide +kernel, rfl⟩
theorem dX11_copy_16 : ml_d cX11_copy 16 (.iload 5) 2 18 := ⟨by decide +kernel, rfl⟩
theorem dX11_copy_18 : ml_j cX11_copy 18 (.ifCond .ge) 27 21 := ⟨9, by decide +kernel, by decide, rfl⟩
theorem dX11_copy_21 : ml_d cX11_copy 21 (.aload_n 0) 1 22 := ⟨by decide +kernel, rfl⟩
theorem dX11_copy_22 : ml_d cX11_copy 22 (.iconst 5) 1 23 := ⟨by decide +kernel, rfl⟩
theorem dX11_copy_23 : ml_d cX11_copy 23 (.invokevirtual 115) 3 26 := ⟨by decide +kernel, rfl⟩
theorem dX11_copy_26 : ml_d cX11_copy 26 (.ireturn) 1 27 := ⟨by decide +kernel, rfl⟩
theorem dX11_copy_27 : ml_d cX11_copy 27 (.aload_n 0) 1 28 := ⟨by decide +kernel, rfl⟩
theorem dX11_copy_28 : ml_d cX11_copy 28 (.getfield 13) 3 31 := ⟨by decide +kernel, rfl⟩
theorem dX11_copy_31 : ml_d cX11_copy 31 (.iload_n 1) 1 32 := ⟨by decide +kernel, rfl⟩
theorem dX11_copy_32 : ml_d cX11_copy 32 (.iaload) 1 33 := ⟨by decide +kernel, rfl⟩
theorem dX11_copy_33 : ml_j cX11_copy 33 (.ifCond .lt) 45 36 := ⟨12, by decide +kernel, by decide, rfl⟩
theorem dX11_copy_36 : ml_d cX11_copy 36 (.aload_n 0) 1 37 := ⟨by decide +kernel, rfl⟩
theorem dX11_copy_37 : ml_d cX11_copy 37 (.getfield 13) 3 40 := ⟨by decide +kernel, rfl⟩
theorem dX11_copy_40 : ml_d cX11_copy 40 (.iload_n 3) 1 41 := ⟨by decide +kernel, rfl⟩
theorem dX11_copy_41 : ml_d cX11_copy 41 (.iaload) 1 42 := ⟨by decide +kernel, rfl⟩
theorem dX11_copy_42 : ml_j cX11_copy 42 (.ifCond .ge) 51 45 := ⟨9, by decide +kernel, by decide, rfl⟩
theorem dX11_copy_45 : ml_d cX11_copy 45 (.aload_n 0) 1 46 := ⟨by decide +kernel, rfl⟩
theorem dX11_copy_46 : ml_d cX11_copy 46 (.iconst 1) 1 47 := ⟨by decide +kernel, rfl⟩
theorem dX11_copy_47 : ml_d cX11_copy 47 (.invokevirtual 115) 3 50 := ⟨by decide +kernel, rfl⟩
theorem dX11_copy_50 : ml_d cX11_copy 50 (.ireturn) 1 51 := ⟨by decide +kernel, rfl⟩
theorem dX11_copy_51 : ml_d cX11_copy 51 (.iload_n 2) 1 52 := ⟨by decide +kernel, rfl⟩
theorem dX11_copy_52 : ml_j cX11_copy 52 (.ifCond .lt) 95 55 := ⟨43, by decide +kernel, by decide, rfl⟩
theorem dX11_copy_55 : ml_d cX11_copy 55 (.iload 4) 2 57 := ⟨by decide +kernel, rfl⟩
theorem dX11_copy_57 : ml_j cX11_copy 57 (.ifCond .lt) 95 60 := ⟨38, by decide +kernel, by decide, rfl⟩
theorem dX11_copy_60 : ml_d cX11_copy 60 (.iload_n 2) 1 61 := ⟨by decide +kernel, rfl⟩
theorem dX11_copy_61 : ml_d cX11_copy 61 (.i2l) 1 62 := ⟨by decide +kernel, rfl⟩
theorem dX11_copy_62 : ml_d cX11_copy 62 (.iload 5) 2 64 := ⟨by decide +kernel, rfl⟩
theorem dX11_copy_64 : ml_d cX11_copy 64 (.i2l) 1 65 := ⟨by decide +kernel, rfl⟩
theorem dX11_copy_65 : ml_d cX11_copy 65 (.ladd) 1 66 := ⟨by decide +kernel, rfl⟩
theorem dX11_copy_66 : ml_d cX11_copy 66 (.aload_n 0) 1 67 := ⟨by decide +kernel, rfl⟩
theorem dX11_copy_67 : ml_d cX11_copy 67 (.getfield 13) 3 70 := ⟨by decide +kernel, rfl⟩
theorem dX11_copy_70 : ml_d cX11_copy 70 (.iload_n 1) 1 71 := ⟨by decide +kernel, rfl⟩
theorem dX11_copy_71 : ml_d cX11_copy 71 (.iaload) 1 72 := ⟨by decide +kernel, rfl⟩
theorem dX11_copy_72 : ml_d cX11_copy 72 (.i2l) 1 73 := ⟨by decide +kernel, rfl⟩
theorem dX11_copy_73 : ml_d cX11_copy 73 (.lcmp) 1 74 := ⟨by decide +kernel, rfl⟩
theorem dX11_copy_74 : ml_j cX11_copy 74 (.ifCond .gt) 95 77 := ⟨21, by decide +kernel, by decide, rfl⟩
theorem dX11_copy_77 : ml_d cX11_copy 77 (.iload 4) 2 79 := ⟨by decide +kernel, rfl⟩
theorem dX11_copy_79 : ml_d cX11_copy 79 (.i2l) 1 80 := ⟨by decide +kernel, rfl⟩
theorem dX11_copy_80 : ml_d cX11_copy 80 (.iload 5) 2 82 := ⟨by decide +kernel, rfl⟩
theorem dX11_copy_82 : ml_d cX11_copy 82 (.i2l) 1 83 := ⟨by decide +kernel, rfl⟩
theorem dX11_copy_83 : ml_d cX11_copy 83 (.ladd) 1 84 := ⟨by decide +kernel, rfl⟩
theorem dX11_copy_84 : ml_d cX11_copy 84 (.aload_n 0) 1 85 := ⟨by decide +kernel, rfl⟩
theorem dX11_copy_85 : ml_d cX11_copy 85 (.getfield 13) 3 88 := ⟨by decide +kernel, rfl⟩
theorem dX11_copy_88 : ml_d cX11_copy 88 (.iload_n 3) 1 89 := ⟨by decide +kernel, rfl⟩
theorem dX11_copy_89 : ml_d cX11_copy 89 (.iaload) 1 90 := ⟨by decide +kernel, rfl⟩
theorem dX11_copy_90 : ml_d cX11_copy 90 (.i2l) 1 91 := ⟨by decide +kernel, rfl⟩
theorem dX11_copy_91 : ml_d cX11_copy 91 (.lcmp) 1 92 := ⟨by decide +kernel, rfl⟩
theorem dX11_copy_92 : ml_j cX11_copy 92 (.ifCond .le) 101 95 := ⟨9, by decide +kernel, by decide, rfl⟩
theorem dX11_copy_95 : ml_d cX11_copy 95 (.aload_n 0) 1 96 := ⟨by decide +kernel, rfl⟩
theorem dX11_copy_96 : ml_d cX11_copy 96 (.iconst 2) 1 97 := ⟨by decide +kernel, rfl⟩
theorem dX11_copy_97 : ml_d cX11_copy 97 (.invokevirtual 115) 3 100 := ⟨by decide +kernel, rfl⟩
theorem dX11_copy_100 : ml_d cX11_copy 100 (.ireturn) 1 101 := ⟨by decide +kernel, rfl⟩
theorem dX11_copy_101 : ml_d cX11_copy 101 (.iconst 0) 1 102 := ⟨by decide +kernel, rfl⟩
theorem dX11_copy_102 : ml_d cX11_copy 102 (.istore 6) 2 104 := ⟨by decide +kernel, rfl⟩
theorem dX11_copy_104 : ml_d cX11_copy 104 (.iload 6) 2 106 := ⟨by decide +kernel, rfl⟩
theorem dX11_copy_106 : ml_d cX11_copy 106 (.iload 5) 2 108 := ⟨by decide +kernel, rfl⟩
theorem dX11_copy_108 : ml_j cX11_copy 108 (.if_icmp .ge) 133 111 := ⟨25, by decide +kernel, by decide, rfl⟩
theorem dX11_copy_111 : ml_d cX11_copy 111 (.aload_n 0) 1 112 := ⟨by decide +kernel, rfl⟩
theorem dX11_copy_112 : ml_d cX11_copy 112 (.getfield 19) 3 115 := ⟨by decide +kernel, rfl⟩
theorem dX11_copy_115 : ml_d cX11_copy 115 (.iload 6) 2 117 := ⟨by decide +kernel, rfl⟩
theorem dX11_copy_117 : ml_d cX11_copy 117 (.aload_n 0) 1 118 := ⟨by decide +kernel, rfl⟩
theorem dX11_copy_118 : ml_d cX11_copy 118 (.iload_n 1) 1 119 := ⟨by decide +kernel, rfl⟩
theorem dX11_copy_119 : ml_d cX11_copy 119 (.iload_n 2) 1 120 := ⟨by decide +kernel, rfl⟩
theorem dX11_copy_120 : ml_d cX11_copy 120 (.iload 6) 2 122 := ⟨by decide +kernel, rfl⟩
theorem dX11_copy_122 : ml_d cX11_copy 122 (.iadd) 1 123 := ⟨by decide +kernel, rfl⟩
theorem dX11_copy_123 : ml_d cX11_copy 123 (.invokevirtual 119) 3 126 := ⟨by decide +kernel, rfl⟩
theorem dX11_copy_126 : ml_d cX11_copy 126 (.iastore) 1 127 := ⟨by decide +kernel, rfl⟩
theorem dX11_copy_127 : ml_d cX11_copy 127 (.iinc 6 1) 3 130 := ⟨by decide +kernel, rfl⟩
theorem dX11_copy_130 : ml_j cX11_copy 130 .goto 104 133 := ⟨(-26), by decide +kernel, by decide, rfl⟩
theorem dX11_copy_133 : ml_d cX11_copy 133 (.iconst 0) 1 134 := ⟨by decide +kernel, rfl⟩
theorem dX11_copy_134 : ml_d cX11_copy 134 (.istore 6) 2 136 := ⟨by decide +kernel, rfl⟩
theorem dX11_copy_136 : ml_d cX11_copy 136 (.iload 6) 2 138 := ⟨by decide +kernel, rfl⟩
theorem dX11_copy_138 : ml_d cX11_copy 138 (.iload 5) 2 140 := ⟨by decide +kernel, rfl⟩
theorem dX11_copy_140 : ml_j cX11_copy 140 (.if_icmp .ge) 171 143 := ⟨31, by decide +kernel, by decide, rfl⟩
theorem dX11_copy_143 : ml_d cX11_copy 143 (.aload_n 0) 1 144 := ⟨by decide +kernel, rfl⟩
theorem dX11_copy_144 : ml_d cX11_copy 144 (.getfield 16) 3 147 := ⟨by decide +kernel, rfl⟩
theorem dX11_copy_147 : ml_d cX11_copy 147 (.bipush 48) 2 149 := ⟨by decide +kernel, rfl⟩
theorem dX11_copy_149 : ml_d cX11_copy 149 (.iload_n 3) 1 150 := ⟨by decide +kernel, rfl⟩
theorem dX11_copy_150 : ml_d cX11_copy 150 (.imul) 1 151 := ⟨by decide +kernel, rfl⟩
theorem dX11_copy_151 : ml_d cX11_copy 151 (.iload 4) 2 153 := ⟨by decide +kernel, rfl⟩
theorem dX11_copy_153 : ml_d cX11_copy 153 (.iadd) 1 154 := ⟨by decide +kernel, rfl⟩
theorem dX11_copy_154 : ml_d cX11_copy 154 (.iload 6) 2 156 := ⟨by decide +kernel, rfl⟩
theorem dX11_copy_156 : ml_d cX11_copy 156 (.iadd) 1 157 := ⟨by decide +kernel, rfl⟩
theorem dX11_copy_157 : ml_d cX11_copy 157 (.aload_n 0) 1 158 := ⟨by decide +kernel, rfl⟩
theorem dX11_copy_158 : ml_d cX11_copy 158 (.getfield 19) 3 161 := ⟨by decide +kernel, rfl⟩
theorem dX11_copy_161 : ml_d cX11_copy 161 (.iload 6) 2 163 := ⟨by decide +kernel, rfl⟩
theorem dX11_copy_163 : ml_d cX11_copy 163 (.iaload) 1 164 := ⟨by decide +kernel, rfl⟩
theorem dX11_copy_164 : ml_d cX11_copy 164 (.iastore) 1 165 := ⟨by decide +kernel, rfl⟩
theorem dX11_copy_165 : ml_d cX11_copy 165 (.iinc 6 1) 3 168 := ⟨by decide +kernel, rfl⟩
theorem dX11_copy_168 : ml_j cX11_copy 168 .goto 136 171 := ⟨(-32), by decide +kernel, by decide, rfl⟩
theorem dX11_copy_171 : ml_d cX11_copy 171 (.iconst 1) 1 172 := ⟨by decide +kernel, rfl⟩
theorem dX11_copy_172 : ml_d cX11_copy 172 (.ireturn) 1 173 := ⟨by decide +kernel, rfl⟩
def fX11_copy_45 (l0 : Nat) (m : ml_M) : Option (Int32 × ml_M) :=
    if (ml_K m l0).1 = 11 then
    ml_b2 (fX11_meets l0 (1 : Int32) m) fun r677 m678 =>
    some (r677, m678)
    else none
theorem vX11_copy_45 {E : ml_E} (hL : ml_eL E = 7) {rv : Int32} {rm : ml_M} (hr : ∀ (pc pc' : Nat) (lv : List (Nat × ml_X)), ml_d cX11_copy pc .ireturn 1 pc' → True → ml_V E "LostRoomModel" cX11_copy 4 false rm pc lv [ml_i rv]) : ∀ (l0 : Nat) (m : ml_M), fX11_copy_45 l0 m = some (rv, rm) → ml_V E "LostRoomModel" cX11_copy 4 false m 45 [(0, ml_r l0)] [] := by
  intro l0 m h
  unfold fX11_copy_45 at h
  exact ml_aload_n dX11_copy_45 0 rfl <| ml_iconst dX11_copy_46 kc_i1 <| ml_ck_of h fun hc676 h => ml_b2_of h fun r677 m678 hv675 h => ml_callV dX11_copy_47 wm_144 wb_105 hc676 (sX11_meets hv675) rfl (Nat.le_of_ble_eq_true rfl) (Nat.le_of_ble_eq_true rfl) rfl <| ml_rI (mk := ml_i) hr dX11_copy_50 (fun _ => trivial) h
def fX11_copy_95 (l0 : Nat) (m : ml_M) : Option (Int32 × ml_M) :=
    if (ml_K m l0).1 = 11 then
    ml_b2 (fX11_meets l0 (2 : Int32) m) fun r681 m682 =>
    some (r681, m682)
    else none
theorem vX11_copy_95 {E : ml_E} (hL : ml_eL E = 7) {rv : Int32} {rm : ml_M} (hr : ∀ (pc pc' : Nat) (lv : List (Nat × ml_X)), ml_d cX11_copy pc .ireturn 1 pc' → True → ml_V E "LostRoomModel" cX11_copy 4 false rm pc lv [ml_i rv]) : ∀ (l0 : Nat) (m : ml_M), fX11_copy_95 l0 m = some (rv, rm) → ml_V E "LostRoomModel" cX11_copy 4 false m 95 [(0, ml_r l0)] [] := by
  intro l0 m h
  unfold fX11_copy_95 at h
  exact ml_aload_n dX11_copy_95 0 rfl <| ml_iconst dX11_copy_96 kc_i2 <| ml_ck_of h fun hc680 h => ml_b2_of h fun r681 m682 hv679 h => ml_callV dX11_copy_97 wm_144 wb_105 hc680 (sX11_meets hv679) rfl (Nat.le_of_ble_eq_true rfl) (Nat.le_of_ble_eq_true rfl) rfl <| ml_rI (mk := ml_i) hr dX11_copy_100 (fun _ => trivial) h
def fX11_copy_136 : Nat → Nat → Int32 → Int32 → Int32 → Int32 → ml_M → Option (Int32 × ml_M)
  | 0, _, _, _, _, _, _ => none
  | fu + 1, l0, l3, l4, l5, l6, m =>
    if l5 ≤ l6 then
    some ((1 : Int32), m)
    else
    if (ml_K m l0).1 = 11 then
    ml_let (ml_R m l0 5) fun a684 =>
    ml_let (ml_R m l0 6) fun a685 =>
    if ml_in m a685 20 l6 then
    if ml_in m a684 20 ((((48 : Int32) * l3) + l4) + l6) then
    ml_let (ml_sI m a684 ((((48 : Int32) * l3) + l4) + l6).toNatClampNeg (ml_I m a685 l6.toNatClampNeg)) fun m688 =>
    (fX11_copy_136 fu) l0 l3 l4 l5 (l6 + (1 : Int32)) m688
    else none
    else none
    else none
theorem vX11_copy_136 {E : ml_E} (hL : ml_eL E = 7) {rv : Int32} {rm : ml_M} (hr : ∀ (pc pc' : Nat) (lv : List (Nat × ml_X)), ml_d cX11_copy pc .ireturn 1 pc' → True → ml_V E "LostRoomModel" cX11_copy 4 false rm pc lv [ml_i rv]) : ∀ (fu : Nat) (l0 : Nat) (l3 : Int32) (l4 : Int32) (l5 : Int32) (l6 : Int32) (m : ml_M), fX11_copy_136 fu l0 l3 l4 l5 l6 m = some (rv, rm) → ml_V E "LostRoomModel" cX11_copy 4 false m 136 [(0, ml_r l0), (3, ml_i l3), (4, ml_i l4), (5, ml_i l5), (6, ml_i l6)] [] := by
  intro fu
  induction fu with
  | zero => intro l0 l3 l4 l5 l6 m h; exact ml_none h
  | succ fu ih =>
    intro l0 l3 l4 l5 l6 m h
    have hk136 := ih
    unfold fX11_copy_136 at h
    exact ml_iload dX11_copy_136 4 rfl <| ml_iload dX11_copy_138 3 rfl <| ml_icmp_ge dX11_copy_140 h (fun _ h => ml_iconst dX11_copy_171 kc_i1 <| ml_rI (mk := ml_i) hr dX11_copy_172 (fun _ => trivial) h) (fun _ h => ml_aload_n dX11_copy_143 0 rfl <| ml_ck_of h fun hc683 h => ml_getR dX11_copy_144 wb_103 hc683 <| ml_lx (mk := ml_r) h fun a684 h => ml_bipush dX11_copy_147 kc_b48 <| ml_iload_n dX11_copy_149 1 rfl <| ml_imul dX11_copy_150 <| ml_iload dX11_copy_151 2 rfl <| ml_iadd dX11_copy_153 <| ml_iload dX11_copy_154 4 rfl <| ml_iadd dX11_copy_156 <| ml_aload_n dX11_copy_157 0 rfl <| ml_getR dX11_copy_158 wb_113 hc683 <| ml_lx (mk := ml_r) h fun a685 h => ml_iload dX11_copy_161 4 rfl <| ml_ck_of h fun hi686 h => ml_iald dX11_copy_163 hi686 <| ml_ck_of h fun hi687 h => ml_iast dX11_copy_164 hi687 <| ml_lt (m := m) rfl h fun m688 em689 h => ml_iinc (lv' := [(6, ml_i (l6 + (1 : Int32))), (0, ml_r l0), (3, ml_i l3), (4, ml_i l4), (5, ml_i l5)]) dX11_copy_165 4 rfl (congrArg (l6 + ·) kc_i1) (ml_hn hL rfl) rfl <| ml_goto dX11_copy_168 <| ml_V.sub [1, 2, 3, 4, 0] rfl (hk136 _ _ _ _ _ _ h))
def fX11_copy_133 (l0 : Nat) (l3 : Int32) (l4 : Int32) (l5 : Int32) (m : ml_M) : Option (Int32 × ml_M) :=
    fX11_copy_136 ml_fu l0 l3 l4 l5 (0 : Int32) m
theorem vX11_copy_133 {E : ml_E} (hL : ml_eL E = 7) {rv : Int32} {rm : ml_M} (hr : ∀ (pc pc' : Nat) (lv : List (Nat × ml_X)), ml_d cX11_copy pc .ireturn 1 pc' → True → ml_V E "LostRoomModel" cX11_copy 4 false rm pc lv [ml_i rv]) : ∀ (l0 : Nat) (l3 : Int32) (l4 : Int32) (l5 : Int32) (m : ml_M), fX11_copy_133 l0 l3 l4 l5 m = some (rv, rm) → ml_V E "LostRoomModel" cX11_copy 4 false m 133 [(0, ml_r l0), (3, ml_i l3), (4, ml_i l4), (5, ml_i l5)] [] := by
  intro l0 l3 l4 l5 m h
  unfold fX11_copy_133 at h
  exact ml_iconst dX11_copy_133 kc_i0 <| ml_istore (lv' := [(6, ml_i (0 : Int32)), (0, ml_r l0), (3, ml_i l3), (4, ml_i l4), (5, ml_i l5)]) dX11_copy_134 (ml_hn hL rfl) rfl <| ml_V.sub [1, 2, 3, 4, 0] rfl (vX11_copy_136 hL hr  ml_fu _ _ _ _ _ _ h)
def fX11_copy_104 : Nat → Nat → Int32 → Int32 → Int32 → Int32 → Int32 → Int32 → ml_M → Option (Int32 × ml_M)
  | 0, _, _, _, _, _, _, _, _ => none
  | fu + 1, l0, l1, l2, l3, l4, l5, l6, m =>
    if l5 ≤ l6 then
    fX11_copy_133 l0 l3 l4 l5 m
    else
    if (ml_K m l0).1 = 11 then
    ml_let (ml_R m l0 6) fun a691 =>
    ml_b1 (fX11_rowAt l0 l1 (l2 + l6) m) fun r693 =>
    if ml_in m a691 20 l6 then
    ml_let (ml_sI m a691 l6.toNatClampNeg r693) fun m695 =>
    (fX11_copy_104 fu) l0 l1 l2 l3 l4 l5 (l6 + (1 : Int32)) m695
    else none
    else none
theorem vX11_copy_104 {E : ml_E} (hL : ml_eL E = 7) {rv : Int32} {rm : ml_M} (hr : ∀ (pc pc' : Nat) (lv : List (Nat × ml_X)), ml_d cX11_copy pc .ireturn 1 pc' → True → ml_V E "LostRoomModel" cX11_copy 4 false rm pc lv [ml_i rv]) : ∀ (fu : Nat) (l0 : Nat) (l1 : Int32) (l2 : Int32) (l3 : Int32) (l4 : Int32) (l5 : Int32) (l6 : Int32) (m : ml_M), fX11_copy_104 fu l0 l1 l2 l3 l4 l5 l6 m = some (rv, rm) → ml_V E "LostRoomModel" cX11_copy 4 false m 104 [(0, ml_r l0), (1, ml_i l1), (2, ml_i l2), (3, ml_i l3), (4, ml_i l4), (5, ml_i l5), (6, ml_i l6)] [] := by
  intro fu
  induction fu with
  | zero => intro l0 l1 l2 l3 l4 l5 l6 m h; exact ml_none h
  | succ fu ih =>
    intro l0 l1 l2 l3 l4 l5 l6 m h
    have hk104 := ih
    unfold fX11_copy_104 at h
    exact ml_iload dX11_copy_104 6 rfl <| ml_iload dX11_copy_106 5 rfl <| ml_icmp_ge dX11_copy_108 h (fun _ h => ml_V.sub [0, 3, 4, 5] rfl (vX11_copy_133 hL hr  _ _ _ _ _ h)) (fun _ h => ml_aload_n dX11_copy_111 0 rfl <| ml_ck_of h fun hc690 h => ml_getR dX11_copy_112 wb_113 hc690 <| ml_lx (mk := ml_r) h fun a691 h => ml_iload dX11_copy_115 6 rfl <| ml_aload_n dX11_copy_117 0 rfl <| ml_iload_n dX11_copy_118 1 rfl <| ml_iload_n dX11_copy_119 2 rfl <| ml_iload dX11_copy_120 6 rfl <| ml_iadd dX11_copy_122 <| ml_b1_of h fun r693 hv692 h => ml_callV dX11_copy_123 wm_154 wb_109 hc690 (sX11_rowAt hv692) rfl (Nat.le_of_ble_eq_true rfl) (Nat.le_of_ble_eq_true rfl) rfl <| ml_ck_of h fun hi694 h => ml_iast dX11_copy_126 hi694 <| ml_lt (m := m) rfl h fun m695 em696 h => ml_iinc (lv' := [(6, ml_i (l6 + (1 : Int32))), (0, ml_r l0), (1, ml_i l1), (2, ml_i l2), (3, ml_i l3), (4, ml_i l4), (5, ml_i l5)]) dX11_copy_127 6 rfl (congrArg (l6 + ·) kc_i1) (ml_hn hL rfl) rfl <| ml_goto dX11_copy_130 <| ml_V.sub [1, 2, 3, 4, 5, 6, 0] rfl (hk104 _ _ _ _ _ _ _ _ h))
def fX11_copy (l0 : Nat) (l1 : Int32) (l2 : Int32) (l3 : Int32) (l4 : Int32) (l5 : Int32) (m : ml_M) : Option (Int32 × ml_M) :=
    ml_b1 (fX11_isRow l1 m) fun r698 =>
    if r698 = 0 then
    some ((-1 : Int32), m)
    else
    ml_b1 (fX11_isRow l3 m) fun r700 =>
    if r700 = 0 then
    some ((-1 : Int32), m)
    else
    if 0 ≤ l5 then
    if (ml_K m l0).1 = 11 then
    ml_let (ml_R m l0 4) fun a702 =>
    if ml_in m a702 20 l1 then
    if (ml_I m a702 l1.toNatClampNeg) < 0 then
    fX11_copy_45 l0 m
    else
    ml_let (ml_R m l0 4) fun a704 =>
    if ml_in m a704 20 l3 then
    if 0 ≤ (ml_I m a704 l3.toNatClampNeg) then
    if l2 < 0 then
    fX11_copy_95 l0 m
    else
    if l4 < 0 then
    fX11_copy_95 l0 m
    else
    ml_let (ml_R m l0 4) fun a706 =>
    if ml_in m a706 20 l1 then
    if 0 < (lg_cmp (l2.toInt64 + l5.toInt64) ((ml_I m a706 l1.toNatClampNeg).toInt64)) then
    fX11_copy_95 l0 m
    else
    ml_let (ml_R m l0 4) fun a708 =>
    if ml_in m a708 20 l3 then
    if (lg_cmp (l4.toInt64 + l5.toInt64) ((ml_I m a708 l3.toNatClampNeg).toInt64)) ≤ 0 then
    fX11_copy_104 ml_fu l0 l1 l2 l3 l4 l5 (0 : Int32) m
    else
    fX11_copy_95 l0 m
    else none
    else none
    else
    fX11_copy_45 l0 m
    else none
    else none
    else none
    else
    if (ml_K m l0).1 = 11 then
    ml_b2 (fX11_meets l0 (5 : Int32) m) fun r712 m713 =>
    some (r712, m713)
    else none
theorem wX11_copy_0 {E : ml_E} (hL : ml_eL E = 7) {rv : Int32} {rm : ml_M} (hr : ∀ (pc pc' : Nat) (lv : List (Nat × ml_X)), ml_d cX11_copy pc .ireturn 1 pc' → True → ml_V E "LostRoomModel" cX11_copy 4 false rm pc lv [ml_i rv]) : ∀ (l0 : Nat) (l1 : Int32) (l2 : Int32) (l3 : Int32) (l4 : Int32) (l5 : Int32) (m : ml_M), fX11_copy l0 l1 l2 l3 l4 l5 m = some (rv, rm) → ml_V E "LostRoomModel" cX11_copy 4 false m 0 [(0, ml_r l0), (1, ml_i l1), (2, ml_i l2), (3, ml_i l3), (4, ml_i l4), (5, ml_i l5)] [] := by
  intro l0 l1 l2 l3 l4 l5 m h
  unfold fX11_copy at h
  exact ml_iload_n dX11_copy_0 1 rfl <| ml_b1_of h fun r698 hv697 h => ml_callS dX11_copy_1 wm_140 wb_104 (sX11_isRow hv697) rfl (Nat.le_of_ble_eq_true rfl) (Nat.le_of_ble_eq_true rfl) rfl <| ml_if_eq dX11_copy_4 h (fun _ h => ml_iconst dX11_copy_14 kc_im1 <| ml_rI (mk := ml_i) hr dX11_copy_15 (fun _ => trivial) h) (fun _ h => ml_iload_n dX11_copy_7 3 rfl <| ml_b1_of h fun r700 hv699 h => ml_callS dX11_copy_8 wm_140 wb_104 (sX11_isRow hv699) rfl (Nat.le_of_ble_eq_true rfl) (Nat.le_of_ble_eq_true rfl) rfl <| ml_if_ne dX11_copy_11 h (fun _ h => ml_iload dX11_copy_16 5 rfl <| ml_if_ge dX11_copy_18 h (fun _ h => ml_aload_n dX11_copy_27 0 rfl <| ml_ck_of h fun hc701 h => ml_getR dX11_copy_28 wb_64 hc701 <| ml_lx (mk := ml_r) h fun a702 h => ml_iload_n dX11_copy_31 1 rfl <| ml_ck_of h fun hi703 h => ml_iald dX11_copy_32 hi703 <| ml_if_lt dX11_copy_33 h (fun _ h => ml_V.sub [0] rfl (vX11_copy_45 hL hr  _ _ h)) (fun _ h => ml_aload_n dX11_copy_36 0 rfl <| ml_getR dX11_copy_37 wb_64 hc701 <| ml_lx (mk := ml_r) h fun a704 h => ml_iload_n dX11_copy_40 3 rfl <| ml_ck_of h fun hi705 h => ml_iald dX11_copy_41 hi705 <| ml_if_ge dX11_copy_42 h (fun _ h => ml_iload_n dX11_copy_51 2 rfl <| ml_if_lt dX11_copy_52 h (fun _ h => ml_V.sub [0] rfl (vX11_copy_95 hL hr  _ _ h)) (fun _ h => ml_iload dX11_copy_55 4 rfl <| ml_if_lt dX11_copy_57 h (fun _ h => ml_V.sub [0] rfl (vX11_copy_95 hL hr  _ _ h)) (fun _ h => ml_iload_n dX11_copy_60 2 rfl <| ml_i2l dX11_copy_61 <| ml_iload dX11_copy_62 5 rfl <| ml_i2l dX11_copy_64 <| ml_ladd dX11_copy_65 <| ml_aload_n dX11_copy_66 0 rfl <| ml_getR dX11_copy_67 wb_64 hc701 <| ml_lx (mk := ml_r) h fun a706 h => ml_iload_n dX11_copy_70 1 rfl <| ml_ck_of h fun hi707 h => ml_iald dX11_copy_71 hi707 <| ml_i2l dX11_copy_72 <| ml_lcmp dX11_copy_73 <| ml_if_gt dX11_copy_74 h (fun _ h => ml_V.sub [0] rfl (vX11_copy_95 hL hr  _ _ h)) (fun _ h => ml_iload dX11_copy_77 4 rfl <| ml_i2l dX11_copy_79 <| ml_iload dX11_copy_80 5 rfl <| ml_i2l dX11_copy_82 <| ml_ladd dX11_copy_83 <| ml_aload_n dX11_copy_84 0 rfl <| ml_getR dX11_copy_85 wb_64 hc701 <| ml_lx (mk := ml_r) h fun a708 h => ml_iload_n dX11_copy_88 3 rfl <| ml_ck_of h fun hi709 h => ml_iald dX11_copy_89 hi709 <| ml_i2l dX11_copy_90 <| ml_lcmp dX11_copy_91 <| ml_if_le dX11_copy_92 h (fun _ h => ml_iconst dX11_copy_101 kc_i0 <| ml_istore (lv' := [(6, ml_i (0 : Int32)), (0, ml_r l0), (1, ml_i l1), (2, ml_i l2), (3, ml_i l3), (4, ml_i l4), (5, ml_i l5)]) dX11_copy_102 (ml_hn hL rfl) rfl <| ml_V.sub [1, 2, 3, 4, 5, 6, 0] rfl (vX11_copy_104 hL hr  ml_fu _ _ _ _ _ _ _ _ h)) (fun _ h => ml_V.sub [0] rfl (vX11_copy_95 hL hr  _ _ h)))))) (fun _ h => ml_V.sub [0] rfl (vX11_copy_45 hL hr  _ _ h)))) (fun _ h => ml_aload_n dX11_copy_21 0 rfl <| ml_iconst dX11_copy_22 kc_i5 <| ml_ck_of h fun hc711 h => ml_b2_of h fun r712 m713 hv710 h => ml_callV dX11_copy_23 wm_144 wb_105 hc711 (sX11_meets hv710) rfl (Nat.le_of_ble_eq_true rfl) (Nat.le_of_ble_eq_true rfl) rfl <| ml_rI (mk := ml_i) hr dX11_copy_26 (fun _ => trivial) h)) (fun _ h => ml_iconst dX11_copy_14 kc_im1 <| ml_rI (mk := ml_i) hr dX11_copy_15 (fun _ => trivial) h))
theorem sX11_copy {l0 : Nat} {l1 : Int32} {l2 : Int32} {l3 : Int32} {l4 : Int32} {l5 : Int32} {m : ml_M} {rv : Int32} {rm : ml_M} (h : fX11_copy l0 l1 l2 l3 l4 l5 m = some (rv, rm)) : ml_Sn yX11_copy cX11_copy 7 (some .int) 4 [ml_r l0, ml_i l1, ml_i l2, ml_i l3, ml_i l4, ml_i l5] m (some (ml_i rv)) rm :=
  ml_Sn_of (P := True) (ini := false) (by decide +kernel) (Nat.le_of_ble_eq_true rfl) (fun h => by cases h) (fun _ => ml_RkI rv) fun E hL hr => wX11_copy_0 hL hr _ _ _ _ _ _ _ h
theorem dX10_mean_0 : ml_d cX10_mean 0 (.iload_n 1) 1 1 := ⟨by decide +kernel, rfl⟩
theorem dX10_mean_1 : ml_d cX10_mean 1 (.invokestatic 82) 3 4 := ⟨by decide +kernel, rfl⟩
theorem dX10_mean_4 : ml_j cX10_mean 4 (.ifCond .ne) 9 7 := ⟨5, by decide +kernel, by decide, rfl⟩
theorem dX10_mean_7 : ml_d cX10_mean 7 (.iconst (-1)) 1 8 := ⟨by decide +kernel, rfl⟩
theorem dX10_mean_8 : ml_d cX10_mean 8 (.ireturn) 1 9 := ⟨by decide +kernel, rfl⟩
theorem dX10_mean_9 : ml_d cX10_mean 9 (.aload_n 0) 1 10 := ⟨by decide +kernel, rfl⟩
theorem dX10_mean_10 : ml_d cX10_mean 10 (.getfield 11) 3 13 := ⟨by decide +kernel, rfl⟩
theorem dX10_mean_13 : ml_d cX10_mean 13 (.iload_n 1) 1 14 := ⟨by decide +kernel, rfl⟩
theorem dX10_mean_14 : ml_d cX10_mean 14 (.aaload) 1 15 := ⟨by decide +kernel, rfl⟩
theorem dX10_mean_15 : ml_d cX10_mean 15 (.astore_n 2) 1 16 := ⟨by decide +kernel, rfl⟩
theorem dX10_mean_16 : ml_d cX10_mean 16 (.aload_n 2) 1 17 := ⟨by decide +kernel, rfl⟩
theorem dX10_mean_17 : ml_j cX10_mean 17 .ifnonnull 26 20 := ⟨9, by decide +kernel, by decide, rfl⟩
theorem dX10_mean_20 : ml_d cX10_mean 20 (.aload_n 0) 1 21 := ⟨by decide +kernel, rfl⟩
theorem dX10_mean_21 : ml_d cX10_mean 21 (.iconst 1) 1 22 := ⟨by decide +kernel, rfl⟩
theorem dX10_mean_22 : ml_d cX10_mean 22 (.invokevirtual 86) 3 25 := ⟨by decide +kernel, rfl⟩
theorem dX10_mean_25 : ml_d cX10_mean 25 (.ireturn) 1 26 := ⟨by decide +kernel, rfl⟩
theorem dX10_mean_26 : ml_d cX10_mean 26 (.aload_n 2) 1 27 := ⟨by decide +kernel, rfl⟩
theorem dX10_mean_27 : ml_d cX10_mean 27 (.arraylength) 1 28 := ⟨by decide +kernel, rfl⟩
theorem dX10_mean_28 : ml_j cX10_mean 28 (.ifCond .ne) 37 31 := ⟨9, by decide +kernel, by decide, rfl⟩
theorem dX10_mean_31 : ml_d cX10_mean 31 (.aload_n 0) 1 32 := ⟨by decide +kernel, rfl⟩
theorem dX10_mean_32 : ml_d cX10_mean 32 (.iconst 4) 1 33 := ⟨by decide +kernel, rfl⟩
theorem dX10_mean_33 : ml_d cX10_mean 33 (.invokevirtual 86) 3 36 := ⟨by decide +kernel, rfl⟩
theorem dX10_mean_36 : ml_d cX10_mean 36 (.ireturn) 1 37 := ⟨by decide +kernel, rfl⟩
theorem dX10_mean_37 : ml_d cX10_mean 37 (.lconst 0) 1 38 := ⟨by decide +kernel, rfl⟩
theorem dX10_mean_38 : ml_d cX10_mean 38 (.lstore_n 3) 1 39 := ⟨by decide +kernel, rfl⟩
theorem dX10_mean_39 : ml_d cX10_mean 39 (.aload_n 2) 1 40 := ⟨by decide +kernel, rfl⟩
theorem dX10_mean_40 : ml_d cX10_mean 40 (.astore 5) 2 42 := ⟨by decide +kernel, rfl⟩
theorem dX10_mean_42 : ml_d cX10_mean 42 (.aload 5) 2 44 := ⟨by decide +kernel, rfl⟩
theorem dX10_mean_44 : ml_d cX10_mean 44 (.arraylength) 1 45 := ⟨by decide +kernel, rfl⟩
theorem dX10_mean_45 : ml_d cX10_mean 45 (.istore 6) 2 47 := ⟨by decide +kernel, rfl⟩
theorem dX10_mean_47 : ml_d cX10_mean 47 (.iconst 0) 1 48 := ⟨by decide +kernel, rfl⟩
theorem dX10_mean_48 : ml_d cX10_mean 48 (.istore 7) 2 50 := ⟨by decide +kernel, rfl⟩
theorem dX10_mean_50 : ml_d cX10_mean 50 (.iload 7) 2 52 := ⟨by decide +kernel, rfl⟩
theorem dX10_mean_52 : ml_d cX10_mean 52 (.iload 6) 2 54 := ⟨by decide +kernel, rfl⟩
theorem dX10_mean_54 : ml_j cX10_mean 54 (.if_icmp .ge) 76 57 := ⟨22, by decide +kernel, by decide, rfl⟩
theorem dX10_mean_57 : ml_d cX10_mean 57 (.aload 5) 2 59 := ⟨by decide +kernel, rfl⟩
theorem dX10_mean_59 : ml_d cX10_mean 59 (.iload 7) 2 61 := ⟨by decide +kernel, rfl⟩
theorem dX10_mean_61 : ml_d cX10_mean 61 (.iaload) 1 62 := ⟨by decide +kernel, rfl⟩
theorem dX10_mean_62 : ml_d cX10_mean 62 (.istore 8) 2 64 := ⟨by decide +kernel, rfl⟩
theorem dX10_mean_64 : ml_d cX10_mean 64 (.lload_n 3) 1 65 := ⟨by decide +kernel, rfl⟩
theorem dX10_mean_65 : ml_d cX10_mean 65 (.iload 8) 2 67 := ⟨by decide +kernel, rfl⟩
theorem dX10_mean_67 : ml_d cX10_mean 67 (.i2l) 1 68 := ⟨by decide +kernel, rfl⟩
theorem dX10_mean_68 : ml_d cX10_mean 68 (.ladd) 1 69 := ⟨by decide +kernel, rfl⟩
theorem dX10_mean_69 : ml_d cX10_mean 69 (.lstore_n 3) 1 70 := ⟨by decide +kernel, rfl⟩
theorem dX10_mean_70 : ml_d cX10_mean 70 (.iinc 7 1) 3 73 := ⟨by decide +kernel, rfl⟩
theorem dX10_mean_73 : ml_j cX10_mean 73 .goto 50 76 := ⟨(-23), by decide +kernel, by decide, rfl⟩
theorem dX10_mean_76 : ml_d cX10_mean 76 (.aload_n 0) 1 77 := ⟨by decide +kernel, rfl⟩
theorem dX10_mean_77 : ml_d cX10_mean 77 (.lload_n 3) 1 78 := ⟨by decide +kernel, rfl⟩
theorem dX10_mean_78 : ml_d cX10_mean 78 (.aload_n 2) 1 79 := ⟨by decide +kernel, rfl⟩
theorem dX10_mean_79 : ml_d cX10_mean 79 (.arraylength) 1 80 := ⟨by decide +kernel, rfl⟩
theorem dX10_mean_80 : ml_d cX10_mean 80 (.i2l) 1 81 := ⟨by decide +kernel, rfl⟩
theorem dX10_mean_81 : ml_d cX10_mean 81 (.ldiv) 1 82 := ⟨by decide +kernel, rfl⟩
theorem dX10_mean_82 : ml_d cX10_mean 82 (.l2i) 1 83 := ⟨by decide +kernel, rfl⟩
theorem dX10_mean_83 : ml_d cX10_mean 83 (.invokevirtual 90) 3 86 := ⟨by decide +kernel, rfl⟩
theorem dX10_mean_86 : ml_d cX10_mean 86 (.ireturn) 1 87 := ⟨by decide +kernel, rfl⟩
def fX10_mean_76 (l0 : Nat) (l2 : Nat) (l3 : Int64) (m : ml_M) : Option (Int32 × ml_M) :=
    if (ml_K m l2).1 = 20 then
    if ¬ (Int32.ofNat (ml_K m l2).2).toInt64 = 0 then
    if (ml_K m l0).1 = 10 then
    ml_b2 (fX10_tell l0 ((l3 / (Int32.ofNat (ml_K m l2).2).toInt64).toInt32) m) fun r718 m719 =>
    some (r718, m719)
    else none
    else none
    else none
theorem vX10_mean_76 {E : ml_E} (hL : ml_eL E = 9) {rv : Int32} {rm : ml_M} (hr : ∀ (pc pc' : Nat) (lv : List (Nat × ml_X)), ml_d cX10_mean pc .ireturn 1 pc' → True → ml_V E "LostRoom" cX10_mean 4 false rm pc lv [ml_i rv]) : ∀ (l0 : Nat) (l2 : Nat) (l3 : Int64) (m : ml_M), fX10_mean_76 l0 l2 l3 m = some (rv, rm) → ml_V E "LostRoom" cX10_mean 4 false m 76 [(0, ml_r l0), (2, ml_r l2), (3, ml_l l3)] [] := by
  intro l0 l2 l3 m h
  unfold fX10_mean_76 at h
  exact ml_aload_n dX10_mean_76 0 rfl <| ml_lload_n dX10_mean_77 2 rfl <| ml_aload_n dX10_mean_78 1 rfl <| ml_ck_of h fun hc714 h => ml_alen (kd := 20) dX10_mean_79 (by decide) hc714 <| ml_i2l dX10_mean_80 <| ml_ck_of h fun hz715 h => ml_ldiv dX10_mean_81 hz715 <| ml_l2i dX10_mean_82 <| ml_ck_of h fun hc717 h => ml_b2_of h fun r718 m719 hv716 h => ml_callV dX10_mean_83 wm_149 wb_107 hc717 (sX10_tell hv716) rfl (Nat.le_of_ble_eq_true rfl) (Nat.le_of_ble_eq_true rfl) rfl <| ml_rI (mk := ml_i) hr dX10_mean_86 (fun _ => trivial) h
def fX10_mean_50 : Nat → Nat → Nat → Int64 → Nat → Int32 → Int32 → ml_M → Option (Int32 × ml_M)
  | 0, _, _, _, _, _, _, _ => none
  | fu + 1, l0, l2, l3, l5, l6, l7, m =>
    if l6 ≤ l7 then
    fX10_mean_76 l0 l2 l3 m
    else
    if ml_in m l5 20 l7 then
    ml_let (ml_I m l5 l7.toNatClampNeg) fun x721 =>
    ml_let (l3 + x721.toInt64) fun x722 =>
    (fX10_mean_50 fu) l0 l2 x722 l5 l6 (l7 + (1 : Int32)) m
    else none
theorem vX10_mean_50 {E : ml_E} (hL : ml_eL E = 9) {rv : Int32} {rm : ml_M} (hr : ∀ (pc pc' : Nat) (lv : List (Nat × ml_X)), ml_d cX10_mean pc .ireturn 1 pc' → True → ml_V E "LostRoom" cX10_mean 4 false rm pc lv [ml_i rv]) : ∀ (fu : Nat) (l0 : Nat) (l2 : Nat) (l3 : Int64) (l5 : Nat) (l6 : Int32) (l7 : Int32) (m : ml_M), fX10_mean_50 fu l0 l2 l3 l5 l6 l7 m = some (rv, rm) → ml_V E "LostRoom" cX10_mean 4 false m 50 [(0, ml_r l0), (2, ml_r l2), (3, ml_l l3), (5, ml_r l5), (6, ml_i l6), (7, ml_i l7)] [] := by
  intro fu
  induction fu with
  | zero => intro l0 l2 l3 l5 l6 l7 m h; exact ml_none h
  | succ fu ih =>
    intro l0 l2 l3 l5 l6 l7 m h
    have hk50 := ih
    unfold fX10_mean_50 at h
    exact ml_iload dX10_mean_50 5 rfl <| ml_iload dX10_mean_52 4 rfl <| ml_icmp_ge dX10_mean_54 h (fun _ h => ml_V.sub [0, 1, 2] rfl (vX10_mean_76 hL hr  _ _ _ _ h)) (fun _ h => ml_aload dX10_mean_57 3 rfl <| ml_iload dX10_mean_59 5 rfl <| ml_ck_of h fun hi720 h => ml_iald dX10_mean_61 hi720 <| ml_lx (mk := ml_i) h fun x721 h => ml_istore (lv' := [(8, ml_i x721), (0, ml_r l0), (2, ml_r l2), (3, ml_l l3), (5, ml_r l5), (6, ml_i l6), (7, ml_i l7)]) dX10_mean_62 (ml_hn hL rfl) rfl <| ml_lload_n dX10_mean_64 3 rfl <| ml_iload dX10_mean_65 0 rfl <| ml_i2l dX10_mean_67 <| ml_ladd dX10_mean_68 <| ml_lx (mk := ml_l) h fun x722 h => ml_lstore_n (lv' := [(3, ml_l x722), (8, ml_i x721), (0, ml_r l0), (2, ml_r l2), (5, ml_r l5), (6, ml_i l6), (7, ml_i l7)]) dX10_mean_69 (ml_hn hL rfl) rfl <| ml_iinc (lv' := [(7, ml_i (l7 + (1 : Int32))), (3, ml_l x722), (8, ml_i x721), (0, ml_r l0), (2, ml_r l2), (5, ml_r l5), (6, ml_i l6)]) dX10_mean_70 6 rfl (congrArg (l7 + ·) kc_i1) (ml_hn hL rfl) rfl <| ml_goto dX10_mean_73 <| ml_V.sub [3, 4, 1, 5, 6, 0] rfl (hk50 _ _ _ _ _ _ _ h))
def fX10_mean (l0 : Nat) (l1 : Int32) (m : ml_M) : Option (Int32 × ml_M) :=
    ml_b1 (fX10_isRow l1 m) fun r724 =>
    if r724 = 0 then
    some ((-1 : Int32), m)
    else
    if (ml_K m l0).1 = 10 then
    ml_let (ml_R m l0 0) fun a726 =>
    if ml_in m a726 23 l1 then
    ml_let (ml_R m a726 l1.toNatClampNeg) fun a728 =>
    if a728 = 0 then
    ml_b2 (fX10_found l0 (1 : Int32) m) fun r735 m736 =>
    some (r735, m736)
    else
    if (ml_K m a728).1 = 20 then
    if (Int32.ofNat (ml_K m a728).2) = 0 then
    ml_b2 (fX10_found l0 (4 : Int32) m) fun r732 m733 =>
    some (r732, m733)
    else
    ml_let (Int32.ofNat (ml_K m a728).2) fun x730 =>
    fX10_mean_50 ml_fu l0 a728 (0 : Int64) a728 x730 (0 : Int32) m
    else none
    else none
    else none
theorem wX10_mean_0 {E : ml_E} (hL : ml_eL E = 9) {rv : Int32} {rm : ml_M} (hr : ∀ (pc pc' : Nat) (lv : List (Nat × ml_X)), ml_d cX10_mean pc .ireturn 1 pc' → True → ml_V E "LostRoom" cX10_mean 4 false rm pc lv [ml_i rv]) : ∀ (l0 : Nat) (l1 : Int32) (m : ml_M), fX10_mean l0 l1 m = some (rv, rm) → ml_V E "LostRoom" cX10_mean 4 false m 0 [(0, ml_r l0), (1, ml_i l1)] [] := by
  intro l0 l1 m h
  unfold fX10_mean at h
  exact ml_iload_n dX10_mean_0 1 rfl <| ml_b1_of h fun r724 hv723 h => ml_callS dX10_mean_1 wm_128 wb_97 (sX10_isRow hv723) rfl (Nat.le_of_ble_eq_true rfl) (Nat.le_of_ble_eq_true rfl) rfl <| ml_if_ne dX10_mean_4 h (fun _ h => ml_aload_n dX10_mean_9 0 rfl <| ml_ck_of h fun hc725 h => ml_getR dX10_mean_10 wb_98 hc725 <| ml_lx (mk := ml_r) h fun a726 h => ml_iload_n dX10_mean_13 1 rfl <| ml_ck_of h fun hi727 h => ml_aald (kd := 23) dX10_mean_14 (by decide) hi727 <| ml_lx (mk := ml_r) h fun a728 h => ml_astore_n (lv' := [(2, ml_r a728), (0, ml_r l0), (1, ml_i l1)]) dX10_mean_15 (ml_hn hL rfl) rfl <| ml_aload_n dX10_mean_16 0 rfl <| ml_ifnonnull dX10_mean_17 h (fun _ h => ml_aload_n dX10_mean_26 0 rfl <| ml_ck_of h fun hc729 h => ml_alen (kd := 20) dX10_mean_27 (by decide) hc729 <| ml_if_ne dX10_mean_28 h (fun _ h => ml_lconst dX10_mean_37 rfl <| ml_lstore_n (lv' := [(3, ml_l (0 : Int64)), (2, ml_r a728), (0, ml_r l0), (1, ml_i l1)]) dX10_mean_38 (ml_hn hL rfl) rfl <| ml_aload_n dX10_mean_39 1 rfl <| ml_astore (lv' := [(5, ml_r a728), (3, ml_l (0 : Int64)), (2, ml_r a728), (0, ml_r l0), (1, ml_i l1)]) dX10_mean_40 (ml_hn hL rfl) rfl <| ml_aload dX10_mean_42 0 rfl <| ml_alen (kd := 20) dX10_mean_44 (by decide) hc729 <| ml_lx (mk := ml_i) h fun x730 h => ml_istore (lv' := [(6, ml_i x730), (5, ml_r a728), (3, ml_l (0 : Int64)), (2, ml_r a728), (0, ml_r l0), (1, ml_i l1)]) dX10_mean_45 (ml_hn hL rfl) rfl <| ml_iconst dX10_mean_47 kc_i0 <| ml_istore (lv' := [(7, ml_i (0 : Int32)), (6, ml_i x730), (5, ml_r a728), (3, ml_l (0 : Int64)), (2, ml_r a728), (0, ml_r l0), (1, ml_i l1)]) dX10_mean_48 (ml_hn hL rfl) rfl <| ml_V.sub [5, 4, 3, 2, 1, 0] rfl (vX10_mean_50 hL hr  ml_fu _ _ _ _ _ _ _ h)) (fun _ h => ml_aload_n dX10_mean_31 1 rfl <| ml_iconst dX10_mean_32 kc_i4 <| ml_b2_of h fun r732 m733 hv731 h => ml_callV dX10_mean_33 wm_132 wb_99 hc725 (sX10_found hv731) rfl (Nat.le_of_ble_eq_true rfl) (Nat.le_of_ble_eq_true rfl) rfl <| ml_rI (mk := ml_i) hr dX10_mean_36 (fun _ => trivial) h)) (fun _ h => ml_aload_n dX10_mean_20 1 rfl <| ml_iconst dX10_mean_21 kc_i1 <| ml_b2_of h fun r735 m736 hv734 h => ml_callV dX10_mean_22 wm_132 wb_99 hc725 (sX10_found hv734) rfl (Nat.le_of_ble_eq_true rfl) (Nat.le_of_ble_eq_true rfl) rfl <| ml_rI (mk := ml_i) hr dX10_mean_25 (fun _ => trivial) h)) (fun _ h => ml_iconst dX10_mean_7 kc_im1 <| ml_rI (mk := ml_i) hr dX10_mean_8 (fun _ => trivial) h)
theorem sX10_mean {l0 : Nat} {l1 : Int32} {m : ml_M} {rv : Int32} {rm : ml_M} (h : fX10_mean l0 l1 m = some (rv, rm)) : ml_Sn yX10_mean cX10_mean 9 (some .int) 4 [ml_r l0, ml_i l1] m (some (ml_i rv)) rm :=
  ml_Sn_of (P := True) (ini := false) (by decide +kernel) (Nat.le_of_ble_eq_true rfl) (fun h => by cases h) (fun _ => ml_RkI rv) fun E hL hr => wX10_mean_0 hL hr _ _ _ h
theorem dX11_mean_0 : ml_d cX11_mean 0 (.iload_n 1) 1 1 := ⟨by decide +kernel, rfl⟩
theorem dX11_mean_1 : ml_d cX11_mean 1 (.invokestatic 111) 3 4 := ⟨by decide +kernel, rfl⟩
theorem dX11_mean_4 : ml_j cX11_mean 4 (.ifCond .ne) 9 7 := ⟨5, by decide +kernel, by decide, rfl⟩
theorem dX11_mean_7 : ml_d cX11_mean 7 (.iconst (-1)) 1 8 := ⟨by decide +kernel, rfl⟩
theorem dX11_mean_8 : ml_d cX11_mean 8 (.ireturn) 1 9 := ⟨by decide +kernel, rfl⟩
theorem dX11_mean_9 : ml_d cX11_mean 9 (.aload_n 0) 1 10 := ⟨by decide +kernel, rfl⟩
theorem dX11_mean_10 : ml_d cX11_mean 10 (.getfield 13) 3 13 := ⟨by decide +kernel, rfl⟩
theorem dX11_mean_13 : ml_d cX11_mean 13 (.iload_n 1) 1 14 := ⟨by decide +kernel, rfl⟩
theorem dX11_mean_14 : ml_d cX11_mean 14 (.iaload) 1 15 := ⟨by decide +kernel, rfl⟩
theorem dX11_mean_15 : ml_j cX11_mean 15 (.ifCond .ge) 24 18 := ⟨9, by decide +kernel, by decide, rfl⟩
theorem dX11_mean_18 : ml_d cX11_mean 18 (.aload_n 0) 1 19 := ⟨by decide +kernel, rfl⟩
theorem dX11_mean_19 : ml_d cX11_mean 19 (.iconst 1) 1 20 := ⟨by decide +kernel, rfl⟩
theorem dX11_mean_20 : ml_d cX11_mean 20 (.invokevirtual 115) 3 23 := ⟨by decide +kernel, rfl⟩
theorem dX11_mean_23 : ml_d cX11_mean 23 (.ireturn) 1 24 := ⟨by decide +kernel, rfl⟩
theorem dX11_mean_24 : ml_d cX11_mean 24 (.aload_n 0) 1 25 := ⟨by decide +kernel, rfl⟩
theorem dX11_mean_25 : ml_d cX11_mean 25 (.getfield 13) 3 28 := ⟨by decide +kernel, rfl⟩
theorem dX11_mean_28 : ml_d cX11_mean 28 (.iload_n 1) 1 29 := ⟨by decide +kernel, rfl⟩
theorem dX11_mean_29 : ml_d cX11_mean 29 (.iaload) 1 30 := ⟨by decide +kernel, rfl⟩
theorem dX11_mean_30 : ml_j cX11_mean 30 (.ifCond .ne) 39 33 := ⟨9, by decide +kernel, by decide, rfl⟩
theorem dX11_mean_33 : ml_d cX11_mean 33 (.aload_n 0) 1 34 := ⟨by decide +kernel, rfl⟩
theorem dX11_mean_34 : ml_d cX11_mean 34 (.iconst 4) 1 35 := ⟨by decide +kernel, rfl⟩
theorem dX11_mean_35 : ml_d cX11_mean 35 (.invokevirtual 115) 3 38 := ⟨by decide +kernel, rfl⟩
theorem dX11_mean_38 : ml_d cX11_mean 38 (.ireturn) 1 39 := ⟨by decide +kernel, rfl⟩
theorem dX11_mean_39 : ml_d cX11_mean 39 (.lconst 0) 1 40 := ⟨by decide +kernel, rfl⟩
theorem dX11_mean_40 : ml_d cX11_mean 40 (.lstore_n 2) 1 41 := ⟨by decide +kernel, rfl⟩
theorem dX11_mean_41 : ml_d cX11_mean 41 (.iconst 0) 1 42 := ⟨by decide +kernel, rfl⟩
theorem dX11_mean_42 : ml_d cX11_mean 42 (.istore 4) 2 44 := ⟨by decide +kernel, rfl⟩
theorem dX11_mean_44 : ml_d cX11_mean 44 (.iload 4) 2 46 := ⟨by decide +kernel, rfl⟩
theorem dX11_mean_46 : ml_d cX11_mean 46 (.aload_n 0) 1 47 := ⟨by decide +kernel, rfl⟩
theorem dX11_mean_47 : ml_d cX11_mean 47 (.getfield 13) 3 50 := ⟨by decide +kernel, rfl⟩
theorem dX11_mean_50 : ml_d cX11_mean 50 (.iload_n 1) 1 51 := ⟨by decide +kernel, rfl⟩
theorem dX11_mean_51 : ml_d cX11_mean 51 (.iaload) 1 52 := ⟨by decide +kernel, rfl⟩
theorem dX11_mean_52 : ml_j cX11_mean 52 (.if_icmp .ge) 72 55 := ⟨20, by decide +kernel, by decide, rfl⟩
theorem dX11_mean_55 : ml_d cX11_mean 55 (.lload_n 2) 1 56 := ⟨by decide +kernel, rfl⟩
theorem dX11_mean_56 : ml_d cX11_mean 56 (.aload_n 0) 1 57 := ⟨by decide +kernel, rfl⟩
theorem dX11_mean_57 : ml_d cX11_mean 57 (.iload_n 1) 1 58 := ⟨by decide +kernel, rfl⟩
theorem dX11_mean_58 : ml_d cX11_mean 58 (.iload 4) 2 60 := ⟨by decide +kernel, rfl⟩
theorem dX11_mean_60 : ml_d cX11_mean 60 (.invokevirtual 119) 3 63 := ⟨by decide +kernel, rfl⟩
theorem dX11_mean_63 : ml_d cX11_mean 63 (.i2l) 1 64 := ⟨by decide +kernel, rfl⟩
theorem dX11_mean_64 : ml_d cX11_mean 64 (.ladd) 1 65 := ⟨by decide +kernel, rfl⟩
theorem dX11_mean_65 : ml_d cX11_mean 65 (.lstore_n 2) 1 66 := ⟨by decide +kernel, rfl⟩
theorem dX11_mean_66 : ml_d cX11_mean 66 (.iinc 4 1) 3 69 := ⟨by decide +kernel, rfl⟩
theorem dX11_mean_69 : ml_j cX11_mean 69 .goto 44 72 := ⟨(-25), by decide +kernel, by decide, rfl⟩
theorem dX11_mean_72 : ml_d cX11_mean 72 (.aload_n 0) 1 73 := ⟨by decide +kernel, rfl⟩
theorem dX11_mean_73 : ml_d cX11_mean 73 (.lload_n 2) 1 74 := ⟨by decide +kernel, rfl⟩
theorem dX11_mean_74 : ml_d cX11_mean 74 (.aload_n 0) 1 75 := ⟨by decide +kernel, rfl⟩
theorem dX11_mean_75 : ml_d cX11_mean 75 (.getfield 13) 3 78 := ⟨by decide +kernel, rfl⟩
theorem dX11_mean_78 : ml_d cX11_mean 78 (.iload_n 1) 1 79 := ⟨by decide +kernel, rfl⟩
theorem dX11_mean_79 : ml_d cX11_mean 79 (.iaload) 1 80 := ⟨by decide +kernel, rfl⟩
theorem dX11_mean_80 : ml_d cX11_mean 80 (.i2l) 1 81 := ⟨by decide +kernel, rfl⟩
theorem dX11_mean_81 : ml_d cX11_mean 81 (.ldiv) 1 82 := ⟨by decide +kernel, rfl⟩
theorem dX11_mean_82 : ml_d cX11_mean 82 (.l2i) 1 83 := ⟨by decide +kernel, rfl⟩
theorem dX11_mean_83 : ml_d cX11_mean 83 (.iconst 1) 1 84 := ⟨by decide +kernel, rfl⟩
theorem dX11_mean_84 : ml_d cX11_mean 84 (.invokevirtual 123) 3 87 := ⟨by decide +kernel, rfl⟩
theorem dX11_mean_87 : ml_d cX11_mean 87 (.ireturn) 1 88 := ⟨by decide +kernel, rfl⟩
def fX11_mean_72 (l0 : Nat) (l1 : Int32) (l2 : Int64) (m : ml_M) : Option (Int32 × ml_M) :=
    if (ml_K m l0).1 = 11 then
    ml_let (ml_R m l0 4) fun a738 =>
    if ml_in m a738 20 l1 then
    if ¬ (ml_I m a738 l1.toNatClampNeg).toInt64 = 0 then
    ml_b2 (fX11_tells l0 ((l2 / (ml_I m a738 l1.toNatClampNeg).toInt64).toInt32) (1 : Int32) m) fun r742 m743 =>
    some (r742, m743)
    else none
    else none
    else none
theorem vX11_mean_72 {E : ml_E} (hL : ml_eL E = 5) {rv : Int32} {rm : ml_M} (hr : ∀ (pc pc' : Nat) (lv : List (Nat × ml_X)), ml_d cX11_mean pc .ireturn 1 pc' → True → ml_V E "LostRoomModel" cX11_mean 4 false rm pc lv [ml_i rv]) : ∀ (l0 : Nat) (l1 : Int32) (l2 : Int64) (m : ml_M), fX11_mean_72 l0 l1 l2 m = some (rv, rm) → ml_V E "LostRoomModel" cX11_mean 4 false m 72 [(0, ml_r l0), (1, ml_i l1), (2, ml_l l2)] [] := by
  intro l0 l1 l2 m h
  unfold fX11_mean_72 at h
  exact ml_aload_n dX11_mean_72 0 rfl <| ml_lload_n dX11_mean_73 2 rfl <| ml_aload_n dX11_mean_74 0 rfl <| ml_ck_of h fun hc737 h => ml_getR dX11_mean_75 wb_64 hc737 <| ml_lx (mk := ml_r) h fun a738 h => ml_iload_n dX11_mean_78 1 rfl <| ml_ck_of h fun hi739 h => ml_iald dX11_mean_79 hi739 <| ml_i2l dX11_mean_80 <| ml_ck_of h fun hz740 h => ml_ldiv dX11_mean_81 hz740 <| ml_l2i dX11_mean_82 <| ml_iconst dX11_mean_83 kc_i1 <| ml_b2_of h fun r742 m743 hv741 h => ml_callV dX11_mean_84 wm_158 wb_110 hc737 (sX11_tells hv741) rfl (Nat.le_of_ble_eq_true rfl) (Nat.le_of_ble_eq_true rfl) rfl <| ml_rI (mk := ml_i) hr dX11_mean_87 (fun _ => trivial) h
def fX11_mean_44 : Nat → Nat → Int32 → Int64 → Int32 → ml_M → Option (Int32 × ml_M)
  | 0, _, _, _, _, _ => none
  | fu + 1, l0, l1, l2, l4, m =>
    if (ml_K m l0).1 = 11 then
    ml_let (ml_R m l0 4) fun a745 =>
    if ml_in m a745 20 l1 then
    if (ml_I m a745 l1.toNatClampNeg) ≤ l4 then
    fX11_mean_72 l0 l1 l2 m
    else
    ml_b1 (fX11_rowAt l0 l1 l4 m) fun r748 =>
    ml_let (l2 + r748.toInt64) fun x749 =>
    (fX11_mean_44 fu) l0 l1 x749 (l4 + (1 : Int32)) m
    else none
    else none
theorem vX11_mean_44 {E : ml_E} (hL : ml_eL E = 5) {rv : Int32} {rm : ml_M} (hr : ∀ (pc pc' : Nat) (lv : List (Nat × ml_X)), ml_d cX11_mean pc .ireturn 1 pc' → True → ml_V E "LostRoomModel" cX11_mean 4 false rm pc lv [ml_i rv]) : ∀ (fu : Nat) (l0 : Nat) (l1 : Int32) (l2 : Int64) (l4 : Int32) (m : ml_M), fX11_mean_44 fu l0 l1 l2 l4 m = some (rv, rm) → ml_V E "LostRoomModel" cX11_mean 4 false m 44 [(0, ml_r l0), (1, ml_i l1), (2, ml_l l2), (4, ml_i l4)] [] := by
  intro fu
  induction fu with
  | zero => intro l0 l1 l2 l4 m h; exact ml_none h
  | succ fu ih =>
    intro l0 l1 l2 l4 m h
    have hk44 := ih
    unfold fX11_mean_44 at h
    exact ml_iload dX11_mean_44 3 rfl <| ml_aload_n dX11_mean_46 0 rfl <| ml_ck_of h fun hc744 h => ml_getR dX11_mean_47 wb_64 hc744 <| ml_lx (mk := ml_r) h fun a745 h => ml_iload_n dX11_mean_50 1 rfl <| ml_ck_of h fun hi746 h => ml_iald dX11_mean_51 hi746 <| ml_icmp_ge dX11_mean_52 h (fun _ h => ml_V.sub [0, 1, 2] rfl (vX11_mean_72 hL hr  _ _ _ _ h)) (fun _ h => ml_lload_n dX11_mean_55 2 rfl <| ml_aload_n dX11_mean_56 0 rfl <| ml_iload_n dX11_mean_57 1 rfl <| ml_iload dX11_mean_58 3 rfl <| ml_b1_of h fun r748 hv747 h => ml_callV dX11_mean_60 wm_154 wb_109 hc744 (sX11_rowAt hv747) rfl (Nat.le_of_ble_eq_true rfl) (Nat.le_of_ble_eq_true rfl) rfl <| ml_i2l dX11_mean_63 <| ml_ladd dX11_mean_64 <| ml_lx (mk := ml_l) h fun x749 h => ml_lstore_n (lv' := [(2, ml_l x749), (0, ml_r l0), (1, ml_i l1), (4, ml_i l4)]) dX11_mean_65 (ml_hn hL rfl) rfl <| ml_iinc (lv' := [(4, ml_i (l4 + (1 : Int32))), (2, ml_l x749), (0, ml_r l0), (1, ml_i l1)]) dX11_mean_66 3 rfl (congrArg (l4 + ·) kc_i1) (ml_hn hL rfl) rfl <| ml_goto dX11_mean_69 <| ml_V.sub [2, 3, 1, 0] rfl (hk44 _ _ _ _ _ h))
def fX11_mean (l0 : Nat) (l1 : Int32) (m : ml_M) : Option (Int32 × ml_M) :=
    ml_b1 (fX11_isRow l1 m) fun r751 =>
    if r751 = 0 then
    some ((-1 : Int32), m)
    else
    if (ml_K m l0).1 = 11 then
    ml_let (ml_R m l0 4) fun a753 =>
    if ml_in m a753 20 l1 then
    if 0 ≤ (ml_I m a753 l1.toNatClampNeg) then
    ml_let (ml_R m l0 4) fun a755 =>
    if ml_in m a755 20 l1 then
    if (ml_I m a755 l1.toNatClampNeg) = 0 then
    ml_b2 (fX11_meets l0 (4 : Int32) m) fun r758 m759 =>
    some (r758, m759)
    else
    fX11_mean_44 ml_fu l0 l1 (0 : Int64) (0 : Int32) m
    else none
    else
    ml_b2 (fX11_meets l0 (1 : Int32) m) fun r761 m762 =>
    some (r761, m762)
    else none
    else none
theorem wX11_mean_0 {E : ml_E} (hL : ml_eL E = 5) {rv : Int32} {rm : ml_M} (hr : ∀ (pc pc' : Nat) (lv : List (Nat × ml_X)), ml_d cX11_mean pc .ireturn 1 pc' → True → ml_V E "LostRoomModel" cX11_mean 4 false rm pc lv [ml_i rv]) : ∀ (l0 : Nat) (l1 : Int32) (m : ml_M), fX11_mean l0 l1 m = some (rv, rm) → ml_V E "LostRoomModel" cX11_mean 4 false m 0 [(0, ml_r l0), (1, ml_i l1)] [] := by
  intro l0 l1 m h
  unfold fX11_mean at h
  exact ml_iload_n dX11_mean_0 1 rfl <| ml_b1_of h fun r751 hv750 h => ml_callS dX11_mean_1 wm_140 wb_104 (sX11_isRow hv750) rfl (Nat.le_of_ble_eq_true rfl) (Nat.le_of_ble_eq_true rfl) rfl <| ml_if_ne dX11_mean_4 h (fun _ h => ml_aload_n dX11_mean_9 0 rfl <| ml_ck_of h fun hc752 h => ml_getR dX11_mean_10 wb_64 hc752 <| ml_lx (mk := ml_r) h fun a753 h => ml_iload_n dX11_mean_13 1 rfl <| ml_ck_of h fun hi754 h => ml_iald dX11_mean_14 hi754 <| ml_if_ge dX11_mean_15 h (fun _ h => ml_aload_n dX11_mean_24 0 rfl <| ml_getR dX11_mean_25 wb_64 hc752 <| ml_lx (mk := ml_r) h fun a755 h => ml_iload_n dX11_mean_28 1 rfl <| ml_ck_of h fun hi756 h => ml_iald dX11_mean_29 hi756 <| ml_if_ne dX11_mean_30 h (fun _ h => ml_lconst dX11_mean_39 rfl <| ml_lstore_n (lv' := [(2, ml_l (0 : Int64)), (0, ml_r l0), (1, ml_i l1)]) dX11_mean_40 (ml_hn hL rfl) rfl <| ml_iconst dX11_mean_41 kc_i0 <| ml_istore (lv' := [(4, ml_i (0 : Int32)), (2, ml_l (0 : Int64)), (0, ml_r l0), (1, ml_i l1)]) dX11_mean_42 (ml_hn hL rfl) rfl <| ml_V.sub [2, 3, 1, 0] rfl (vX11_mean_44 hL hr  ml_fu _ _ _ _ _ h)) (fun _ h => ml_aload_n dX11_mean_33 0 rfl <| ml_iconst dX11_mean_34 kc_i4 <| ml_b2_of h fun r758 m759 hv757 h => ml_callV dX11_mean_35 wm_144 wb_105 hc752 (sX11_meets hv757) rfl (Nat.le_of_ble_eq_true rfl) (Nat.le_of_ble_eq_true rfl) rfl <| ml_rI (mk := ml_i) hr dX11_mean_38 (fun _ => trivial) h)) (fun _ h => ml_aload_n dX11_mean_18 0 rfl <| ml_iconst dX11_mean_19 kc_i1 <| ml_b2_of h fun r761 m762 hv760 h => ml_callV dX11_mean_20 wm_144 wb_105 hc752 (sX11_meets hv760) rfl (Nat.le_of_ble_eq_true rfl) (Nat.le_of_ble_eq_true rfl) rfl <| ml_rI (mk := ml_i) hr dX11_mean_23 (fun _ => trivial) h)) (fun _ h => ml_iconst dX11_mean_7 kc_im1 <| ml_rI (mk := ml_i) hr dX11_mean_8 (fun _ => trivial) h)
theorem sX11_mean {l0 : Nat} {l1 : Int32} {m : ml_M} {rv : Int32} {rm : ml_M} (h : fX11_mean l0 l1 m = some (rv, rm)) : ml_Sn yX11_mean cX11_mean 5 (some .int) 4 [ml_r l0, ml_i l1] m (some (ml_i rv)) rm :=
  ml_Sn_of (P := True) (ini := false) (by decide +kernel) (Nat.le_of_ble_eq_true rfl) (fun h => by cases h) (fun _ => ml_RkI rv) fun E hL hr => wX11_mean_0 hL hr _ _ _ h
theorem dX10_isText_0 : ml_d cX10_isText 0 (.iload_n 0) 1 1 := ⟨by decide +kernel, rfl⟩
theorem dX10_isText_1 : ml_d cX10_isText 1 (.iconst 0) 1 2 := ⟨by decide +kernel, rfl⟩
theorem dX10_isText_2 : ml_d cX10_isText 2 (.iconst 3) 1 3 := ⟨by decide +kernel, rfl⟩
theorem dX10_isText_3 : ml_d cX10_isText 3 (.invokestatic 138) 3 6 := ⟨by decide +kernel, rfl⟩
theorem dX10_isText_6 : ml_d cX10_isText 6 (.ireturn) 1 7 := ⟨by decide +kernel, rfl⟩
def fX10_isText (l0 : Int32) (m : ml_M) : Option Int32 :=
    ml_b1 (fX10_within l0 (0 : Int32) (3 : Int32) m) fun r764 =>
    if r764 = 0 ∨ r764 = 1 then some r764 else none
theorem wX10_isText_0 {E : ml_E} (hL : ml_eL E = 1) {rv : Int32} {m : ml_M} (hr : ∀ (pc pc' : Nat) (lv : List (Nat × ml_X)), ml_d cX10_isText pc .ireturn 1 pc' → (rv = 0 ∨ rv = 1) → ml_V E "LostRoom" cX10_isText 3 false m pc lv [ml_i rv]) : ∀ (l0 : Int32), fX10_isText l0 m = some rv → ml_V E "LostRoom" cX10_isText 3 false m 0 [(0, ml_i l0)] [] := by
  intro l0 h
  unfold fX10_isText at h
  exact ml_iload_n dX10_isText_0 0 rfl <| ml_iconst dX10_isText_1 kc_i0 <| ml_iconst dX10_isText_2 kc_i3 <| ml_b1_of h fun r764 hv763 h => ml_callS dX10_isText_3 wm_124 wb_94 (sX10_within hv763) rfl (Nat.le_of_ble_eq_true rfl) (Nat.le_of_ble_eq_true rfl) rfl <| ml_ck_of h fun hz765 h => ml_rp (mk := ml_i) hr dX10_isText_6 (fun e => e ▸ hz765) h
theorem sX10_isText {l0 : Int32} {m : ml_M} {rv : Int32} (h : fX10_isText l0 m = some rv) : ml_Sn yX10_isText cX10_isText 1 (some .boolean) 3 [ml_i l0] m (some (ml_i rv)) m :=
  ml_Sn_of (P := (rv = 0 ∨ rv = 1)) (ini := false) (by decide +kernel) (Nat.le_of_ble_eq_true rfl) (fun h => by cases h) (fun hz => ml_RkZ rv hz) fun E hL hr => wX10_isText_0 hL hr _ h
theorem dX10_text_0 : ml_d cX10_text 0 (.iload_n 1) 1 1 := ⟨by decide +kernel, rfl⟩
theorem dX10_text_1 : ml_d cX10_text 1 (.invokestatic 103) 3 4 := ⟨by decide +kernel, rfl⟩
theorem dX10_text_4 : ml_j cX10_text 4 (.ifCond .eq) 13 7 := ⟨9, by decide +kernel, by decide, rfl⟩
theorem dX10_text_7 : ml_d cX10_text 7 (.iload_n 2) 1 8 := ⟨by decide +kernel, rfl⟩
theorem dX10_text_8 : ml_d cX10_text 8 (.bipush 120) 2 10 := ⟨by decide +kernel, rfl⟩
theorem dX10_text_10 : ml_j cX10_text 10 (.if_icmp .le) 15 13 := ⟨5, by decide +kernel, by decide, rfl⟩
theorem dX10_text_13 : ml_d cX10_text 13 (.iconst (-1)) 1 14 := ⟨by decide +kernel, rfl⟩
theorem dX10_text_14 : ml_d cX10_text 14 (.ireturn) 1 15 := ⟨by decide +kernel, rfl⟩
theorem dX10_text_15 : ml_d cX10_text 15 (.iload_n 2) 1 16 := ⟨by decide +kernel, rfl⟩
theorem dX10_text_16 : ml_j cX10_text 16 (.ifCond .ge) 25 19 := ⟨9, by decide +kernel, by decide, rfl⟩
theorem dX10_text_19 : ml_d cX10_text 19 (.aload_n 0) 1 20 := ⟨by decide +kernel, rfl⟩
theorem dX10_text_20 : ml_d cX10_text 20 (.iconst 5) 1 21 := ⟨by decide +kernel, rfl⟩
theorem dX10_text_21 : ml_d cX10_text 21 (.invokevirtual 86) 3 24 := ⟨by decide +kernel, rfl⟩
theorem dX10_text_24 : ml_d cX10_text 24 (.ireturn) 1 25 := ⟨by decide +kernel, rfl⟩
theorem dX10_text_25 : ml_d cX10_text 25 (.iload_n 2) 1 26 := ⟨by decide +kernel, rfl⟩
theorem dX10_text_26 : ml_d cX10_text 26 (.newarray .byte) 2 28 := ⟨by decide +kernel, rfl⟩
theorem dX10_text_28 : ml_d cX10_text 28 (.astore_n 3) 1 29 := ⟨by decide +kernel, rfl⟩
theorem dX10_text_29 : ml_d cX10_text 29 (.aload_n 3) 1 30 := ⟨by decide +kernel, rfl⟩
theorem dX10_text_30 : ml_d cX10_text 30 (.bipush 32) 2 32 := ⟨by decide +kernel, rfl⟩
theorem dX10_text_32 : ml_d cX10_text 32 (.invokestatic 106) 3 35 := ⟨by decide +kernel, rfl⟩
theorem dX10_text_35 : ml_d cX10_text 35 (.aload_n 0) 1 36 := ⟨by decide +kernel, rfl⟩
theorem dX10_text_36 : ml_d cX10_text 36 (.getfield 17) 3 39 := ⟨by decide +kernel, rfl⟩
theorem dX10_text_39 : ml_d cX10_text 39 (.iload_n 1) 1 40 := ⟨by decide +kernel, rfl⟩
theorem dX10_text_40 : ml_d cX10_text 40 (.aload_n 3) 1 41 := ⟨by decide +kernel, rfl⟩
theorem dX10_text_41 : ml_d cX10_text 41 (.aastore) 1 42 := ⟨by decide +kernel, rfl⟩
theorem dX10_text_42 : ml_d cX10_text 42 (.iload_n 2) 1 43 := ⟨by decide +kernel, rfl⟩
theorem dX10_text_43 : ml_d cX10_text 43 (.ireturn) 1 44 := ⟨by decide +kernel, rfl⟩
def fX10_text (l0 : Nat) (l1 : Int32) (l2 : Int32) (m : ml_M) : Option (Int32 × ml_M) :=
    ml_b1 (fX10_isText l1 m) fun r767 =>
    if r767 = 0 then
    some ((-1 : Int32), m)
    else
    if l2 ≤ (120 : Int32) then
    if 0 ≤ l2 then
    if ml_len l2 then
    ml_let (ml_n m + 1) fun a769 =>
    ml_let (ml_al m 21 l2.toNatClampNeg l2.toNatClampNeg) fun m770 =>
    ml_b1 (fJ7_fill_031fb a769 (32 : Int32) m770) fun m774 =>
    if (ml_K m774 l0).1 = 10 then
    ml_let (ml_R m774 l0 1) fun a776 =>
    if (ml_K m774 a769).1 = 21 then
    if ml_in m774 a776 24 l1 then
    ml_let (ml_sR m774 a776 l1.toNatClampNeg a769) fun m779 =>
    some (l2, m779)
    else none
    else none
    else none
    else none
    else
    if (ml_K m l0).1 = 10 then
    ml_b2 (fX10_found l0 (5 : Int32) m) fun r783 m784 =>
    some (r783, m784)
    else none
    else
    some ((-1 : Int32), m)
theorem wX10_text_0 {E : ml_E} (hL : ml_eL E = 4) {rv : Int32} {rm : ml_M} (hr : ∀ (pc pc' : Nat) (lv : List (Nat × ml_X)), ml_d cX10_text pc .ireturn 1 pc' → True → ml_V E "LostRoom" cX10_text 4 false rm pc lv [ml_i rv]) : ∀ (l0 : Nat) (l1 : Int32) (l2 : Int32) (m : ml_M), fX10_text l0 l1 l2 m = some (rv, rm) → ml_V E "LostRoom" cX10_text 4 false m 0 [(0, ml_r l0), (1, ml_i l1), (2, ml_i l2)] [] := by
  intro l0 l1 l2 m h
  unfold fX10_text at h
  exact ml_iload_n dX10_text_0 1 rfl <| ml_b1_of h fun r767 hv766 h => ml_callS dX10_text_1 wm_165 wb_114 (sX10_isText hv766) rfl (Nat.le_of_ble_eq_true rfl) (Nat.le_of_ble_eq_true rfl) rfl <| ml_if_eq dX10_text_4 h (fun _ h => ml_iconst dX10_text_13 kc_im1 <| ml_rI (mk := ml_i) hr dX10_text_14 (fun _ => trivial) h) (fun _ h => ml_iload_n dX10_text_7 2 rfl <| ml_bipush dX10_text_8 kc_b120 <| ml_icmp_le dX10_text_10 h (fun _ h => ml_iload_n dX10_text_15 2 rfl <| ml_if_ge dX10_text_16 h (fun _ h => ml_iload_n dX10_text_25 2 rfl <| ml_ck_of h fun hl768 h => ml_newAs (kd := 21) dX10_text_26 wb_41 hl768 h fun a769 m770 hn771 hc772 h => ml_astore_n (lv' := [(3, ml_r a769), (0, ml_r l0), (1, ml_i l1), (2, ml_i l2)]) dX10_text_28 (ml_hn hL rfl) rfl <| ml_aload_n dX10_text_29 0 rfl <| ml_bipush dX10_text_30 kc_b32 <| ml_b1_of h fun m774 hv773 h => ml_callS dX10_text_32 wm_169 wb_115 (sJ7_fill_031fb hv773) rfl (Nat.le_of_ble_eq_true rfl) (Nat.le_of_ble_eq_true rfl) rfl <| ml_aload_n dX10_text_35 1 rfl <| ml_ck_of h fun hc775 h => ml_getR dX10_text_36 wb_116 hc775 <| ml_lx (mk := ml_r) h fun a776 h => ml_iload_n dX10_text_39 2 rfl <| ml_aload_n dX10_text_40 0 rfl <| ml_ck_of h fun hc778 h => ml_ck_of h fun hi777 h => ml_aastA (kd := 24) (ka := 21) dX10_text_41 (by decide) hi777 hc778 <| ml_lt (m := m774) rfl h fun m779 em780 h => ml_iload_n dX10_text_42 3 rfl <| ml_rI (mk := ml_i) hr dX10_text_43 (fun _ => trivial) h) (fun _ h => ml_aload_n dX10_text_19 0 rfl <| ml_iconst dX10_text_20 kc_i5 <| ml_ck_of h fun hc782 h => ml_b2_of h fun r783 m784 hv781 h => ml_callV dX10_text_21 wm_132 wb_99 hc782 (sX10_found hv781) rfl (Nat.le_of_ble_eq_true rfl) (Nat.le_of_ble_eq_true rfl) rfl <| ml_rI (mk := ml_i) hr dX10_text_24 (fun _ => trivial) h)) (fun _ h => ml_iconst dX10_text_13 kc_im1 <| ml_rI (mk := ml_i) hr dX10_text_14 (fun _ => trivial) h))
theorem sX10_text {l0 : Nat} {l1 : Int32} {l2 : Int32} {m : ml_M} {rv : Int32} {rm : ml_M} (h : fX10_text l0 l1 l2 m = some (rv, rm)) : ml_Sn yX10_text cX10_text 4 (some .int) 4 [ml_r l0, ml_i l1, ml_i l2] m (some (ml_i rv)) rm :=
  ml_Sn_of (P := True) (ini := false) (by decide +kernel) (Nat.le_of_ble_eq_true rfl) (fun h => by cases h) (fun _ => ml_RkI rv) fun E hL hr => wX10_text_0 hL hr _ _ _ _ h
theorem dX11_isText_0 : ml_d cX11_isText 0 (.iload_n 0) 1 1 := ⟨by decide +kernel, rfl⟩
theorem dX11_isText_1 : ml_d cX11_isText 1 (.iconst 0) 1 2 := ⟨by decide +kernel, rfl⟩
theorem dX11_isText_2 : ml_d cX11_isText 2 (.iconst 3) 1 3 := ⟨by decide +kernel, rfl⟩
theorem dX11_isText_3 : ml_d cX11_isText 3 (.invokestatic 100) 3 6 := ⟨by decide +kernel, rfl⟩
theorem dX11_isText_6 : ml_d cX11_isText 6 (.ireturn) 1 7 := ⟨by decide +kernel, rfl⟩
def fX11_isText (l0 : Int32) (m : ml_M) : Option Int32 :=
    ml_b1 (fX11_in l0 (0 : Int32) (3 : Int32) m) fun r786 =>
    if r786 = 0 ∨ r786 = 1 then some r786 else none
theorem wX11_isText_0 {E : ml_E} (hL : ml_eL E = 1) {rv : Int32} {m : ml_M} (hr : ∀ (pc pc' : Nat) (lv : List (Nat × ml_X)), ml_d cX11_isText pc .ireturn 1 pc' → (rv = 0 ∨ rv = 1) → ml_V E "LostRoomModel" cX11_isText 3 false m pc lv [ml_i rv]) : ∀ (l0 : Int32), fX11_isText l0 m = some rv → ml_V E "LostRoomModel" cX11_isText 3 false m 0 [(0, ml_i l0)] [] := by
  intro l0 h
  unfold fX11_isText at h
  exact ml_iload_n dX11_isText_0 0 rfl <| ml_iconst dX11_isText_1 kc_i0 <| ml_iconst dX11_isText_2 kc_i3 <| ml_b1_of h fun r786 hv785 h => ml_callS dX11_isText_3 wm_136 wb_100 (sX11_in hv785) rfl (Nat.le_of_ble_eq_true rfl) (Nat.le_of_ble_eq_true rfl) rfl <| ml_ck_of h fun hz787 h => ml_rp (mk := ml_i) hr dX11_isText_6 (fun e => e ▸ hz787) h
theorem sX11_isText {l0 : Int32} {m : ml_M} {rv : Int32} (h : fX11_isText l0 m = some rv) : ml_Sn yX11_isText cX11_isText 1 (some .boolean) 3 [ml_i l0] m (some (ml_i rv)) m :=
  ml_Sn_of (P := (rv = 0 ∨ rv = 1)) (ini := false) (by decide +kernel) (Nat.le_of_ble_eq_true rfl) (fun h => by cases h) (fun hz => ml_RkZ rv hz) fun E hL hr => wX11_isText_0 hL hr _ h
theorem dX11_text_0 : ml_d cX11_text 0 (.iload_n 1) 1 1 := ⟨by decide +kernel, rfl⟩
theorem dX11_text_1 : ml_d cX11_text 1 (.invokestatic 126) 3 4 := ⟨by decide +kernel, rfl⟩
theorem dX11_text_4 : ml_j cX11_text 4 (.ifCond .eq) 13 7 := ⟨9, by decide +kernel, by decide, rfl⟩
theorem dX11_text_7 : ml_d cX11_text 7 (.iload_n 2) 1 8 := ⟨by decide +kernel, rfl⟩
theorem dX11_text_8 : ml_d cX11_text 8 (.bipush 120) 2 10 := ⟨by decide +kernel, rfl⟩
theorem dX11_text_10 : ml_j cX11_text 10 (.if_icmp .le) 15 13 := ⟨5, by decide +kernel, by decide, rfl⟩
theorem dX11_text_13 : ml_d cX11_text 13 (.iconst (-1)) 1 14 := ⟨by decide +kernel, rfl⟩
theorem dX11_text_14 : ml_d cX11_text 14 (.ireturn) 1 15 := ⟨by decide +kernel, rfl⟩
theorem dX11_text_15 : ml_d cX11_text 15 (.iload_n 2) 1 16 := ⟨by decide +kernel, rfl⟩
theorem dX11_text_16 : ml_j cX11_text 16 (.ifCond .ge) 25 19 := ⟨9, by decide +kernel, by decide, rfl⟩
theorem dX11_text_19 : ml_d cX11_text 19 (.aload_n 0) 1 20 := ⟨by decide +kernel, rfl⟩
theorem dX11_text_20 : ml_d cX11_text 20 (.iconst 5) 1 21 := ⟨by decide +kernel, rfl⟩
theorem dX11_text_21 : ml_d cX11_text 21 (.invokevirtual 115) 3 24 := ⟨by decide +kernel, rfl⟩
theorem dX11_text_24 : ml_d cX11_text 24 (.ireturn) 1 25 := ⟨by decide +kernel, rfl⟩
theorem dX11_text_25 : ml_d cX11_text 25 (.aload_n 0) 1 26 := ⟨by decide +kernel, rfl⟩
theorem dX11_text_26 : ml_d cX11_text 26 (.getfield 22) 3 29 := ⟨by decide +kernel, rfl⟩
theorem dX11_text_29 : ml_d cX11_text 29 (.iload_n 1) 1 30 := ⟨by decide +kernel, rfl⟩
theorem dX11_text_30 : ml_d cX11_text 30 (.iload_n 2) 1 31 := ⟨by decide +kernel, rfl⟩
theorem dX11_text_31 : ml_d cX11_text 31 (.iastore) 1 32 := ⟨by decide +kernel, rfl⟩
theorem dX11_text_32 : ml_d cX11_text 32 (.iconst 0) 1 33 := ⟨by decide +kernel, rfl⟩
theorem dX11_text_33 : ml_d cX11_text 33 (.istore_n 3) 1 34 := ⟨by decide +kernel, rfl⟩
theorem dX11_text_34 : ml_d cX11_text 34 (.iload_n 3) 1 35 := ⟨by decide +kernel, rfl⟩
theorem dX11_text_35 : ml_d cX11_text 35 (.bipush 120) 2 37 := ⟨by decide +kernel, rfl⟩
theorem dX11_text_37 : ml_j cX11_text 37 (.if_icmp .ge) 59 40 := ⟨22, by decide +kernel, by decide, rfl⟩
theorem dX11_text_40 : ml_d cX11_text 40 (.aload_n 0) 1 41 := ⟨by decide +kernel, rfl⟩
theorem dX11_text_41 : ml_d cX11_text 41 (.getfield 25) 3 44 := ⟨by decide +kernel, rfl⟩
theorem dX11_text_44 : ml_d cX11_text 44 (.bipush 120) 2 46 := ⟨by decide +kernel, rfl⟩
theorem dX11_text_46 : ml_d cX11_text 46 (.iload_n 1) 1 47 := ⟨by decide +kernel, rfl⟩
theorem dX11_text_47 : ml_d cX11_text 47 (.imul) 1 48 := ⟨by decide +kernel, rfl⟩
theorem dX11_text_48 : ml_d cX11_text 48 (.iload_n 3) 1 49 := ⟨by decide +kernel, rfl⟩
theorem dX11_text_49 : ml_d cX11_text 49 (.iadd) 1 50 := ⟨by decide +kernel, rfl⟩
theorem dX11_text_50 : ml_d cX11_text 50 (.bipush 32) 2 52 := ⟨by decide +kernel, rfl⟩
theorem dX11_text_52 : ml_d cX11_text 52 (.bastore) 1 53 := ⟨by decide +kernel, rfl⟩
theorem dX11_text_53 : ml_d cX11_text 53 (.iinc 3 1) 3 56 := ⟨by decide +kernel, rfl⟩
theorem dX11_text_56 : ml_j cX11_text 56 .goto 34 59 := ⟨(-22), by decide +kernel, by decide, rfl⟩
theorem dX11_text_59 : ml_d cX11_text 59 (.iload_n 2) 1 60 := ⟨by decide +kernel, rfl⟩
theorem dX11_text_60 : ml_d cX11_text 60 (.ireturn) 1 61 := ⟨by decide +kernel, rfl⟩
def fX11_text_34 : Nat → Nat → Int32 → Int32 → Int32 → ml_M → Option (Int32 × ml_M)
  | 0, _, _, _, _, _ => none
  | fu + 1, l0, l1, l2, l3, m =>
    if (120 : Int32) ≤ l3 then
    some (l2, m)
    else
    if (ml_K m l0).1 = 11 then
    ml_let (ml_R m l0 8) fun a789 =>
    if ml_in m a789 21 (((120 : Int32) * l1) + l3) then
    ml_let (ml_sI m a789 (((120 : Int32) * l1) + l3).toNatClampNeg ((32 : Int32).toInt8.toInt32)) fun m791 =>
    (fX11_text_34 fu) l0 l1 l2 (l3 + (1 : Int32)) m791
    else none
    else none
theorem vX11_text_34 {E : ml_E} (hL : ml_eL E = 4) {rv : Int32} {rm : ml_M} (hr : ∀ (pc pc' : Nat) (lv : List (Nat × ml_X)), ml_d cX11_text pc .ireturn 1 pc' → True → ml_V E "LostRoomModel" cX11_text 4 false rm pc lv [ml_i rv]) : ∀ (fu : Nat) (l0 : Nat) (l1 : Int32) (l2 : Int32) (l3 : Int32) (m : ml_M), fX11_text_34 fu l0 l1 l2 l3 m = some (rv, rm) → ml_V E "LostRoomModel" cX11_text 4 false m 34 [(0, ml_r l0), (1, ml_i l1), (2, ml_i l2), (3, ml_i l3)] [] := by
  intro fu
  induction fu with
  | zero => intro l0 l1 l2 l3 m h; exact ml_none h
  | succ fu ih =>
    intro l0 l1 l2 l3 m h
    have hk34 := ih
    unfold fX11_text_34 at h
    exact ml_iload_n dX11_text_34 3 rfl <| ml_bipush dX11_text_35 kc_b120 <| ml_icmp_ge dX11_text_37 h (fun _ h => ml_iload_n dX11_text_59 2 rfl <| ml_rI (mk := ml_i) hr dX11_text_60 (fun _ => trivial) h) (fun _ h => ml_aload_n dX11_text_40 0 rfl <| ml_ck_of h fun hc788 h => ml_getR dX11_text_41 wb_117 hc788 <| ml_lx (mk := ml_r) h fun a789 h => ml_bipush dX11_text_44 kc_b120 <| ml_iload_n dX11_text_46 1 rfl <| ml_imul dX11_text_47 <| ml_iload_n dX11_text_48 3 rfl <| ml_iadd dX11_text_49 <| ml_bipush dX11_text_50 kc_b32 <| ml_ck_of h fun hi790 h => ml_bast dX11_text_52 hi790 <| ml_lt (m := m) rfl h fun m791 em792 h => ml_iinc (lv' := [(3, ml_i (l3 + (1 : Int32))), (0, ml_r l0), (1, ml_i l1), (2, ml_i l2)]) dX11_text_53 3 rfl (congrArg (l3 + ·) kc_i1) (ml_hn hL rfl) rfl <| ml_goto dX11_text_56 <| ml_V.sub [1, 2, 3, 0] rfl (hk34 _ _ _ _ _ h))
def fX11_text (l0 : Nat) (l1 : Int32) (l2 : Int32) (m : ml_M) : Option (Int32 × ml_M) :=
    ml_b1 (fX11_isText l1 m) fun r794 =>
    if r794 = 0 then
    some ((-1 : Int32), m)
    else
    if l2 ≤ (120 : Int32) then
    if 0 ≤ l2 then
    if (ml_K m l0).1 = 11 then
    ml_let (ml_R m l0 7) fun a796 =>
    if ml_in m a796 20 l1 then
    ml_let (ml_sI m a796 l1.toNatClampNeg l2) fun m798 =>
    fX11_text_34 ml_fu l0 l1 l2 (0 : Int32) m798
    else none
    else none
    else
    if (ml_K m l0).1 = 11 then
    ml_b2 (fX11_meets l0 (5 : Int32) m) fun r802 m803 =>
    some (r802, m803)
    else none
    else
    some ((-1 : Int32), m)
theorem wX11_text_0 {E : ml_E} (hL : ml_eL E = 4) {rv : Int32} {rm : ml_M} (hr : ∀ (pc pc' : Nat) (lv : List (Nat × ml_X)), ml_d cX11_text pc .ireturn 1 pc' → True → ml_V E "LostRoomModel" cX11_text 4 false rm pc lv [ml_i rv]) : ∀ (l0 : Nat) (l1 : Int32) (l2 : Int32) (m : ml_M), fX11_text l0 l1 l2 m = some (rv, rm) → ml_V E "LostRoomModel" cX11_text 4 false m 0 [(0, ml_r l0), (1, ml_i l1), (2, ml_i l2)] [] := by
  intro l0 l1 l2 m h
  unfold fX11_text at h
  exact ml_iload_n dX11_text_0 1 rfl <| ml_b1_of h fun r794 hv793 h => ml_callS dX11_text_1 wm_172 wb_118 (sX11_isText hv793) rfl (Nat.le_of_ble_eq_true rfl) (Nat.le_of_ble_eq_true rfl) rfl <| ml_if_eq dX11_text_4 h (fun _ h => ml_iconst dX11_text_13 kc_im1 <| ml_rI (mk := ml_i) hr dX11_text_14 (fun _ => trivial) h) (fun _ h => ml_iload_n dX11_text_7 2 rfl <| ml_bipush dX11_text_8 kc_b120 <| ml_icmp_le dX11_text_10 h (fun _ h => ml_iload_n dX11_text_15 2 rfl <| ml_if_ge dX11_text_16 h (fun _ h => ml_aload_n dX11_text_25 0 rfl <| ml_ck_of h fun hc795 h => ml_getR dX11_text_26 wb_63 hc795 <| ml_lx (mk := ml_r) h fun a796 h => ml_iload_n dX11_text_29 1 rfl <| ml_iload_n dX11_text_30 2 rfl <| ml_ck_of h fun hi797 h => ml_iast dX11_text_31 hi797 <| ml_lt (m := m) rfl h fun m798 em799 h => ml_iconst dX11_text_32 kc_i0 <| ml_istore_n (lv' := [(3, ml_i (0 : Int32)), (0, ml_r l0), (1, ml_i l1), (2, ml_i l2)]) dX11_text_33 (ml_hn hL rfl) rfl <| ml_V.sub [1, 2, 3, 0] rfl (vX11_text_34 hL hr  ml_fu _ _ _ _ _ h)) (fun _ h => ml_aload_n dX11_text_19 0 rfl <| ml_iconst dX11_text_20 kc_i5 <| ml_ck_of h fun hc801 h => ml_b2_of h fun r802 m803 hv800 h => ml_callV dX11_text_21 wm_144 wb_105 hc801 (sX11_meets hv800) rfl (Nat.le_of_ble_eq_true rfl) (Nat.le_of_ble_eq_true rfl) rfl <| ml_rI (mk := ml_i) hr dX11_text_24 (fun _ => trivial) h)) (fun _ h => ml_iconst dX11_text_13 kc_im1 <| ml_rI (mk := ml_i) hr dX11_text_14 (fun _ => trivial) h))
theorem sX11_text {l0 : Nat} {l1 : Int32} {l2 : Int32} {m : ml_M} {rv : Int32} {rm : ml_M} (h : fX11_text l0 l1 l2 m = some (rv, rm)) : ml_Sn yX11_text cX11_text 4 (some .int) 4 [ml_r l0, ml_i l1, ml_i l2] m (some (ml_i rv)) rm :=
  ml_Sn_of (P := True) (ini := false) (by decide +kernel) (Nat.le_of_ble_eq_true rfl) (fun h => by cases h) (fun _ => ml_RkI rv) fun E hL hr => wX11_text_0 hL hr _ _ _ _ h
theorem dX10_put_0 : ml_d cX10_put 0 (.iload_n 1) 1 1 := ⟨by decide +kernel, rfl⟩
theorem dX10_put_1 : ml_d cX10_put 1 (.invokestatic 103) 3 4 := ⟨by decide +kernel, rfl⟩
theorem dX10_put_4 : ml_j cX10_put 4 (.ifCond .ne) 9 7 := ⟨5, by decide +kernel, by decide, rfl⟩
theorem dX10_put_7 : ml_d cX10_put 7 (.iconst (-1)) 1 8 := ⟨by decide +kernel, rfl⟩
theorem dX10_put_8 : ml_d cX10_put 8 (.ireturn) 1 9 := ⟨by decide +kernel, rfl⟩
theorem dX10_put_9 : ml_d cX10_put 9 (.aload_n 0) 1 10 := ⟨by decide +kernel, rfl⟩
theorem dX10_put_10 : ml_d cX10_put 10 (.getfield 17) 3 13 := ⟨by decide +kernel, rfl⟩
theorem dX10_put_13 : ml_d cX10_put 13 (.iload_n 1) 1 14 := ⟨by decide +kernel, rfl⟩
theorem dX10_put_14 : ml_d cX10_put 14 (.aaload) 1 15 := ⟨by decide +kernel, rfl⟩
theorem dX10_put_15 : ml_d cX10_put 15 (.astore 4) 2 17 := ⟨by decide +kernel, rfl⟩
theorem dX10_put_17 : ml_d cX10_put 17 (.aload 4) 2 19 := ⟨by decide +kernel, rfl⟩
theorem dX10_put_19 : ml_j cX10_put 19 .ifnonnull 28 22 := ⟨9, by decide +kernel, by decide, rfl⟩
theorem dX10_put_22 : ml_d cX10_put 22 (.aload_n 0) 1 23 := ⟨by decide +kernel, rfl⟩
theorem dX10_put_23 : ml_d cX10_put 23 (.iconst 1) 1 24 := ⟨by decide +kernel, rfl⟩
theorem dX10_put_24 : ml_d cX10_put 24 (.invokevirtual 86) 3 27 := ⟨by decide +kernel, rfl⟩
theorem dX10_put_27 : ml_d cX10_put 27 (.ireturn) 1 28 := ⟨by decide +kernel, rfl⟩
theorem dX10_put_28 : ml_d cX10_put 28 (.iload_n 2) 1 29 := ⟨by decide +kernel, rfl⟩
theorem dX10_put_29 : ml_j cX10_put 29 (.ifCond .lt) 39 32 := ⟨10, by decide +kernel, by decide, rfl⟩
theorem dX10_put_32 : ml_d cX10_put 32 (.iload_n 2) 1 33 := ⟨by decide +kernel, rfl⟩
theorem dX10_put_33 : ml_d cX10_put 33 (.aload 4) 2 35 := ⟨by decide +kernel, rfl⟩
theorem dX10_put_35 : ml_d cX10_put 35 (.arraylength) 1 36 := ⟨by decide +kernel, rfl⟩
theorem dX10_put_36 : ml_j cX10_put 36 (.if_icmp .lt) 45 39 := ⟨9, by decide +kernel, by decide, rfl⟩
theorem dX10_put_39 : ml_d cX10_put 39 (.aload_n 0) 1 40 := ⟨by decide +kernel, rfl⟩
theorem dX10_put_40 : ml_d cX10_put 40 (.iconst 2) 1 41 := ⟨by decide +kernel, rfl⟩
theorem dX10_put_41 : ml_d cX10_put 41 (.invokevirtual 86) 3 44 := ⟨by decide +kernel, rfl⟩
theorem dX10_put_44 : ml_d cX10_put 44 (.ireturn) 1 45 := ⟨by decide +kernel, rfl⟩
theorem dX10_put_45 : ml_d cX10_put 45 (.aload 4) 2 47 := ⟨by decide +kernel, rfl⟩
theorem dX10_put_47 : ml_d cX10_put 47 (.iload_n 2) 1 48 := ⟨by decide +kernel, rfl⟩
theorem dX10_put_48 : ml_d cX10_put 48 (.baload) 1 49 := ⟨by decide +kernel, rfl⟩
theorem dX10_put_49 : ml_d cX10_put 49 (.istore 5) 2 51 := ⟨by decide +kernel, rfl⟩
theorem dX10_put_51 : ml_d cX10_put 51 (.aload 4) 2 53 := ⟨by decide +kernel, rfl⟩
theorem dX10_put_53 : ml_d cX10_put 53 (.iload_n 2) 1 54 := ⟨by decide +kernel, rfl⟩
theorem dX10_put_54 : ml_d cX10_put 54 (.iload_n 3) 1 55 := ⟨by decide +kernel, rfl⟩
theorem dX10_put_55 : ml_d cX10_put 55 (.i2b) 1 56 := ⟨by decide +kernel, rfl⟩
theorem dX10_put_56 : ml_d cX10_put 56 (.bastore) 1 57 := ⟨by decide +kernel, rfl⟩
theorem dX10_put_57 : ml_d cX10_put 57 (.sipush 1000) 3 60 := ⟨by decide +kernel, rfl⟩
theorem dX10_put_60 : ml_d cX10_put 60 (.iload 5) 2 62 := ⟨by decide +kernel, rfl⟩
theorem dX10_put_62 : ml_d cX10_put 62 (.iadd) 1 63 := ⟨by decide +kernel, rfl⟩
theorem dX10_put_63 : ml_d cX10_put 63 (.ireturn) 1 64 := ⟨by decide +kernel, rfl⟩
def fX10_put_39 (l0 : Nat) (m : ml_M) : Option (Int32 × ml_M) :=
    if (ml_K m l0).1 = 10 then
    ml_b2 (fX10_found l0 (2 : Int32) m) fun r806 m807 =>
    some (r806, m807)
    else none
theorem vX10_put_39 {E : ml_E} (hL : ml_eL E = 6) {rv : Int32} {rm : ml_M} (hr : ∀ (pc pc' : Nat) (lv : List (Nat × ml_X)), ml_d cX10_put pc .ireturn 1 pc' → True → ml_V E "LostRoom" cX10_put 4 false rm pc lv [ml_i rv]) : ∀ (l0 : Nat) (m : ml_M), fX10_put_39 l0 m = some (rv, rm) → ml_V E "LostRoom" cX10_put 4 false m 39 [(0, ml_r l0)] [] := by
  intro l0 m h
  unfold fX10_put_39 at h
  exact ml_aload_n dX10_put_39 0 rfl <| ml_iconst dX10_put_40 kc_i2 <| ml_ck_of h fun hc805 h => ml_b2_of h fun r806 m807 hv804 h => ml_callV dX10_put_41 wm_132 wb_99 hc805 (sX10_found hv804) rfl (Nat.le_of_ble_eq_true rfl) (Nat.le_of_ble_eq_true rfl) rfl <| ml_rI (mk := ml_i) hr dX10_put_44 (fun _ => trivial) h
def fX10_put (l0 : Nat) (l1 : Int32) (l2 : Int32) (l3 : Int32) (m : ml_M) : Option (Int32 × ml_M) :=
    ml_b1 (fX10_isText l1 m) fun r809 =>
    if r809 = 0 then
    some ((-1 : Int32), m)
    else
    if (ml_K m l0).1 = 10 then
    ml_let (ml_R m l0 1) fun a811 =>
    if ml_in m a811 24 l1 then
    ml_let (ml_R m a811 l1.toNatClampNeg) fun a813 =>
    if a813 = 0 then
    ml_b2 (fX10_found l0 (1 : Int32) m) fun r821 m822 =>
    some (r821, m822)
    else
    if l2 < 0 then
    fX10_put_39 l0 m
    else
    if (ml_K m a813).1 = 21 then
    if l2 < (Int32.ofNat (ml_K m a813).2) then
    if ml_in m a813 21 l2 then
    ml_let (ml_I m a813 l2.toNatClampNeg) fun x816 =>
    if ml_in m a813 21 l2 then
    ml_let (ml_sI m a813 l2.toNatClampNeg l3.toInt8.toInt32.toInt8.toInt32) fun m818 =>
    some (((1000 : Int32) + x816), m818)
    else none
    else none
    else
    fX10_put_39 l0 m
    else none
    else none
    else none
theorem wX10_put_0 {E : ml_E} (hL : ml_eL E = 6) {rv : Int32} {rm : ml_M} (hr : ∀ (pc pc' : Nat) (lv : List (Nat × ml_X)), ml_d cX10_put pc .ireturn 1 pc' → True → ml_V E "LostRoom" cX10_put 4 false rm pc lv [ml_i rv]) : ∀ (l0 : Nat) (l1 : Int32) (l2 : Int32) (l3 : Int32) (m : ml_M), fX10_put l0 l1 l2 l3 m = some (rv, rm) → ml_V E "LostRoom" cX10_put 4 false m 0 [(0, ml_r l0), (1, ml_i l1), (2, ml_i l2), (3, ml_i l3)] [] := by
  intro l0 l1 l2 l3 m h
  unfold fX10_put at h
  exact ml_iload_n dX10_put_0 1 rfl <| ml_b1_of h fun r809 hv808 h => ml_callS dX10_put_1 wm_165 wb_114 (sX10_isText hv808) rfl (Nat.le_of_ble_eq_true rfl) (Nat.le_of_ble_eq_true rfl) rfl <| ml_if_ne dX10_put_4 h (fun _ h => ml_aload_n dX10_put_9 0 rfl <| ml_ck_of h fun hc810 h => ml_getR dX10_put_10 wb_116 hc810 <| ml_lx (mk := ml_r) h fun a811 h => ml_iload_n dX10_put_13 1 rfl <| ml_ck_of h fun hi812 h => ml_aald (kd := 24) dX10_put_14 (by decide) hi812 <| ml_lx (mk := ml_r) h fun a813 h => ml_astore (lv' := [(4, ml_r a813), (0, ml_r l0), (1, ml_i l1), (2, ml_i l2), (3, ml_i l3)]) dX10_put_15 (ml_hn hL rfl) rfl <| ml_aload dX10_put_17 0 rfl <| ml_ifnonnull dX10_put_19 h (fun _ h => ml_iload_n dX10_put_28 3 rfl <| ml_if_lt dX10_put_29 h (fun _ h => ml_V.sub [1] rfl (vX10_put_39 hL hr  _ _ h)) (fun _ h => ml_iload_n dX10_put_32 3 rfl <| ml_aload dX10_put_33 0 rfl <| ml_ck_of h fun hc814 h => ml_alen (kd := 21) dX10_put_35 (by decide) hc814 <| ml_icmp_lt dX10_put_36 h (fun _ h => ml_aload dX10_put_45 0 rfl <| ml_iload_n dX10_put_47 3 rfl <| ml_ck_of h fun hi815 h => ml_bald dX10_put_48 hi815 <| ml_lx (mk := ml_i) h fun x816 h => ml_istore (lv' := [(5, ml_i x816), (4, ml_r a813), (0, ml_r l0), (1, ml_i l1), (2, ml_i l2), (3, ml_i l3)]) dX10_put_49 (ml_hn hL rfl) rfl <| ml_aload dX10_put_51 1 rfl <| ml_iload_n dX10_put_53 4 rfl <| ml_iload_n dX10_put_54 5 rfl <| ml_i2b dX10_put_55 <| ml_ck_of h fun hi817 h => ml_bast dX10_put_56 hi817 <| ml_lt (m := m) rfl h fun m818 em819 h => ml_sipush dX10_put_57 kc_s1000 <| ml_iload dX10_put_60 0 rfl <| ml_iadd dX10_put_62 <| ml_rI (mk := ml_i) hr dX10_put_63 (fun _ => trivial) h) (fun _ h => ml_V.sub [1] rfl (vX10_put_39 hL hr  _ _ h)))) (fun _ h => ml_aload_n dX10_put_22 1 rfl <| ml_iconst dX10_put_23 kc_i1 <| ml_b2_of h fun r821 m822 hv820 h => ml_callV dX10_put_24 wm_132 wb_99 hc810 (sX10_found hv820) rfl (Nat.le_of_ble_eq_true rfl) (Nat.le_of_ble_eq_true rfl) rfl <| ml_rI (mk := ml_i) hr dX10_put_27 (fun _ => trivial) h)) (fun _ h => ml_iconst dX10_put_7 kc_im1 <| ml_rI (mk := ml_i) hr dX10_put_8 (fun _ => trivial) h)
theorem sX10_put {l0 : Nat} {l1 : Int32} {l2 : Int32} {l3 : Int32} {m : ml_M} {rv : Int32} {rm : ml_M} (h : fX10_put l0 l1 l2 l3 m = some (rv, rm)) : ml_Sn yX10_put cX10_put 6 (some .int) 4 [ml_r l0, ml_i l1, ml_i l2, ml_i l3] m (some (ml_i rv)) rm :=
  ml_Sn_of (P := True) (ini := false) (by decide +kernel) (Nat.le_of_ble_eq_true rfl) (fun h => by cases h) (fun _ => ml_RkI rv) fun E hL hr => wX10_put_0 hL hr _ _ _ _ _ h
theorem dX11_put_0 : ml_d cX11_put 0 (.iload_n 1) 1 1 := ⟨by decide +kernel, rfl⟩
theorem dX11_put_1 : ml_d cX11_put 1 (.invokestatic 126) 3 4 := ⟨by decide +kernel, rfl⟩
theorem dX11_put_4 : ml_j cX11_put 4 (.ifCond .ne) 9 7 := ⟨5, by decide +kernel, by decide, rfl⟩
theorem dX11_put_7 : ml_d cX11_put 7 (.iconst (-1)) 1 8 := ⟨by decide +kernel, rfl⟩
theorem dX11_put_8 : ml_d cX11_put 8 (.ireturn) 1 9 := ⟨by decide +kernel, rfl⟩
theorem dX11_put_9 : ml_d cX11_put 9 (.aload_n 0) 1 10 := ⟨by decide +kernel, rfl⟩
theorem dX11_put_10 : ml_d cX11_put 10 (.getfield 22) 3 13 := ⟨by decide +kernel, rfl⟩
theorem dX11_put_13 : ml_d cX11_put 13 (.iload_n 1) 1 14 := ⟨by decide +kernel, rfl⟩
theorem dX11_put_14 : ml_d cX11_put 14 (.iaload) 1 15 := ⟨by decide +kernel, rfl⟩
theorem dX11_put_15 : ml_j cX11_put 15 (.ifCond .ge) 24 18 := ⟨9, by decide +kernel, by decide, rfl⟩
theorem dX11_put_18 : ml_d cX11_put 18 (.aload_n 0) 1 19 := ⟨by decide +kernel, rfl⟩
theorem dX11_put_19 : ml_d cX11_put 19 (.iconst 1) 1 20 := ⟨by decide +kernel, rfl⟩
theorem dX11_put_20 : ml_d cX11_put 20 (.invokevirtual 115) 3 23 := ⟨by decide +kernel, rfl⟩
theorem dX11_put_23 : ml_d cX11_put 23 (.ireturn) 1 24 := ⟨by decide +kernel, rfl⟩
theorem dX11_put_24 : ml_d cX11_put 24 (.iload_n 2) 1 25 := ⟨by decide +kernel, rfl⟩
theorem dX11_put_25 : ml_d cX11_put 25 (.iconst 0) 1 26 := ⟨by decide +kernel, rfl⟩
theorem dX11_put_26 : ml_d cX11_put 26 (.aload_n 0) 1 27 := ⟨by decide +kernel, rfl⟩
theorem dX11_put_27 : ml_d cX11_put 27 (.getfield 22) 3 30 := ⟨by decide +kernel, rfl⟩
theorem dX11_put_30 : ml_d cX11_put 30 (.iload_n 1) 1 31 := ⟨by decide +kernel, rfl⟩
theorem dX11_put_31 : ml_d cX11_put 31 (.iaload) 1 32 := ⟨by decide +kernel, rfl⟩
theorem dX11_put_32 : ml_d cX11_put 32 (.iconst 1) 1 33 := ⟨by decide +kernel, rfl⟩
theorem dX11_put_33 : ml_d cX11_put 33 (.isub) 1 34 := ⟨by decide +kernel, rfl⟩
theorem dX11_put_34 : ml_d cX11_put 34 (.invokestatic 100) 3 37 := ⟨by decide +kernel, rfl⟩
theorem dX11_put_37 : ml_j cX11_put 37 (.ifCond .ne) 46 40 := ⟨9, by decide +kernel, by decide, rfl⟩
theorem dX11_put_40 : ml_d cX11_put 40 (.aload_n 0) 1 41 := ⟨by decide +kernel, rfl⟩
theorem dX11_put_41 : ml_d cX11_put 41 (.iconst 2) 1 42 := ⟨by decide +kernel, rfl⟩
theorem dX11_put_42 : ml_d cX11_put 42 (.invokevirtual 115) 3 45 := ⟨by decide +kernel, rfl⟩
theorem dX11_put_45 : ml_d cX11_put 45 (.ireturn) 1 46 := ⟨by decide +kernel, rfl⟩
theorem dX11_put_46 : ml_d cX11_put 46 (.aload_n 0) 1 47 := ⟨by decide +kernel, rfl⟩
theorem dX11_put_47 : ml_d cX11_put 47 (.getfield 25) 3 50 := ⟨by decide +kernel, rfl⟩
theorem dX11_put_50 : ml_d cX11_put 50 (.bipush 120) 2 52 := ⟨by decide +kernel, rfl⟩
theorem dX11_put_52 : ml_d cX11_put 52 (.iload_n 1) 1 53 := ⟨by decide +kernel, rfl⟩
theorem dX11_put_53 : ml_d cX11_put 53 (.imul) 1 54 := ⟨by decide +kernel, rfl⟩
theorem dX11_put_54 : ml_d cX11_put 54 (.iload_n 2) 1 55 := ⟨by decide +kernel, rfl⟩
theorem dX11_put_55 : ml_d cX11_put 55 (.iadd) 1 56 := ⟨by decide +kernel, rfl⟩
theorem dX11_put_56 : ml_d cX11_put 56 (.baload) 1 57 := ⟨by decide +kernel, rfl⟩
theorem dX11_put_57 : ml_d cX11_put 57 (.istore 4) 2 59 := ⟨by decide +kernel, rfl⟩
theorem dX11_put_59 : ml_d cX11_put 59 (.aload_n 0) 1 60 := ⟨by decide +kernel, rfl⟩
theorem dX11_put_60 : ml_d cX11_put 60 (.getfield 25) 3 63 := ⟨by decide +kernel, rfl⟩
theorem dX11_put_63 : ml_d cX11_put 63 (.bipush 120) 2 65 := ⟨by decide +kernel, rfl⟩
theorem dX11_put_65 : ml_d cX11_put 65 (.iload_n 1) 1 66 := ⟨by decide +kernel, rfl⟩
theorem dX11_put_66 : ml_d cX11_put 66 (.imul) 1 67 := ⟨by decide +kernel, rfl⟩
theorem dX11_put_67 : ml_d cX11_put 67 (.iload_n 2) 1 68 := ⟨by decide +kernel, rfl⟩
theorem dX11_put_68 : ml_d cX11_put 68 (.iadd) 1 69 := ⟨by decide +kernel, rfl⟩
theorem dX11_put_69 : ml_d cX11_put 69 (.iload_n 3) 1 70 := ⟨by decide +kernel, rfl⟩
theorem dX11_put_70 : ml_d cX11_put 70 (.i2b) 1 71 := ⟨by decide +kernel, rfl⟩
theorem dX11_put_71 : ml_d cX11_put 71 (.bastore) 1 72 := ⟨by decide +kernel, rfl⟩
theorem dX11_put_72 : ml_d cX11_put 72 (.sipush 1000) 3 75 := ⟨by decide +kernel, rfl⟩
theorem dX11_put_75 : ml_d cX11_put 75 (.iload 4) 2 77 := ⟨by decide +kernel, rfl⟩
theorem dX11_put_77 : ml_d cX11_put 77 (.iadd) 1 78 := ⟨by decide +kernel, rfl⟩
theorem dX11_put_78 : ml_d cX11_put 78 (.ireturn) 1 79 := ⟨by decide +kernel, rfl⟩
def fX11_put (l0 : Nat) (l1 : Int32) (l2 : Int32) (l3 : Int32) (m : ml_M) : Option (Int32 × ml_M) :=
    ml_b1 (fX11_isText l1 m) fun r824 =>
    if r824 = 0 then
    some ((-1 : Int32), m)
    else
    if (ml_K m l0).1 = 11 then
    ml_let (ml_R m l0 7) fun a826 =>
    if ml_in m a826 20 l1 then
    if 0 ≤ (ml_I m a826 l1.toNatClampNeg) then
    ml_let (ml_R m l0 7) fun a828 =>
    if ml_in m a828 20 l1 then
    ml_b1 (fX11_in l2 (0 : Int32) ((ml_I m a828 l1.toNatClampNeg) - (1 : Int32)) m) fun r831 =>
    if r831 = 0 then
    ml_b2 (fX11_meets l0 (2 : Int32) m) fun r840 m841 =>
    some (r840, m841)
    else
    ml_let (ml_R m l0 8) fun a832 =>
    if ml_in m a832 21 (((120 : Int32) * l1) + l2) then
    ml_let (ml_I m a832 (((120 : Int32) * l1) + l2).toNatClampNeg) fun x834 =>
    ml_let (ml_R m l0 8) fun a835 =>
    if ml_in m a835 21 (((120 : Int32) * l1) + l2) then
    ml_let (ml_sI m a835 (((120 : Int32) * l1) + l2).toNatClampNeg l3.toInt8.toInt32.toInt8.toInt32) fun m837 =>
    some (((1000 : Int32) + x834), m837)
    else none
    else none
    else none
    else
    ml_b2 (fX11_meets l0 (1 : Int32) m) fun r843 m844 =>
    some (r843, m844)
    else none
    else none
theorem wX11_put_0 {E : ml_E} (hL : ml_eL E = 5) {rv : Int32} {rm : ml_M} (hr : ∀ (pc pc' : Nat) (lv : List (Nat × ml_X)), ml_d cX11_put pc .ireturn 1 pc' → True → ml_V E "LostRoomModel" cX11_put 4 false rm pc lv [ml_i rv]) : ∀ (l0 : Nat) (l1 : Int32) (l2 : Int32) (l3 : Int32) (m : ml_M), fX11_put l0 l1 l2 l3 m = some (rv, rm) → ml_V E "LostRoomModel" cX11_put 4 false m 0 [(0, ml_r l0), (1, ml_i l1), (2, ml_i l2), (3, ml_i l3)] [] := by
  intro l0 l1 l2 l3 m h
  unfold fX11_put at h
  exact ml_iload_n dX11_put_0 1 rfl <| ml_b1_of h fun r824 hv823 h => ml_callS dX11_put_1 wm_172 wb_118 (sX11_isText hv823) rfl (Nat.le_of_ble_eq_true rfl) (Nat.le_of_ble_eq_true rfl) rfl <| ml_if_ne dX11_put_4 h (fun _ h => ml_aload_n dX11_put_9 0 rfl <| ml_ck_of h fun hc825 h => ml_getR dX11_put_10 wb_63 hc825 <| ml_lx (mk := ml_r) h fun a826 h => ml_iload_n dX11_put_13 1 rfl <| ml_ck_of h fun hi827 h => ml_iald dX11_put_14 hi827 <| ml_if_ge dX11_put_15 h (fun _ h => ml_iload_n dX11_put_24 2 rfl <| ml_iconst dX11_put_25 kc_i0 <| ml_aload_n dX11_put_26 0 rfl <| ml_getR dX11_put_27 wb_63 hc825 <| ml_lx (mk := ml_r) h fun a828 h => ml_iload_n dX11_put_30 1 rfl <| ml_ck_of h fun hi829 h => ml_iald dX11_put_31 hi829 <| ml_iconst dX11_put_32 kc_i1 <| ml_isub dX11_put_33 <| ml_b1_of h fun r831 hv830 h => ml_callS dX11_put_34 wm_136 wb_100 (sX11_in hv830) rfl (Nat.le_of_ble_eq_true rfl) (Nat.le_of_ble_eq_true rfl) rfl <| ml_if_ne dX11_put_37 h (fun _ h => ml_aload_n dX11_put_46 0 rfl <| ml_getR dX11_put_47 wb_117 hc825 <| ml_lx (mk := ml_r) h fun a832 h => ml_bipush dX11_put_50 kc_b120 <| ml_iload_n dX11_put_52 1 rfl <| ml_imul dX11_put_53 <| ml_iload_n dX11_put_54 2 rfl <| ml_iadd dX11_put_55 <| ml_ck_of h fun hi833 h => ml_bald dX11_put_56 hi833 <| ml_lx (mk := ml_i) h fun x834 h => ml_istore (lv' := [(4, ml_i x834), (0, ml_r l0), (1, ml_i l1), (2, ml_i l2), (3, ml_i l3)]) dX11_put_57 (ml_hn hL rfl) rfl <| ml_aload_n dX11_put_59 1 rfl <| ml_getR dX11_put_60 wb_117 hc825 <| ml_lx (mk := ml_r) h fun a835 h => ml_bipush dX11_put_63 kc_b120 <| ml_iload_n dX11_put_65 2 rfl <| ml_imul dX11_put_66 <| ml_iload_n dX11_put_67 3 rfl <| ml_iadd dX11_put_68 <| ml_iload_n dX11_put_69 4 rfl <| ml_i2b dX11_put_70 <| ml_ck_of h fun hi836 h => ml_bast dX11_put_71 hi836 <| ml_lt (m := m) rfl h fun m837 em838 h => ml_sipush dX11_put_72 kc_s1000 <| ml_iload dX11_put_75 0 rfl <| ml_iadd dX11_put_77 <| ml_rI (mk := ml_i) hr dX11_put_78 (fun _ => trivial) h) (fun _ h => ml_aload_n dX11_put_40 0 rfl <| ml_iconst dX11_put_41 kc_i2 <| ml_b2_of h fun r840 m841 hv839 h => ml_callV dX11_put_42 wm_144 wb_105 hc825 (sX11_meets hv839) rfl (Nat.le_of_ble_eq_true rfl) (Nat.le_of_ble_eq_true rfl) rfl <| ml_rI (mk := ml_i) hr dX11_put_45 (fun _ => trivial) h)) (fun _ h => ml_aload_n dX11_put_18 0 rfl <| ml_iconst dX11_put_19 kc_i1 <| ml_b2_of h fun r843 m844 hv842 h => ml_callV dX11_put_20 wm_144 wb_105 hc825 (sX11_meets hv842) rfl (Nat.le_of_ble_eq_true rfl) (Nat.le_of_ble_eq_true rfl) rfl <| ml_rI (mk := ml_i) hr dX11_put_23 (fun _ => trivial) h)) (fun _ h => ml_iconst dX11_put_7 kc_im1 <| ml_rI (mk := ml_i) hr dX11_put_8 (fun _ => trivial) h)
theorem sX11_put {l0 : Nat} {l1 : Int32} {l2 : Int32} {l3 : Int32} {m : ml_M} {rv : Int32} {rm : ml_M} (h : fX11_put l0 l1 l2 l3 m = some (rv, rm)) : ml_Sn yX11_put cX11_put 5 (some .int) 4 [ml_r l0, ml_i l1, ml_i l2, ml_i l3] m (some (ml_i rv)) rm :=
  ml_Sn_of (P := True) (ini := false) (by decide +kernel) (Nat.le_of_ble_eq_true rfl) (fun h => by cases h) (fun _ => ml_RkI rv) fun E hL hr => wX11_put_0 hL hr _ _ _ _ _ h
theorem dX1_readFigure_0 : ml_d cX1_readFigure 0 (.aload_n 0) 1 1 := ⟨by decide +kernel, rfl⟩
theorem dX1_readFigure_1 : ml_d cX1_readFigure 1 (.getfield 23) 3 4 := ⟨by decide +kernel, rfl⟩
theorem dX1_readFigure_4 : ml_d cX1_readFigure 4 (.bipush (-9)) 2 6 := ⟨by decide +kernel, rfl⟩
theorem dX1_readFigure_6 : ml_j cX1_readFigure 6 (.if_icmp .eq) 11 9 := ⟨5, by decide +kernel, by decide, rfl⟩
theorem dX1_readFigure_9 : ml_d cX1_readFigure 9 (.iconst 0) 1 10 := ⟨by decide +kernel, rfl⟩
theorem dX1_readFigure_10 : ml_d cX1_readFigure 10 (.ireturn) 1 11 := ⟨by decide +kernel, rfl⟩
theorem dX1_readFigure_11 : ml_d cX1_readFigure 11 (.aload_n 0) 1 12 := ⟨by decide +kernel, rfl⟩
theorem dX1_readFigure_12 : ml_d cX1_readFigure 12 (.getfield 31) 3 15 := ⟨by decide +kernel, rfl⟩
theorem dX1_readFigure_15 : ml_d cX1_readFigure 15 (.aload_n 0) 1 16 := ⟨by decide +kernel, rfl⟩
theorem dX1_readFigure_16 : ml_d cX1_readFigure 16 (.getfield 27) 3 19 := ⟨by decide +kernel, rfl⟩
theorem dX1_readFigure_19 : ml_d cX1_readFigure 19 (.arraylength) 1 20 := ⟨by decide +kernel, rfl⟩
theorem dX1_readFigure_20 : ml_j cX1_readFigure 20 (.if_icmp .ge) 43 23 := ⟨23, by decide +kernel, by decide, rfl⟩
theorem dX1_readFigure_23 : ml_d cX1_readFigure 23 (.aload_n 0) 1 24 := ⟨by decide +kernel, rfl⟩
theorem dX1_readFigure_24 : ml_d cX1_readFigure 24 (.getfield 27) 3 27 := ⟨by decide +kernel, rfl⟩
theorem dX1_readFigure_27 : ml_d cX1_readFigure 27 (.aload_n 0) 1 28 := ⟨by decide +kernel, rfl⟩
theorem dX1_readFigure_28 : ml_d cX1_readFigure 28 (.getfield 31) 3 31 := ⟨by decide +kernel, rfl⟩
theorem dX1_readFigure_31 : ml_d cX1_readFigure 31 (.baload) 1 32 := ⟨by decide +kernel, rfl⟩
theorem dX1_readFigure_32 : ml_d cX1_readFigure 32 (.bipush 48) 2 34 := ⟨by decide +kernel, rfl⟩
theorem dX1_readFigure_34 : ml_d cX1_readFigure 34 (.isub) 1 35 := ⟨by decide +kernel, rfl⟩
theorem dX1_readFigure_35 : ml_d cX1_readFigure 35 (.iload_n 1) 1 36 := ⟨by decide +kernel, rfl⟩
theorem dX1_readFigure_36 : ml_d cX1_readFigure 36 (.iload_n 2) 1 37 := ⟨by decide +kernel, rfl⟩
theorem dX1_readFigure_37 : ml_d cX1_readFigure 37 (.invokestatic 80) 3 40 := ⟨by decide +kernel, rfl⟩
theorem dX1_readFigure_40 : ml_j cX1_readFigure 40 (.ifCond .ne) 53 43 := ⟨13, by decide +kernel, by decide, rfl⟩
theorem dX1_readFigure_43 : ml_d cX1_readFigure 43 (.aload_n 0) 1 44 := ⟨by decide +kernel, rfl⟩
theorem dX1_readFigure_44 : ml_d cX1_readFigure 44 (.aload_n 0) 1 45 := ⟨by decide +kernel, rfl⟩
theorem dX1_readFigure_45 : ml_d cX1_readFigure 45 (.getfield 31) 3 48 := ⟨by decide +kernel, rfl⟩
theorem dX1_readFigure_48 : ml_d cX1_readFigure 48 (.putfield 23) 3 51 := ⟨by decide +kernel, rfl⟩
theorem dX1_readFigure_51 : ml_d cX1_readFigure 51 (.iconst 0) 1 52 := ⟨by decide +kernel, rfl⟩
theorem dX1_readFigure_52 : ml_d cX1_readFigure 52 (.ireturn) 1 53 := ⟨by decide +kernel, rfl⟩
theorem dX1_readFigure_53 : ml_d cX1_readFigure 53 (.aload_n 0) 1 54 := ⟨by decide +kernel, rfl⟩
theorem dX1_readFigure_54 : ml_d cX1_readFigure 54 (.getfield 27) 3 57 := ⟨by decide +kernel, rfl⟩
theorem dX1_readFigure_57 : ml_d cX1_readFigure 57 (.aload_n 0) 1 58 := ⟨by decide +kernel, rfl⟩
theorem dX1_readFigure_58 : ml_d cX1_readFigure 58 (.getfield 31) 3 61 := ⟨by decide +kernel, rfl⟩
theorem dX1_readFigure_61 : ml_d cX1_readFigure 61 (.baload) 1 62 := ⟨by decide +kernel, rfl⟩
theorem dX1_readFigure_62 : ml_d cX1_readFigure 62 (.bipush 48) 2 64 := ⟨by decide +kernel, rfl⟩
theorem dX1_readFigure_64 : ml_d cX1_readFigure 64 (.isub) 1 65 := ⟨by decide +kernel, rfl⟩
theorem dX1_readFigure_65 : ml_d cX1_readFigure 65 (.istore_n 3) 1 66 := ⟨by decide +kernel, rfl⟩
theorem dX1_readFigure_66 : ml_d cX1_readFigure 66 (.aload_n 0) 1 67 := ⟨by decide +kernel, rfl⟩
theorem dX1_readFigure_67 : ml_d cX1_readFigure 67 (.dup) 1 68 := ⟨by decide +kernel, rfl⟩
theorem dX1_readFigure_68 : ml_d cX1_readFigure 68 (.getfield 31) 3 71 := ⟨by decide +kernel, rfl⟩
theorem dX1_readFigure_71 : ml_d cX1_readFigure 71 (.iconst 1) 1 72 := ⟨by decide +kernel, rfl⟩
theorem dX1_readFigure_72 : ml_d cX1_readFigure 72 (.iadd) 1 73 := ⟨by decide +kernel, rfl⟩
theorem dX1_readFigure_73 : ml_d cX1_readFigure 73 (.putfield 31) 3 76 := ⟨by decide +kernel, rfl⟩
theorem dX1_readFigure_76 : ml_d cX1_readFigure 76 (.iload_n 3) 1 77 := ⟨by decide +kernel, rfl⟩
theorem dX1_readFigure_77 : ml_d cX1_readFigure 77 (.ireturn) 1 78 := ⟨by decide +kernel, rfl⟩
def fX1_readFigure_43 (l0 : Nat) (m : ml_M) : Option (Int32 × ml_M) :=
    if (ml_K m l0).1 = 1 then
    ml_let (ml_sI m l0 4 (ml_I m l0 7)) fun m846 =>
    some ((0 : Int32), m846)
    else none
theorem vX1_readFigure_43 {E : ml_E} (hL : ml_eL E = 4) {rv : Int32} {rm : ml_M} (hr : ∀ (pc pc' : Nat) (lv : List (Nat × ml_X)), ml_d cX1_readFigure pc .ireturn 1 pc' → True → ml_V E "LostRoom$Book" cX1_readFigure 3 false rm pc lv [ml_i rv]) : ∀ (l0 : Nat) (m : ml_M), fX1_readFigure_43 l0 m = some (rv, rm) → ml_V E "LostRoom$Book" cX1_readFigure 3 false m 43 [(0, ml_r l0)] [] := by
  intro l0 m h
  unfold fX1_readFigure_43 at h
  exact ml_aload_n dX1_readFigure_43 0 rfl <| ml_aload_n dX1_readFigure_44 0 rfl <| ml_ck_of h fun hc845 h => ml_getI dX1_readFigure_45 wb_119 hc845 <| ml_putI dX1_readFigure_48 wb_120 hc845 <| ml_lt (m := m) rfl h fun m846 em847 h => ml_iconst dX1_readFigure_51 kc_i0 <| ml_rI (mk := ml_i) hr dX1_readFigure_52 (fun _ => trivial) h
def fX1_readFigure (l0 : Nat) (l1 : Int32) (l2 : Int32) (m : ml_M) : Option (Int32 × ml_M) :=
    if (ml_K m l0).1 = 1 then
    if (ml_I m l0 4) = (-9 : Int32) then
    ml_let (ml_R m l0 6) fun a849 =>
    if (ml_K m a849).1 = 21 then
    if (Int32.ofNat (ml_K m a849).2) ≤ (ml_I m l0 7) then
    fX1_readFigure_43 l0 m
    else
    ml_let (ml_R m l0 6) fun a851 =>
    if ml_in m a851 21 (ml_I m l0 7) then
    ml_b1 (fX10_within ((ml_I m a851 (ml_I m l0 7).toNatClampNeg) - (48 : Int32)) l1 l2 m) fun r854 =>
    if r854 = 0 then
    fX1_readFigure_43 l0 m
    else
    ml_let (ml_R m l0 6) fun a855 =>
    if ml_in m a855 21 (ml_I m l0 7) then
    ml_let ((ml_I m a855 (ml_I m l0 7).toNatClampNeg) - (48 : Int32)) fun x857 =>
    ml_let (ml_sI m l0 7 ((ml_I m l0 7) + (1 : Int32))) fun m858 =>
    some (x857, m858)
    else none
    else none
    else none
    else
    some ((0 : Int32), m)
    else none
theorem wX1_readFigure_0 {E : ml_E} (hL : ml_eL E = 4) {rv : Int32} {rm : ml_M} (hr : ∀ (pc pc' : Nat) (lv : List (Nat × ml_X)), ml_d cX1_readFigure pc .ireturn 1 pc' → True → ml_V E "LostRoom$Book" cX1_readFigure 3 false rm pc lv [ml_i rv]) : ∀ (l0 : Nat) (l1 : Int32) (l2 : Int32) (m : ml_M), fX1_readFigure l0 l1 l2 m = some (rv, rm) → ml_V E "LostRoom$Book" cX1_readFigure 3 false m 0 [(0, ml_r l0), (1, ml_i l1), (2, ml_i l2)] [] := by
  intro l0 l1 l2 m h
  unfold fX1_readFigure at h
  exact ml_aload_n dX1_readFigure_0 0 rfl <| ml_ck_of h fun hc848 h => ml_getI dX1_readFigure_1 wb_121 hc848 <| ml_bipush dX1_readFigure_4 kc_bm9 <| ml_icmp_eq dX1_readFigure_6 h (fun _ h => ml_aload_n dX1_readFigure_11 0 rfl <| ml_getI dX1_readFigure_12 wb_119 hc848 <| ml_aload_n dX1_readFigure_15 0 rfl <| ml_getR dX1_readFigure_16 wb_122 hc848 <| ml_lx (mk := ml_r) h fun a849 h => ml_ck_of h fun hc850 h => ml_alen (kd := 21) dX1_readFigure_19 (by decide) hc850 <| ml_icmp_ge dX1_readFigure_20 h (fun _ h => ml_V.sub [0] rfl (vX1_readFigure_43 hL hr  _ _ h)) (fun _ h => ml_aload_n dX1_readFigure_23 0 rfl <| ml_getR dX1_readFigure_24 wb_122 hc848 <| ml_lx (mk := ml_r) h fun a851 h => ml_aload_n dX1_readFigure_27 0 rfl <| ml_getI dX1_readFigure_28 wb_119 hc848 <| ml_ck_of h fun hi852 h => ml_bald dX1_readFigure_31 hi852 <| ml_bipush dX1_readFigure_32 kc_b48 <| ml_isub dX1_readFigure_34 <| ml_iload_n dX1_readFigure_35 1 rfl <| ml_iload_n dX1_readFigure_36 2 rfl <| ml_b1_of h fun r854 hv853 h => ml_callSN (host := "LostRoom") dX1_readFigure_37 (by decide) wb_94 (sX10_within hv853) rfl (Nat.le_of_ble_eq_true rfl) (Nat.le_of_ble_eq_true rfl) rfl <| ml_if_ne dX1_readFigure_40 h (fun _ h => ml_aload_n dX1_readFigure_53 0 rfl <| ml_getR dX1_readFigure_54 wb_122 hc848 <| ml_lx (mk := ml_r) h fun a855 h => ml_aload_n dX1_readFigure_57 0 rfl <| ml_getI dX1_readFigure_58 wb_119 hc848 <| ml_ck_of h fun hi856 h => ml_bald dX1_readFigure_61 hi856 <| ml_bipush dX1_readFigure_62 kc_b48 <| ml_isub dX1_readFigure_64 <| ml_lx (mk := ml_i) h fun x857 h => ml_istore_n (lv' := [(3, ml_i x857), (0, ml_r l0), (1, ml_i l1), (2, ml_i l2)]) dX1_readFigure_65 (ml_hn hL rfl) rfl <| ml_aload_n dX1_readFigure_66 1 rfl <| ml_dup dX1_readFigure_67 rfl <| ml_getI dX1_readFigure_68 wb_119 hc848 <| ml_iconst dX1_readFigure_71 kc_i1 <| ml_iadd dX1_readFigure_72 <| ml_putI dX1_readFigure_73 wb_123 hc848 <| ml_lt (m := m) rfl h fun m858 em859 h => ml_iload_n dX1_readFigure_76 0 rfl <| ml_rI (mk := ml_i) hr dX1_readFigure_77 (fun _ => trivial) h) (fun _ h => ml_V.sub [0] rfl (vX1_readFigure_43 hL hr  _ _ h)))) (fun _ h => ml_iconst dX1_readFigure_9 kc_i0 <| ml_rI (mk := ml_i) hr dX1_readFigure_10 (fun _ => trivial) h)
theorem sX1_readFigure {l0 : Nat} {l1 : Int32} {l2 : Int32} {m : ml_M} {rv : Int32} {rm : ml_M} (h : fX1_readFigure l0 l1 l2 m = some (rv, rm)) : ml_Sn yX1_readFigure cX1_readFigure 4 (some .int) 3 [ml_r l0, ml_i l1, ml_i l2] m (some (ml_i rv)) rm :=
  ml_Sn_of (P := True) (ini := false) (by decide +kernel) (Nat.le_of_ble_eq_true rfl) (fun h => by cases h) (fun _ => ml_RkI rv) fun E hL hr => wX1_readFigure_0 hL hr _ _ _ _ h
theorem dX1_readYear_0 : ml_d cX1_readYear 0 (.aload_n 0) 1 1 := ⟨by decide +kernel, rfl⟩
theorem dX1_readYear_1 : ml_d cX1_readYear 1 (.iconst 0) 1 2 := ⟨by decide +kernel, rfl⟩
theorem dX1_readYear_2 : ml_d cX1_readYear 2 (.bipush 9) 2 4 := ⟨by decide +kernel, rfl⟩
theorem dX1_readYear_4 : ml_d cX1_readYear 4 (.invokevirtual 64) 3 7 := ⟨by decide +kernel, rfl⟩
theorem dX1_readYear_7 : ml_d cX1_readYear 7 (.istore_n 1) 1 8 := ⟨by decide +kernel, rfl⟩
theorem dX1_readYear_8 : ml_d cX1_readYear 8 (.aload_n 0) 1 9 := ⟨by decide +kernel, rfl⟩
theorem dX1_readYear_9 : ml_d cX1_readYear 9 (.getfield 23) 3 12 := ⟨by decide +kernel, rfl⟩
theorem dX1_readYear_12 : ml_d cX1_readYear 12 (.bipush (-9)) 2 14 := ⟨by decide +kernel, rfl⟩
theorem dX1_readYear_14 : ml_j cX1_readYear 14 (.if_icmp .ne) 52 17 := ⟨38, by decide +kernel, by decide, rfl⟩
theorem dX1_readYear_17 : ml_d cX1_readYear 17 (.aload_n 0) 1 18 := ⟨by decide +kernel, rfl⟩
theorem dX1_readYear_18 : ml_d cX1_readYear 18 (.getfield 31) 3 21 := ⟨by decide +kernel, rfl⟩
theorem dX1_readYear_21 : ml_d cX1_readYear 21 (.aload_n 0) 1 22 := ⟨by decide +kernel, rfl⟩
theorem dX1_readYear_22 : ml_d cX1_readYear 22 (.getfield 27) 3 25 := ⟨by decide +kernel, rfl⟩
theorem dX1_readYear_25 : ml_d cX1_readYear 25 (.arraylength) 1 26 := ⟨by decide +kernel, rfl⟩
theorem dX1_readYear_26 : ml_j cX1_readYear 26 (.if_icmp .ge) 52 29 := ⟨26, by decide +kernel, by decide, rfl⟩
theorem dX1_readYear_29 : ml_d cX1_readYear 29 (.aload_n 0) 1 30 := ⟨by decide +kernel, rfl⟩
theorem dX1_readYear_30 : ml_d cX1_readYear 30 (.getfield 27) 3 33 := ⟨by decide +kernel, rfl⟩
theorem dX1_readYear_33 : ml_d cX1_readYear 33 (.aload_n 0) 1 34 := ⟨by decide +kernel, rfl⟩
theorem dX1_readYear_34 : ml_d cX1_readYear 34 (.getfield 31) 3 37 := ⟨by decide +kernel, rfl⟩
theorem dX1_readYear_37 : ml_d cX1_readYear 37 (.baload) 1 38 := ⟨by decide +kernel, rfl⟩
theorem dX1_readYear_38 : ml_d cX1_readYear 38 (.bipush 48) 2 40 := ⟨by decide +kernel, rfl⟩
theorem dX1_readYear_40 : ml_d cX1_readYear 40 (.bipush 57) 2 42 := ⟨by decide +kernel, rfl⟩
theorem dX1_readYear_42 : ml_d cX1_readYear 42 (.invokestatic 80) 3 45 := ⟨by decide +kernel, rfl⟩
theorem dX1_readYear_45 : ml_j cX1_readYear 45 (.ifCond .eq) 52 48 := ⟨7, by decide +kernel, by decide, rfl⟩
theorem dX1_readYear_48 : ml_d cX1_readYear 48 (.iconst 1) 1 49 := ⟨by decide +kernel, rfl⟩
theorem dX1_readYear_49 : ml_j cX1_readYear 49 .goto 53 52 := ⟨4, by decide +kernel, by decide, rfl⟩
theorem dX1_readYear_52 : ml_d cX1_readYear 52 (.iconst 0) 1 53 := ⟨by decide +kernel, rfl⟩
theorem dX1_readYear_53 : ml_d cX1_readYear 53 (.istore_n 2) 1 54 := ⟨by decide +kernel, rfl⟩
theorem dX1_readYear_54 : ml_d cX1_readYear 54 (.iload_n 2) 1 55 := ⟨by decide +kernel, rfl⟩
theorem dX1_readYear_55 : ml_j cX1_readYear 55 (.ifCond .eq) 73 58 := ⟨18, by decide +kernel, by decide, rfl⟩
theorem dX1_readYear_58 : ml_d cX1_readYear 58 (.bipush 10) 2 60 := ⟨by decide +kernel, rfl⟩
theorem dX1_readYear_60 : ml_d cX1_readYear 60 (.iload_n 1) 1 61 := ⟨by decide +kernel, rfl⟩
theorem dX1_readYear_61 : ml_d cX1_readYear 61 (.imul) 1 62 := ⟨by decide +kernel, rfl⟩
theorem dX1_readYear_62 : ml_d cX1_readYear 62 (.aload_n 0) 1 63 := ⟨by decide +kernel, rfl⟩
theorem dX1_readYear_63 : ml_d cX1_readYear 63 (.iconst 0) 1 64 := ⟨by decide +kernel, rfl⟩
theorem dX1_readYear_64 : ml_d cX1_readYear 64 (.bipush 9) 2 66 := ⟨by decide +kernel, rfl⟩
theorem dX1_readYear_66 : ml_d cX1_readYear 66 (.invokevirtual 64) 3 69 := ⟨by decide +kernel, rfl⟩
theorem dX1_readYear_69 : ml_d cX1_readYear 69 (.iadd) 1 70 := ⟨by decide +kernel, rfl⟩
theorem dX1_readYear_70 : ml_j cX1_readYear 70 .goto 74 73 := ⟨4, by decide +kernel, by decide, rfl⟩
theorem dX1_readYear_73 : ml_d cX1_readYear 73 (.iload_n 1) 1 74 := ⟨by decide +kernel, rfl⟩
theorem dX1_readYear_74 : ml_d cX1_readYear 74 (.ireturn) 1 75 := ⟨by decide +kernel, rfl⟩
def fX1_readYear_53 (l0 : Nat) (l1 : Int32) (t0 : Int32) (m : ml_M) : Option (Int32 × ml_M) :=
    if t0 = 0 then
    some (l1, m)
    else
    if (ml_K m l0).1 = 1 then
    ml_b2 (fX1_readFigure l0 (0 : Int32) (9 : Int32) m) fun r862 m863 =>
    some ((((10 : Int32) * l1) + r862), m863)
    else none
theorem vX1_readYear_53 {E : ml_E} (hL : ml_eL E = 3) {rv : Int32} {rm : ml_M} (hr : ∀ (pc pc' : Nat) (lv : List (Nat × ml_X)), ml_d cX1_readYear pc .ireturn 1 pc' → True → ml_V E "LostRoom$Book" cX1_readYear 4 false rm pc lv [ml_i rv]) : ∀ (l0 : Nat) (l1 : Int32) (t0 : Int32) (m : ml_M), fX1_readYear_53 l0 l1 t0 m = some (rv, rm) → ml_V E "LostRoom$Book" cX1_readYear 4 false m 53 [(0, ml_r l0), (1, ml_i l1)] [ml_i t0] := by
  intro l0 l1 t0 m h
  unfold fX1_readYear_53 at h
  exact ml_istore_n (lv' := [(2, ml_i t0), (0, ml_r l0), (1, ml_i l1)]) dX1_readYear_53 (ml_hn hL rfl) rfl <| ml_iload_n dX1_readYear_54 0 rfl <| ml_if_eq dX1_readYear_55 h (fun _ h => ml_iload_n dX1_readYear_73 2 rfl <| ml_rI (mk := ml_i) hr dX1_readYear_74 (fun _ => trivial) h) (fun _ h => ml_bipush dX1_readYear_58 kc_b10 <| ml_iload_n dX1_readYear_60 2 rfl <| ml_imul dX1_readYear_61 <| ml_aload_n dX1_readYear_62 1 rfl <| ml_iconst dX1_readYear_63 kc_i0 <| ml_bipush dX1_readYear_64 kc_b9 <| ml_ck_of h fun hc861 h => ml_b2_of h fun r862 m863 hv860 h => ml_callV dX1_readYear_66 wm_177 wb_124 hc861 (sX1_readFigure hv860) rfl (Nat.le_of_ble_eq_true rfl) (Nat.le_of_ble_eq_true rfl) rfl <| ml_iadd dX1_readYear_69 <| ml_goto dX1_readYear_70 <| ml_rI (mk := ml_i) hr dX1_readYear_74 (fun _ => trivial) h)
def fX1_readYear_52 (l0 : Nat) (l1 : Int32) (m : ml_M) : Option (Int32 × ml_M) :=
    fX1_readYear_53 l0 l1 (0 : Int32) m
theorem vX1_readYear_52 {E : ml_E} (hL : ml_eL E = 3) {rv : Int32} {rm : ml_M} (hr : ∀ (pc pc' : Nat) (lv : List (Nat × ml_X)), ml_d cX1_readYear pc .ireturn 1 pc' → True → ml_V E "LostRoom$Book" cX1_readYear 4 false rm pc lv [ml_i rv]) : ∀ (l0 : Nat) (l1 : Int32) (m : ml_M), fX1_readYear_52 l0 l1 m = some (rv, rm) → ml_V E "LostRoom$Book" cX1_readYear 4 false m 52 [(0, ml_r l0), (1, ml_i l1)] [] := by
  intro l0 l1 m h
  unfold fX1_readYear_52 at h
  exact ml_iconst dX1_readYear_52 kc_i0 <| ml_V.sub [0, 1] rfl (vX1_readYear_53 hL hr  _ _ _ _ h)
def fX1_readYear (l0 : Nat) (m : ml_M) : Option (Int32 × ml_M) :=
    if (ml_K m l0).1 = 1 then
    ml_b2 (fX1_readFigure l0 (0 : Int32) (9 : Int32) m) fun r866 m867 =>
    if (ml_K m867 l0).1 = 1 then
    if (ml_I m867 l0 4) = (-9 : Int32) then
    ml_let (ml_R m867 l0 6) fun a869 =>
    if (ml_K m867 a869).1 = 21 then
    if (Int32.ofNat (ml_K m867 a869).2) ≤ (ml_I m867 l0 7) then
    fX1_readYear_52 l0 r866 m867
    else
    ml_let (ml_R m867 l0 6) fun a871 =>
    if ml_in m867 a871 21 (ml_I m867 l0 7) then
    ml_b1 (fX10_within (ml_I m867 a871 (ml_I m867 l0 7).toNatClampNeg) (48 : Int32) (57 : Int32) m867) fun r874 =>
    if r874 = 0 then
    fX1_readYear_52 l0 r866 m867
    else
    fX1_readYear_53 l0 r866 (1 : Int32) m867
    else none
    else none
    else
    fX1_readYear_52 l0 r866 m867
    else none
    else none
theorem wX1_readYear_0 {E : ml_E} (hL : ml_eL E = 3) {rv : Int32} {rm : ml_M} (hr : ∀ (pc pc' : Nat) (lv : List (Nat × ml_X)), ml_d cX1_readYear pc .ireturn 1 pc' → True → ml_V E "LostRoom$Book" cX1_readYear 4 false rm pc lv [ml_i rv]) : ∀ (l0 : Nat) (m : ml_M), fX1_readYear l0 m = some (rv, rm) → ml_V E "LostRoom$Book" cX1_readYear 4 false m 0 [(0, ml_r l0)] [] := by
  intro l0 m h
  unfold fX1_readYear at h
  exact ml_aload_n dX1_readYear_0 0 rfl <| ml_iconst dX1_readYear_1 kc_i0 <| ml_bipush dX1_readYear_2 kc_b9 <| ml_ck_of h fun hc865 h => ml_b2_of h fun r866 m867 hv864 h => ml_callV dX1_readYear_4 wm_177 wb_124 hc865 (sX1_readFigure hv864) rfl (Nat.le_of_ble_eq_true rfl) (Nat.le_of_ble_eq_true rfl) rfl <| ml_istore_n (lv' := [(1, ml_i r866), (0, ml_r l0)]) dX1_readYear_7 (ml_hn hL rfl) rfl <| ml_aload_n dX1_readYear_8 1 rfl <| ml_ck_of h fun hc868 h => ml_getI dX1_readYear_9 wb_121 hc868 <| ml_bipush dX1_readYear_12 kc_bm9 <| ml_icmp_ne dX1_readYear_14 h (fun _ h => ml_V.sub [1, 0] rfl (vX1_readYear_52 hL hr  _ _ _ h)) (fun _ h => ml_aload_n dX1_readYear_17 1 rfl <| ml_getI dX1_readYear_18 wb_119 hc868 <| ml_aload_n dX1_readYear_21 1 rfl <| ml_getR dX1_readYear_22 wb_122 hc868 <| ml_lx (mk := ml_r) h fun a869 h => ml_ck_of h fun hc870 h => ml_alen (kd := 21) dX1_readYear_25 (by decide) hc870 <| ml_icmp_ge dX1_readYear_26 h (fun _ h => ml_V.sub [1, 0] rfl (vX1_readYear_52 hL hr  _ _ _ h)) (fun _ h => ml_aload_n dX1_readYear_29 1 rfl <| ml_getR dX1_readYear_30 wb_122 hc868 <| ml_lx (mk := ml_r) h fun a871 h => ml_aload_n dX1_readYear_33 1 rfl <| ml_getI dX1_readYear_34 wb_119 hc868 <| ml_ck_of h fun hi872 h => ml_bald dX1_readYear_37 hi872 <| ml_bipush dX1_readYear_38 kc_b48 <| ml_bipush dX1_readYear_40 kc_b57 <| ml_b1_of h fun r874 hv873 h => ml_callSN (host := "LostRoom") dX1_readYear_42 (by decide) wb_94 (sX10_within hv873) rfl (Nat.le_of_ble_eq_true rfl) (Nat.le_of_ble_eq_true rfl) rfl <| ml_if_eq dX1_readYear_45 h (fun _ h => ml_V.sub [1, 0] rfl (vX1_readYear_52 hL hr  _ _ _ h)) (fun _ h => ml_iconst dX1_readYear_48 kc_i1 <| ml_goto dX1_readYear_49 <| ml_V.sub [1, 0] rfl (vX1_readYear_53 hL hr  _ _ _ _ h))))
theorem sX1_readYear {l0 : Nat} {m : ml_M} {rv : Int32} {rm : ml_M} (h : fX1_readYear l0 m = some (rv, rm)) : ml_Sn yX1_readYear cX1_readYear 3 (some .int) 4 [ml_r l0] m (some (ml_i rv)) rm :=
  ml_Sn_of (P := True) (ini := false) (by decide +kernel) (Nat.le_of_ble_eq_true rfl) (fun h => by cases h) (fun _ => ml_RkI rv) fun E hL hr => wX1_readYear_0 hL hr _ _ h
theorem dX1_readSign_0 : ml_d cX1_readSign 0 (.aload_n 0) 1 1 := ⟨by decide +kernel, rfl⟩
theorem dX1_readSign_1 : ml_d cX1_readSign 1 (.getfield 23) 3 4 := ⟨by decide +kernel, rfl⟩
theorem dX1_readSign_4 : ml_d cX1_readSign 4 (.bipush (-9)) 2 6 := ⟨by decide +kernel, rfl⟩
theorem dX1_readSign_6 : ml_j cX1_readSign 6 (.if_icmp .eq) 10 9 := ⟨4, by decide +kernel, by decide, rfl⟩
theorem dX1_readSign_9 : ml_d cX1_readSign 9 (.return_) 1 10 := ⟨by decide +kernel, rfl⟩
theorem dX1_readSign_10 : ml_d cX1_readSign 10 (.aload_n 0) 1 11 := ⟨by decide +kernel, rfl⟩
theorem dX1_readSign_11 : ml_d cX1_readSign 11 (.getfield 31) 3 14 := ⟨by decide +kernel, rfl⟩
theorem dX1_readSign_14 : ml_d cX1_readSign 14 (.aload_n 0) 1 15 := ⟨by decide +kernel, rfl⟩
theorem dX1_readSign_15 : ml_d cX1_readSign 15 (.getfield 27) 3 18 := ⟨by decide +kernel, rfl⟩
theorem dX1_readSign_18 : ml_d cX1_readSign 18 (.arraylength) 1 19 := ⟨by decide +kernel, rfl⟩
theorem dX1_readSign_19 : ml_j cX1_readSign 19 (.if_icmp .ge) 48 22 := ⟨29, by decide +kernel, by decide, rfl⟩
theorem dX1_readSign_22 : ml_d cX1_readSign 22 (.aload_n 0) 1 23 := ⟨by decide +kernel, rfl⟩
theorem dX1_readSign_23 : ml_d cX1_readSign 23 (.getfield 27) 3 26 := ⟨by decide +kernel, rfl⟩
theorem dX1_readSign_26 : ml_d cX1_readSign 26 (.aload_n 0) 1 27 := ⟨by decide +kernel, rfl⟩
theorem dX1_readSign_27 : ml_d cX1_readSign 27 (.getfield 31) 3 30 := ⟨by decide +kernel, rfl⟩
theorem dX1_readSign_30 : ml_d cX1_readSign 30 (.baload) 1 31 := ⟨by decide +kernel, rfl⟩
theorem dX1_readSign_31 : ml_d cX1_readSign 31 (.iload_n 1) 1 32 := ⟨by decide +kernel, rfl⟩
theorem dX1_readSign_32 : ml_j cX1_readSign 32 (.if_icmp .ne) 48 35 := ⟨16, by decide +kernel, by decide, rfl⟩
theorem dX1_readSign_35 : ml_d cX1_readSign 35 (.aload_n 0) 1 36 := ⟨by decide +kernel, rfl⟩
theorem dX1_readSign_36 : ml_d cX1_readSign 36 (.dup) 1 37 := ⟨by decide +kernel, rfl⟩
theorem dX1_readSign_37 : ml_d cX1_readSign 37 (.getfield 31) 3 40 := ⟨by decide +kernel, rfl⟩
theorem dX1_readSign_40 : ml_d cX1_readSign 40 (.iconst 1) 1 41 := ⟨by decide +kernel, rfl⟩
theorem dX1_readSign_41 : ml_d cX1_readSign 41 (.iadd) 1 42 := ⟨by decide +kernel, rfl⟩
theorem dX1_readSign_42 : ml_d cX1_readSign 42 (.putfield 31) 3 45 := ⟨by decide +kernel, rfl⟩
theorem dX1_readSign_45 : ml_j cX1_readSign 45 .goto 56 48 := ⟨11, by decide +kernel, by decide, rfl⟩
theorem dX1_readSign_48 : ml_d cX1_readSign 48 (.aload_n 0) 1 49 := ⟨by decide +kernel, rfl⟩
theorem dX1_readSign_49 : ml_d cX1_readSign 49 (.aload_n 0) 1 50 := ⟨by decide +kernel, rfl⟩
theorem dX1_readSign_50 : ml_d cX1_readSign 50 (.getfield 31) 3 53 := ⟨by decide +kernel, rfl⟩
theorem dX1_readSign_53 : ml_d cX1_readSign 53 (.putfield 23) 3 56 := ⟨by decide +kernel, rfl⟩
theorem dX1_readSign_56 : ml_d cX1_readSign 56 (.return_) 1 57 := ⟨by decide +kernel, rfl⟩
def fX1_readSign_48 (l0 : Nat) (m : ml_M) : Option ml_M :=
    if (ml_K m l0).1 = 1 then
    ml_let (ml_sI m l0 4 (ml_I m l0 7)) fun m876 =>
    some m876
    else none
theorem vX1_readSign_48 {E : ml_E} (hL : ml_eL E = 2) {rm : ml_M} (hr : ∀ (pc pc' : Nat) (lv : List (Nat × ml_X)), ml_d cX1_readSign pc .return_ 1 pc' → True → ml_V E "LostRoom$Book" cX1_readSign 2 false rm pc lv []) : ∀ (l0 : Nat) (m : ml_M), fX1_readSign_48 l0 m = some rm → ml_V E "LostRoom$Book" cX1_readSign 2 false m 48 [(0, ml_r l0)] [] := by
  intro l0 m h
  unfold fX1_readSign_48 at h
  exact ml_aload_n dX1_readSign_48 0 rfl <| ml_aload_n dX1_readSign_49 0 rfl <| ml_ck_of h fun hc875 h => ml_getI dX1_readSign_50 wb_119 hc875 <| ml_putI dX1_readSign_53 wb_120 hc875 <| ml_lt (m := m) rfl h fun m876 em877 h => ml_rv hr dX1_readSign_56 trivial h
def fX1_readSign (l0 : Nat) (l1 : Int32) (m : ml_M) : Option ml_M :=
    if (ml_K m l0).1 = 1 then
    if (ml_I m l0 4) = (-9 : Int32) then
    ml_let (ml_R m l0 6) fun a879 =>
    if (ml_K m a879).1 = 21 then
    if (Int32.ofNat (ml_K m a879).2) ≤ (ml_I m l0 7) then
    fX1_readSign_48 l0 m
    else
    ml_let (ml_R m l0 6) fun a881 =>
    if ml_in m a881 21 (ml_I m l0 7) then
    if (ml_I m a881 (ml_I m l0 7).toNatClampNeg) = l1 then
    ml_let (ml_sI m l0 7 ((ml_I m l0 7) + (1 : Int32))) fun m883 =>
    some m883
    else
    fX1_readSign_48 l0 m
    else none
    else none
    else
    some m
    else none
theorem wX1_readSign_0 {E : ml_E} (hL : ml_eL E = 2) {rm : ml_M} (hr : ∀ (pc pc' : Nat) (lv : List (Nat × ml_X)), ml_d cX1_readSign pc .return_ 1 pc' → True → ml_V E "LostRoom$Book" cX1_readSign 2 false rm pc lv []) : ∀ (l0 : Nat) (l1 : Int32) (m : ml_M), fX1_readSign l0 l1 m = some rm → ml_V E "LostRoom$Book" cX1_readSign 2 false m 0 [(0, ml_r l0), (1, ml_i l1)] [] := by
  intro l0 l1 m h
  unfold fX1_readSign at h
  exact ml_aload_n dX1_readSign_0 0 rfl <| ml_ck_of h fun hc878 h => ml_getI dX1_readSign_1 wb_121 hc878 <| ml_bipush dX1_readSign_4 kc_bm9 <| ml_icmp_eq dX1_readSign_6 h (fun _ h => ml_aload_n dX1_readSign_10 0 rfl <| ml_getI dX1_readSign_11 wb_119 hc878 <| ml_aload_n dX1_readSign_14 0 rfl <| ml_getR dX1_readSign_15 wb_122 hc878 <| ml_lx (mk := ml_r) h fun a879 h => ml_ck_of h fun hc880 h => ml_alen (kd := 21) dX1_readSign_18 (by decide) hc880 <| ml_icmp_ge dX1_readSign_19 h (fun _ h => ml_V.sub [0] rfl (vX1_readSign_48 hL hr  _ _ h)) (fun _ h => ml_aload_n dX1_readSign_22 0 rfl <| ml_getR dX1_readSign_23 wb_122 hc878 <| ml_lx (mk := ml_r) h fun a881 h => ml_aload_n dX1_readSign_26 0 rfl <| ml_getI dX1_readSign_27 wb_119 hc878 <| ml_ck_of h fun hi882 h => ml_bald dX1_readSign_30 hi882 <| ml_iload_n dX1_readSign_31 1 rfl <| ml_icmp_ne dX1_readSign_32 h (fun _ h => ml_V.sub [0] rfl (vX1_readSign_48 hL hr  _ _ h)) (fun _ h => ml_aload_n dX1_readSign_35 0 rfl <| ml_dup dX1_readSign_36 rfl <| ml_getI dX1_readSign_37 wb_119 hc878 <| ml_iconst dX1_readSign_40 kc_i1 <| ml_iadd dX1_readSign_41 <| ml_putI dX1_readSign_42 wb_123 hc878 <| ml_lt (m := m) rfl h fun m883 em884 h => ml_goto dX1_readSign_45 <| ml_rv hr dX1_readSign_56 trivial h))) (fun _ h => ml_rv hr dX1_readSign_9 trivial h)
theorem sX1_readSign {l0 : Nat} {l1 : Int32} {m : ml_M} {rm : ml_M} (h : fX1_readSign l0 l1 m = some rm) : ml_Sn yX1_readSign cX1_readSign 2 none 2 [ml_r l0, ml_i l1] m none rm :=
  ml_Sn_of (P := True) (ini := false) (by decide +kernel) (Nat.le_of_ble_eq_true rfl) (fun h => by cases h) (fun _ => ml_RkV) fun E hL hr => wX1_readSign_0 hL hr _ _ _ h
theorem dX6_init_0 : ml_d cX6_init 0 (.aload_n 0) 1 1 := ⟨by decide +kernel, rfl⟩
theorem dX6_init_1 : ml_d cX6_init 1 (.invokespecial 1) 3 4 := ⟨by decide +kernel, rfl⟩
theorem dX6_init_4 : ml_d cX6_init 4 (.aload_n 0) 1 5 := ⟨by decide +kernel, rfl⟩
theorem dX6_init_5 : ml_d cX6_init 5 (.iload_n 1) 1 6 := ⟨by decide +kernel, rfl⟩
theorem dX6_init_6 : ml_d cX6_init 6 (.putfield 7) 3 9 := ⟨by decide +kernel, rfl⟩
theorem dX6_init_9 : ml_d cX6_init 9 (.aload_n 0) 1 10 := ⟨by decide +kernel, rfl⟩
theorem dX6_init_10 : ml_d cX6_init 10 (.iload_n 2) 1 11 := ⟨by decide +kernel, rfl⟩
theorem dX6_init_11 : ml_d cX6_init 11 (.putfield 13) 3 14 := ⟨by decide +kernel, rfl⟩
theorem dX6_init_14 : ml_d cX6_init 14 (.aload_n 0) 1 15 := ⟨by decide +kernel, rfl⟩
theorem dX6_init_15 : ml_d cX6_init 15 (.iload_n 3) 1 16 := ⟨by decide +kernel, rfl⟩
theorem dX6_init_16 : ml_d cX6_init 16 (.putfield 16) 3 19 := ⟨by decide +kernel, rfl⟩
theorem dX6_init_19 : ml_d cX6_init 19 (.aload_n 0) 1 20 := ⟨by decide +kernel, rfl⟩
theorem dX6_init_20 : ml_d cX6_init 20 (.iload 4) 2 22 := ⟨by decide +kernel, rfl⟩
theorem dX6_init_22 : ml_d cX6_init 22 (.putfield 19) 3 25 := ⟨by decide +kernel, rfl⟩
theorem dX6_init_25 : ml_d cX6_init 25 (.aload_n 0) 1 26 := ⟨by decide +kernel, rfl⟩
theorem dX6_init_26 : ml_d cX6_init 26 (.iload 5) 2 28 := ⟨by decide +kernel, rfl⟩
theorem dX6_init_28 : ml_d cX6_init 28 (.putfield 22) 3 31 := ⟨by decide +kernel, rfl⟩
theorem dX6_init_31 : ml_d cX6_init 31 (.return_) 1 32 := ⟨by decide +kernel, rfl⟩
def fX6_init (l0 : Nat) (l1 : Int32) (l2 : Int32) (l3 : Int32) (l4 : Int32) (l5 : Int32) (m : ml_M) : Option ml_M :=
    if l0 ≠ 0 then
    if (ml_K m l0).1 = 6 then
    ml_let (ml_sI m l0 0 l1) fun m887 =>
    ml_let (ml_sI m887 l0 1 l2) fun m889 =>
    ml_let (ml_sI m889 l0 2 l3) fun m891 =>
    ml_let (ml_sI m891 l0 3 l4) fun m893 =>
    ml_let (ml_sI m893 l0 4 l5) fun m895 =>
    some m895
    else none
    else none
theorem wX6_init_0 {E : ml_E} (hL : ml_eL E = 6) {rm : ml_M} (hr : ∀ (pc pc' : Nat) (lv : List (Nat × ml_X)), ml_d cX6_init pc .return_ 1 pc' → True → ml_V E "LostRoom$Lodger" cX6_init 2 true rm pc lv []) : ∀ (l0 : Nat) (l1 : Int32) (l2 : Int32) (l3 : Int32) (l4 : Int32) (l5 : Int32) (m : ml_M), fX6_init l0 l1 l2 l3 l4 l5 m = some rm → ml_V E "LostRoom$Lodger" cX6_init 2 true m 0 [(0, ml_r l0), (1, ml_i l1), (2, ml_i l2), (3, ml_i l3), (4, ml_i l4), (5, ml_i l5)] [] := by
  intro l0 l1 l2 l3 l4 l5 m h
  unfold fX6_init at h
  exact ml_aload_n dX6_init_0 0 rfl <| ml_ck_of h fun hz885 h => ml_objInit dX6_init_1 wb_125 (Nat.le_of_ble_eq_true rfl) (Nat.le_of_ble_eq_true rfl) hz885 <| ml_aload_n dX6_init_4 0 rfl <| ml_iload_n dX6_init_5 1 rfl <| ml_ck_of h fun hc886 h => ml_putI dX6_init_6 wb_126 hc886 <| ml_lt (m := m) rfl h fun m887 em888 h => ml_aload_n dX6_init_9 0 rfl <| ml_iload_n dX6_init_10 2 rfl <| ml_putI dX6_init_11 wb_127 (ml_kk em888 hc886) <| ml_lt (m := m887) rfl h fun m889 em890 h => ml_aload_n dX6_init_14 0 rfl <| ml_iload_n dX6_init_15 3 rfl <| ml_putI dX6_init_16 wb_128 (ml_kk em890 (ml_kk em888 hc886)) <| ml_lt (m := m889) rfl h fun m891 em892 h => ml_aload_n dX6_init_19 0 rfl <| ml_iload dX6_init_20 4 rfl <| ml_putI dX6_init_22 wb_129 (ml_kk em892 (ml_kk em890 (ml_kk em888 hc886))) <| ml_lt (m := m891) rfl h fun m893 em894 h => ml_aload_n dX6_init_25 0 rfl <| ml_iload dX6_init_26 5 rfl <| ml_putI dX6_init_28 wb_130 (ml_kk em894 (ml_kk em892 (ml_kk em890 (ml_kk em888 hc886)))) <| ml_lt (m := m893) rfl h fun m895 em896 h => ml_rv hr dX6_init_31 trivial h
theorem sX6_init {l0 : Nat} {l1 : Int32} {l2 : Int32} {l3 : Int32} {l4 : Int32} {l5 : Int32} {m : ml_M} {rm : ml_M} (h : fX6_init l0 l1 l2 l3 l4 l5 m = some rm) : ml_Sn yX6_init cX6_init 6 none 2 [ml_r l0, ml_i l1, ml_i l2, ml_i l3, ml_i l4, ml_i l5] m none rm :=
  ml_Sn_of (P := True) (ini := true) (by decide +kernel) (Nat.le_of_ble_eq_true rfl) (fun _ => rfl) (fun _ => ml_RkV) fun E hL hr => wX6_init_0 hL hr _ _ _ _ _ _ _ h
theorem dX1_readLodger_0 : ml_d cX1_readLodger 0 (.aload_n 0) 1 1 := ⟨by decide +kernel, rfl⟩
theorem dX1_readLodger_1 : ml_d cX1_readLodger 1 (.dup) 1 2 := ⟨by decide +kernel, rfl⟩
theorem dX1_readLodger_2 : ml_d cX1_readLodger 2 (.getfield 31) 3 5 := ⟨by decide +kernel, rfl⟩
theorem dX1_readLodger_5 : ml_d cX1_readLodger 5 (.iconst 1) 1 6 := ⟨by decide +kernel, rfl⟩
theorem dX1_readLodger_6 : ml_d cX1_readLodger 6 (.iadd) 1 7 := ⟨by decide +kernel, rfl⟩
theorem dX1_readLodger_7 : ml_d cX1_readLodger 7 (.putfield 31) 3 10 := ⟨by decide +kernel, rfl⟩
theorem dX1_readLodger_10 : ml_d cX1_readLodger 10 (.aload_n 0) 1 11 := ⟨by decide +kernel, rfl⟩
theorem dX1_readLodger_11 : ml_d cX1_readLodger 11 (.invokevirtual 56) 3 14 := ⟨by decide +kernel, rfl⟩
theorem dX1_readLodger_14 : ml_d cX1_readLodger 14 (.istore_n 1) 1 15 := ⟨by decide +kernel, rfl⟩
theorem dX1_readLodger_15 : ml_d cX1_readLodger 15 (.aload_n 0) 1 16 := ⟨by decide +kernel, rfl⟩
theorem dX1_readLodger_16 : ml_d cX1_readLodger 16 (.bipush 45) 2 18 := ⟨by decide +kernel, rfl⟩
theorem dX1_readLodger_18 : ml_d cX1_readLodger 18 (.invokevirtual 60) 3 21 := ⟨by decide +kernel, rfl⟩
theorem dX1_readLodger_21 : ml_d cX1_readLodger 21 (.aload_n 0) 1 22 := ⟨by decide +kernel, rfl⟩
theorem dX1_readLodger_22 : ml_d cX1_readLodger 22 (.invokevirtual 56) 3 25 := ⟨by decide +kernel, rfl⟩
theorem dX1_readLodger_25 : ml_d cX1_readLodger 25 (.istore_n 2) 1 26 := ⟨by decide +kernel, rfl⟩
theorem dX1_readLodger_26 : ml_d cX1_readLodger 26 (.aload_n 0) 1 27 := ⟨by decide +kernel, rfl⟩
theorem dX1_readLodger_27 : ml_d cX1_readLodger 27 (.getfield 23) 3 30 := ⟨by decide +kernel, rfl⟩
theorem dX1_readLodger_30 : ml_d cX1_readLodger 30 (.bipush (-9)) 2 32 := ⟨by decide +kernel, rfl⟩
theorem dX1_readLodger_32 : ml_j cX1_readLodger 32 (.if_icmp .ne) 48 35 := ⟨16, by decide +kernel, by decide, rfl⟩
theorem dX1_readLodger_35 : ml_d cX1_readLodger 35 (.iload_n 2) 1 36 := ⟨by decide +kernel, rfl⟩
theorem dX1_readLodger_36 : ml_d cX1_readLodger 36 (.iload_n 1) 1 37 := ⟨by decide +kernel, rfl⟩
theorem dX1_readLodger_37 : ml_j cX1_readLodger 37 (.if_icmp .ge) 48 40 := ⟨11, by decide +kernel, by decide, rfl⟩
theorem dX1_readLodger_40 : ml_d cX1_readLodger 40 (.aload_n 0) 1 41 := ⟨by decide +kernel, rfl⟩
theorem dX1_readLodger_41 : ml_d cX1_readLodger 41 (.aload_n 0) 1 42 := ⟨by decide +kernel, rfl⟩
theorem dX1_readLodger_42 : ml_d cX1_readLodger 42 (.getfield 31) 3 45 := ⟨by decide +kernel, rfl⟩
theorem dX1_readLodger_45 : ml_d cX1_readLodger 45 (.putfield 23) 3 48 := ⟨by decide +kernel, rfl⟩
theorem dX1_readLodger_48 : ml_d cX1_readLodger 48 (.aload_n 0) 1 49 := ⟨by decide +kernel, rfl⟩
theorem dX1_readLodger_49 : ml_d cX1_readLodger 49 (.bipush 115) 2 51 := ⟨by decide +kernel, rfl⟩
theorem dX1_readLodger_51 : ml_d cX1_readLodger 51 (.invokevirtual 60) 3 54 := ⟨by decide +kernel, rfl⟩
theorem dX1_readLodger_54 : ml_d cX1_readLodger 54 (.aload_n 0) 1 55 := ⟨by decide +kernel, rfl⟩
theorem dX1_readLodger_55 : ml_d cX1_readLodger 55 (.iconst 1) 1 56 := ⟨by decide +kernel, rfl⟩
theorem dX1_readLodger_56 : ml_d cX1_readLodger 56 (.bipush 9) 2 58 := ⟨by decide +kernel, rfl⟩
theorem dX1_readLodger_58 : ml_d cX1_readLodger 58 (.invokevirtual 64) 3 61 := ⟨by decide +kernel, rfl⟩
theorem dX1_readLodger_61 : ml_d cX1_readLodger 61 (.istore_n 3) 1 62 := ⟨by decide +kernel, rfl⟩
theorem dX1_readLodger_62 : ml_d cX1_readLodger 62 (.aload_n 0) 1 63 := ⟨by decide +kernel, rfl⟩
theorem dX1_readLodger_63 : ml_d cX1_readLodger 63 (.bipush 116) 2 65 := ⟨by decide +kernel, rfl⟩
theorem dX1_readLodger_65 : ml_d cX1_readLodger 65 (.invokevirtual 60) 3 68 := ⟨by decide +kernel, rfl⟩
theorem dX1_readLodger_68 : ml_d cX1_readLodger 68 (.aload_n 0) 1 69 := ⟨by decide +kernel, rfl⟩
theorem dX1_readLodger_69 : ml_d cX1_readLodger 69 (.iconst 1) 1 70 := ⟨by decide +kernel, rfl⟩
theorem dX1_readLodger_70 : ml_d cX1_readLodger 70 (.bipush 9) 2 72 := ⟨by decide +kernel, rfl⟩
theorem dX1_readLodger_72 : ml_d cX1_readLodger 72 (.invokevirtual 64) 3 75 := ⟨by decide +kernel, rfl⟩
theorem dX1_readLodger_75 : ml_d cX1_readLodger 75 (.istore 4) 2 77 := ⟨by decide +kernel, rfl⟩
theorem dX1_readLodger_77 : ml_d cX1_readLodger 77 (.aload_n 0) 1 78 := ⟨by decide +kernel, rfl⟩
theorem dX1_readLodger_78 : ml_d cX1_readLodger 78 (.bipush 104) 2 80 := ⟨by decide +kernel, rfl⟩
theorem dX1_readLodger_80 : ml_d cX1_readLodger 80 (.invokevirtual 60) 3 83 := ⟨by decide +kernel, rfl⟩
theorem dX1_readLodger_83 : ml_d cX1_readLodger 83 (.aload_n 0) 1 84 := ⟨by decide +kernel, rfl⟩
theorem dX1_readLodger_84 : ml_d cX1_readLodger 84 (.iconst 1) 1 85 := ⟨by decide +kernel, rfl⟩
theorem dX1_readLodger_85 : ml_d cX1_readLodger 85 (.bipush 9) 2 87 := ⟨by decide +kernel, rfl⟩
theorem dX1_readLodger_87 : ml_d cX1_readLodger 87 (.invokevirtual 64) 3 90 := ⟨by decide +kernel, rfl⟩
theorem dX1_readLodger_90 : ml_d cX1_readLodger 90 (.istore 5) 2 92 := ⟨by decide +kernel, rfl⟩
theorem dX1_readLodger_92 : ml_d cX1_readLodger 92 (.aload_n 0) 1 93 := ⟨by decide +kernel, rfl⟩
theorem dX1_readLodger_93 : ml_d cX1_readLodger 93 (.getfield 23) 3 96 := ⟨by decide +kernel, rfl⟩
theorem dX1_readLodger_96 : ml_d cX1_readLodger 96 (.bipush (-9)) 2 98 := ⟨by decide +kernel, rfl⟩
theorem dX1_readLodger_98 : ml_j cX1_readLodger 98 (.if_icmp .eq) 102 101 := ⟨4, by decide +kernel, by decide, rfl⟩
theorem dX1_readLodger_101 : ml_d cX1_readLodger 101 (.return_) 1 102 := ⟨by decide +kernel, rfl⟩
theorem dX1_readLodger_102 : ml_d cX1_readLodger 102 (.aload_n 0) 1 103 := ⟨by decide +kernel, rfl⟩
theorem dX1_readLodger_103 : ml_d cX1_readLodger 103 (.getfield 11) 3 106 := ⟨by decide +kernel, rfl⟩
theorem dX1_readLodger_106 : ml_d cX1_readLodger 106 (.aload_n 0) 1 107 := ⟨by decide +kernel, rfl⟩
theorem dX1_readLodger_107 : ml_d cX1_readLodger 107 (.getfield 38) 3 110 := ⟨by decide +kernel, rfl⟩
theorem dX1_readLodger_110 : ml_d cX1_readLodger 110 (.new 9) 3 113 := ⟨by decide +kernel, rfl⟩
theorem dX1_readLodger_113 : ml_d cX1_readLodger 113 (.dup) 1 114 := ⟨by decide +kernel, rfl⟩
theorem dX1_readLodger_114 : ml_d cX1_readLodger 114 (.iload_n 1) 1 115 := ⟨by decide +kernel, rfl⟩
theorem dX1_readLodger_115 : ml_d cX1_readLodger 115 (.iload_n 2) 1 116 := ⟨by decide +kernel, rfl⟩
theorem dX1_readLodger_116 : ml_d cX1_readLodger 116 (.iload_n 3) 1 117 := ⟨by decide +kernel, rfl⟩
theorem dX1_readLodger_117 : ml_d cX1_readLodger 117 (.iload 4) 2 119 := ⟨by decide +kernel, rfl⟩
theorem dX1_readLodger_119 : ml_d cX1_readLodger 119 (.iload 5) 2 121 := ⟨by decide +kernel, rfl⟩
theorem dX1_readLodger_121 : ml_d cX1_readLodger 121 (.invokespecial 68) 3 124 := ⟨by decide +kernel, rfl⟩
theorem dX1_readLodger_124 : ml_d cX1_readLodger 124 (.aastore) 1 125 := ⟨by decide +kernel, rfl⟩
theorem dX1_readLodger_125 : ml_d cX1_readLodger 125 (.aload_n 0) 1 126 := ⟨by decide +kernel, rfl⟩
theorem dX1_readLodger_126 : ml_d cX1_readLodger 126 (.dup) 1 127 := ⟨by decide +kernel, rfl⟩
theorem dX1_readLodger_127 : ml_d cX1_readLodger 127 (.getfield 38) 3 130 := ⟨by decide +kernel, rfl⟩
theorem dX1_readLodger_130 : ml_d cX1_readLodger 130 (.iconst 1) 1 131 := ⟨by decide +kernel, rfl⟩
theorem dX1_readLodger_131 : ml_d cX1_readLodger 131 (.iadd) 1 132 := ⟨by decide +kernel, rfl⟩
theorem dX1_readLodger_132 : ml_d cX1_readLodger 132 (.putfield 38) 3 135 := ⟨by decide +kernel, rfl⟩
theorem dX1_readLodger_135 : ml_d cX1_readLodger 135 (.return_) 1 136 := ⟨by decide +kernel, rfl⟩
def fX1_readLodger_48 (l0 : Nat) (l1 : Int32) (l2 : Int32) (m : ml_M) : Option ml_M :=
    if (ml_K m l0).1 = 1 then
    ml_b1 (fX1_readSign l0 (115 : Int32) m) fun m899 =>
    if (ml_K m899 l0).1 = 1 then
    ml_b2 (fX1_readFigure l0 (1 : Int32) (9 : Int32) m899) fun r902 m903 =>
    if (ml_K m903 l0).1 = 1 then
    ml_b1 (fX1_readSign l0 (116 : Int32) m903) fun m906 =>
    if (ml_K m906 l0).1 = 1 then
    ml_b2 (fX1_readFigure l0 (1 : Int32) (9 : Int32) m906) fun r909 m910 =>
    if (ml_K m910 l0).1 = 1 then
    ml_b1 (fX1_readSign l0 (104 : Int32) m910) fun m913 =>
    if (ml_K m913 l0).1 = 1 then
    ml_b2 (fX1_readFigure l0 (1 : Int32) (9 : Int32) m913) fun r916 m917 =>
    if (ml_K m917 l0).1 = 1 then
    if (ml_I m917 l0 4) = (-9 : Int32) then
    ml_let (ml_R m917 l0 0) fun a919 =>
    ml_let (ml_n m917 + 1) fun a920 =>
    ml_let (ml_al m917 6 0 5) fun m921 =>
    ml_b1 (fX6_init a920 l1 l2 r902 r909 r916 m921) fun m925 =>
    if (ml_K m925 a920).1 = 6 then
    if ml_in m925 a919 28 (ml_I m917 l0 2) then
    ml_let (ml_sR m925 a919 (ml_I m917 l0 2).toNatClampNeg a920) fun m928 =>
    if (ml_K m928 l0).1 = 1 then
    ml_let (ml_sI m928 l0 2 ((ml_I m928 l0 2) + (1 : Int32))) fun m931 =>
    some m931
    else none
    else none
    else none
    else
    some m917
    else none
    else none
    else none
    else none
    else none
    else none
    else none
theorem vX1_readLodger_48 {E : ml_E} (hL : ml_eL E = 6) {rm : ml_M} (hr : ∀ (pc pc' : Nat) (lv : List (Nat × ml_X)), ml_d cX1_readLodger pc .return_ 1 pc' → True → ml_V E "LostRoom$Book" cX1_readLodger 5 false rm pc lv []) : ∀ (l0 : Nat) (l1 : Int32) (l2 : Int32) (m : ml_M), fX1_readLodger_48 l0 l1 l2 m = some rm → ml_V E "LostRoom$Book" cX1_readLodger 5 false m 48 [(0, ml_r l0), (1, ml_i l1), (2, ml_i l2)] [] := by
  intro l0 l1 l2 m h
  unfold fX1_readLodger_48 at h
  exact ml_aload_n dX1_readLodger_48 0 rfl <| ml_bipush dX1_readLodger_49 kc_b115 <| ml_ck_of h fun hc898 h => ml_b1_of h fun m899 hv897 h => ml_callV dX1_readLodger_51 wm_187 wb_131 hc898 (sX1_readSign hv897) rfl (Nat.le_of_ble_eq_true rfl) (Nat.le_of_ble_eq_true rfl) rfl <| ml_aload_n dX1_readLodger_54 0 rfl <| ml_iconst dX1_readLodger_55 kc_i1 <| ml_bipush dX1_readLodger_56 kc_b9 <| ml_ck_of h fun hc901 h => ml_b2_of h fun r902 m903 hv900 h => ml_callV dX1_readLodger_58 wm_177 wb_124 hc901 (sX1_readFigure hv900) rfl (Nat.le_of_ble_eq_true rfl) (Nat.le_of_ble_eq_true rfl) rfl <| ml_istore_n (lv' := [(3, ml_i r902), (0, ml_r l0), (1, ml_i l1), (2, ml_i l2)]) dX1_readLodger_61 (ml_hn hL rfl) rfl <| ml_aload_n dX1_readLodger_62 1 rfl <| ml_bipush dX1_readLodger_63 kc_b116 <| ml_ck_of h fun hc905 h => ml_b1_of h fun m906 hv904 h => ml_callV dX1_readLodger_65 wm_187 wb_131 hc905 (sX1_readSign hv904) rfl (Nat.le_of_ble_eq_true rfl) (Nat.le_of_ble_eq_true rfl) rfl <| ml_aload_n dX1_readLodger_68 1 rfl <| ml_iconst dX1_readLodger_69 kc_i1 <| ml_bipush dX1_readLodger_70 kc_b9 <| ml_ck_of h fun hc908 h => ml_b2_of h fun r909 m910 hv907 h => ml_callV dX1_readLodger_72 wm_177 wb_124 hc908 (sX1_readFigure hv907) rfl (Nat.le_of_ble_eq_true rfl) (Nat.le_of_ble_eq_true rfl) rfl <| ml_istore (lv' := [(4, ml_i r909), (3, ml_i r902), (0, ml_r l0), (1, ml_i l1), (2, ml_i l2)]) dX1_readLodger_75 (ml_hn hL rfl) rfl <| ml_aload_n dX1_readLodger_77 2 rfl <| ml_bipush dX1_readLodger_78 kc_b104 <| ml_ck_of h fun hc912 h => ml_b1_of h fun m913 hv911 h => ml_callV dX1_readLodger_80 wm_187 wb_131 hc912 (sX1_readSign hv911) rfl (Nat.le_of_ble_eq_true rfl) (Nat.le_of_ble_eq_true rfl) rfl <| ml_aload_n dX1_readLodger_83 2 rfl <| ml_iconst dX1_readLodger_84 kc_i1 <| ml_bipush dX1_readLodger_85 kc_b9 <| ml_ck_of h fun hc915 h => ml_b2_of h fun r916 m917 hv914 h => ml_callV dX1_readLodger_87 wm_177 wb_124 hc915 (sX1_readFigure hv914) rfl (Nat.le_of_ble_eq_true rfl) (Nat.le_of_ble_eq_true rfl) rfl <| ml_istore (lv' := [(5, ml_i r916), (4, ml_i r909), (3, ml_i r902), (0, ml_r l0), (1, ml_i l1), (2, ml_i l2)]) dX1_readLodger_90 (ml_hn hL rfl) rfl <| ml_aload_n dX1_readLodger_92 3 rfl <| ml_ck_of h fun hc918 h => ml_getI dX1_readLodger_93 wb_121 hc918 <| ml_bipush dX1_readLodger_96 kc_bm9 <| ml_icmp_eq dX1_readLodger_98 h (fun _ h => ml_aload_n dX1_readLodger_102 3 rfl <| ml_getR dX1_readLodger_103 wb_132 hc918 <| ml_lx (mk := ml_r) h fun a919 h => ml_aload_n dX1_readLodger_106 3 rfl <| ml_getI dX1_readLodger_107 wb_133 hc918 <| ml_newOs dX1_readLodger_110 wb_134 h fun a920 m921 hn922 hc923 h => ml_dup dX1_readLodger_113 rfl <| ml_iload_n dX1_readLodger_114 4 rfl <| ml_iload_n dX1_readLodger_115 5 rfl <| ml_iload_n dX1_readLodger_116 2 rfl <| ml_iload dX1_readLodger_117 1 rfl <| ml_iload dX1_readLodger_119 0 rfl <| ml_b1_of h fun m925 hv924 h => ml_callI dX1_readLodger_121 wm_193 wb_135 hn922 (sX6_init hv924) rfl (Nat.le_of_ble_eq_true rfl) (Nat.le_of_ble_eq_true rfl) rfl <| ml_ck_of h fun hc927 h => ml_ck_of h fun hi926 h => ml_aast (kd := 28) (ci := 6) dX1_readLodger_124 (by decide) hi926 hc927 <| ml_lt (m := m925) rfl h fun m928 em929 h => ml_aload_n dX1_readLodger_125 3 rfl <| ml_dup dX1_readLodger_126 rfl <| ml_ck_of h fun hc930 h => ml_getI dX1_readLodger_127 wb_133 hc930 <| ml_iconst dX1_readLodger_130 kc_i1 <| ml_iadd dX1_readLodger_131 <| ml_putI dX1_readLodger_132 wb_136 hc930 <| ml_lt (m := m928) rfl h fun m931 em932 h => ml_rv hr dX1_readLodger_135 trivial h) (fun _ h => ml_rv hr dX1_readLodger_101 trivial h)
def fX1_readLodger (l0 : Nat) (m : ml_M) : Option ml_M :=
    if (ml_K m l0).1 = 1 then
    ml_let (ml_sI m l0 7 ((ml_I m l0 7) + (1 : Int32))) fun m934 =>
    ml_b2 (fX1_readYear l0 m934) fun r937 m938 =>
    if (ml_K m938 l0).1 = 1 then
    ml_b1 (fX1_readSign l0 (45 : Int32) m938) fun m941 =>
    if (ml_K m941 l0).1 = 1 then
    ml_b2 (fX1_readYear l0 m941) fun r944 m945 =>
    if (ml_K m945 l0).1 = 1 then
    if (ml_I m945 l0 4) = (-9 : Int32) then
    if r937 ≤ r944 then
    fX1_readLodger_48 l0 r937 r944 m945
    else
    ml_let (ml_sI m945 l0 4 (ml_I m945 l0 7)) fun m947 =>
    fX1_readLodger_48 l0 r937 r944 m947
    else
    fX1_readLodger_48 l0 r937 r944 m945
    else none
    else none
    else none
    else none
theorem wX1_readLodger_0 {E : ml_E} (hL : ml_eL E = 6) {rm : ml_M} (hr : ∀ (pc pc' : Nat) (lv : List (Nat × ml_X)), ml_d cX1_readLodger pc .return_ 1 pc' → True → ml_V E "LostRoom$Book" cX1_readLodger 5 false rm pc lv []) : ∀ (l0 : Nat) (m : ml_M), fX1_readLodger l0 m = some rm → ml_V E "LostRoom$Book" cX1_readLodger 5 false m 0 [(0, ml_r l0)] [] := by
  intro l0 m h
  unfold fX1_readLodger at h
  exact ml_aload_n dX1_readLodger_0 0 rfl <| ml_dup dX1_readLodger_1 rfl <| ml_ck_of h fun hc933 h => ml_getI dX1_readLodger_2 wb_119 hc933 <| ml_iconst dX1_readLodger_5 kc_i1 <| ml_iadd dX1_readLodger_6 <| ml_putI dX1_readLodger_7 wb_123 hc933 <| ml_lt (m := m) rfl h fun m934 em935 h => ml_aload_n dX1_readLodger_10 0 rfl <| ml_b2_of h fun r937 m938 hv936 h => ml_callV dX1_readLodger_11 wm_197 wb_137 (ml_kk em935 hc933) (sX1_readYear hv936) rfl (Nat.le_of_ble_eq_true rfl) (Nat.le_of_ble_eq_true rfl) rfl <| ml_istore_n (lv' := [(1, ml_i r937), (0, ml_r l0)]) dX1_readLodger_14 (ml_hn hL rfl) rfl <| ml_aload_n dX1_readLodger_15 1 rfl <| ml_bipush dX1_readLodger_16 kc_b45 <| ml_ck_of h fun hc940 h => ml_b1_of h fun m941 hv939 h => ml_callV dX1_readLodger_18 wm_187 wb_131 hc940 (sX1_readSign hv939) rfl (Nat.le_of_ble_eq_true rfl) (Nat.le_of_ble_eq_true rfl) rfl <| ml_aload_n dX1_readLodger_21 1 rfl <| ml_ck_of h fun hc943 h => ml_b2_of h fun r944 m945 hv942 h => ml_callV dX1_readLodger_22 wm_197 wb_137 hc943 (sX1_readYear hv942) rfl (Nat.le_of_ble_eq_true rfl) (Nat.le_of_ble_eq_true rfl) rfl <| ml_istore_n (lv' := [(2, ml_i r944), (1, ml_i r937), (0, ml_r l0)]) dX1_readLodger_25 (ml_hn hL rfl) rfl <| ml_aload_n dX1_readLodger_26 2 rfl <| ml_ck_of h fun hc946 h => ml_getI dX1_readLodger_27 wb_121 hc946 <| ml_bipush dX1_readLodger_30 kc_bm9 <| ml_icmp_ne dX1_readLodger_32 h (fun _ h => ml_V.sub [2, 1, 0] rfl (vX1_readLodger_48 hL hr  _ _ _ _ h)) (fun _ h => ml_iload_n dX1_readLodger_35 0 rfl <| ml_iload_n dX1_readLodger_36 1 rfl <| ml_icmp_ge dX1_readLodger_37 h (fun _ h => ml_V.sub [2, 1, 0] rfl (vX1_readLodger_48 hL hr  _ _ _ _ h)) (fun _ h => ml_aload_n dX1_readLodger_40 2 rfl <| ml_aload_n dX1_readLodger_41 2 rfl <| ml_getI dX1_readLodger_42 wb_119 hc946 <| ml_putI dX1_readLodger_45 wb_120 hc946 <| ml_lt (m := m945) rfl h fun m947 em948 h => ml_V.sub [2, 1, 0] rfl (vX1_readLodger_48 hL hr  _ _ _ _ h)))
theorem sX1_readLodger {l0 : Nat} {m : ml_M} {rm : ml_M} (h : fX1_readLodger l0 m = some rm) : ml_Sn yX1_readLodger cX1_readLodger 6 none 5 [ml_r l0] m none rm :=
  ml_Sn_of (P := True) (ini := false) (by decide +kernel) (Nat.le_of_ble_eq_true rfl) (fun h => by cases h) (fun _ => ml_RkV) fun E hL hr => wX1_readLodger_0 hL hr _ _ h
theorem dX9_init_0 : ml_d cX9_init 0 (.aload_n 0) 1 1 := ⟨by decide +kernel, rfl⟩
theorem dX9_init_1 : ml_d cX9_init 1 (.invokespecial 1) 3 4 := ⟨by decide +kernel, rfl⟩
theorem dX9_init_4 : ml_d cX9_init 4 (.aload_n 0) 1 5 := ⟨by decide +kernel, rfl⟩
theorem dX9_init_5 : ml_d cX9_init 5 (.iload_n 1) 1 6 := ⟨by decide +kernel, rfl⟩
theorem dX9_init_6 : ml_d cX9_init 6 (.putfield 7) 3 9 := ⟨by decide +kernel, rfl⟩
theorem dX9_init_9 : ml_d cX9_init 9 (.aload_n 0) 1 10 := ⟨by decide +kernel, rfl⟩
theorem dX9_init_10 : ml_d cX9_init 10 (.iload_n 2) 1 11 := ⟨by decide +kernel, rfl⟩
theorem dX9_init_11 : ml_d cX9_init 11 (.putfield 13) 3 14 := ⟨by decide +kernel, rfl⟩
theorem dX9_init_14 : ml_d cX9_init 14 (.return_) 1 15 := ⟨by decide +kernel, rfl⟩
def fX9_init (l0 : Nat) (l1 : Int32) (l2 : Int32) (m : ml_M) : Option ml_M :=
    if l0 ≠ 0 then
    if (ml_K m l0).1 = 9 then
    ml_let (ml_sI m l0 0 l1) fun m951 =>
    ml_let (ml_sI m951 l0 1 l2) fun m953 =>
    some m953
    else none
    else none
theorem wX9_init_0 {E : ml_E} (hL : ml_eL E = 3) {rm : ml_M} (hr : ∀ (pc pc' : Nat) (lv : List (Nat × ml_X)), ml_d cX9_init pc .return_ 1 pc' → True → ml_V E "LostRoom$Trunk" cX9_init 2 true rm pc lv []) : ∀ (l0 : Nat) (l1 : Int32) (l2 : Int32) (m : ml_M), fX9_init l0 l1 l2 m = some rm → ml_V E "LostRoom$Trunk" cX9_init 2 true m 0 [(0, ml_r l0), (1, ml_i l1), (2, ml_i l2)] [] := by
  intro l0 l1 l2 m h
  unfold fX9_init at h
  exact ml_aload_n dX9_init_0 0 rfl <| ml_ck_of h fun hz949 h => ml_objInit dX9_init_1 wb_138 (Nat.le_of_ble_eq_true rfl) (Nat.le_of_ble_eq_true rfl) hz949 <| ml_aload_n dX9_init_4 0 rfl <| ml_iload_n dX9_init_5 1 rfl <| ml_ck_of h fun hc950 h => ml_putI dX9_init_6 wb_139 hc950 <| ml_lt (m := m) rfl h fun m951 em952 h => ml_aload_n dX9_init_9 0 rfl <| ml_iload_n dX9_init_10 2 rfl <| ml_putI dX9_init_11 wb_140 (ml_kk em952 hc950) <| ml_lt (m := m951) rfl h fun m953 em954 h => ml_rv hr dX9_init_14 trivial h
theorem sX9_init {l0 : Nat} {l1 : Int32} {l2 : Int32} {m : ml_M} {rm : ml_M} (h : fX9_init l0 l1 l2 m = some rm) : ml_Sn yX9_init cX9_init 3 none 2 [ml_r l0, ml_i l1, ml_i l2] m none rm :=
  ml_Sn_of (P := True) (ini := true) (by decide +kernel) (Nat.le_of_ble_eq_true rfl) (fun _ => rfl) (fun _ => ml_RkV) fun E hL hr => wX9_init_0 hL hr _ _ _ _ h
theorem dX1_readTrunk_0 : ml_d cX1_readTrunk 0 (.aload_n 0) 1 1 := ⟨by decide +kernel, rfl⟩
theorem dX1_readTrunk_1 : ml_d cX1_readTrunk 1 (.dup) 1 2 := ⟨by decide +kernel, rfl⟩
theorem dX1_readTrunk_2 : ml_d cX1_readTrunk 2 (.getfield 31) 3 5 := ⟨by decide +kernel, rfl⟩
theorem dX1_readTrunk_5 : ml_d cX1_readTrunk 5 (.iconst 1) 1 6 := ⟨by decide +kernel, rfl⟩
theorem dX1_readTrunk_6 : ml_d cX1_readTrunk 6 (.iadd) 1 7 := ⟨by decide +kernel, rfl⟩
theorem dX1_readTrunk_7 : ml_d cX1_readTrunk 7 (.putfield 31) 3 10 := ⟨by decide +kernel, rfl⟩
theorem dX1_readTrunk_10 : ml_d cX1_readTrunk 10 (.iconst 0) 1 11 := ⟨by decide +kernel, rfl⟩
theorem dX1_readTrunk_11 : ml_d cX1_readTrunk 11 (.istore_n 1) 1 12 := ⟨by decide +kernel, rfl⟩
theorem dX1_readTrunk_12 : ml_d cX1_readTrunk 12 (.iconst 0) 1 13 := ⟨by decide +kernel, rfl⟩
theorem dX1_readTrunk_13 : ml_d cX1_readTrunk 13 (.istore_n 2) 1 14 := ⟨by decide +kernel, rfl⟩
theorem dX1_readTrunk_14 : ml_d cX1_readTrunk 14 (.iload_n 2) 1 15 := ⟨by decide +kernel, rfl⟩
theorem dX1_readTrunk_15 : ml_d cX1_readTrunk 15 (.iconst 4) 1 16 := ⟨by decide +kernel, rfl⟩
theorem dX1_readTrunk_16 : ml_j cX1_readTrunk 16 (.if_icmp .ge) 37 19 := ⟨21, by decide +kernel, by decide, rfl⟩
theorem dX1_readTrunk_19 : ml_d cX1_readTrunk 19 (.bipush 10) 2 21 := ⟨by decide +kernel, rfl⟩
theorem dX1_readTrunk_21 : ml_d cX1_readTrunk 21 (.iload_n 1) 1 22 := ⟨by decide +kernel, rfl⟩
theorem dX1_readTrunk_22 : ml_d cX1_readTrunk 22 (.imul) 1 23 := ⟨by decide +kernel, rfl⟩
theorem dX1_readTrunk_23 : ml_d cX1_readTrunk 23 (.aload_n 0) 1 24 := ⟨by decide +kernel, rfl⟩
theorem dX1_readTrunk_24 : ml_d cX1_readTrunk 24 (.iconst 1) 1 25 := ⟨by decide +kernel, rfl⟩
theorem dX1_readTrunk_25 : ml_d cX1_readTrunk 25 (.iconst 5) 1 26 := ⟨by decide +kernel, rfl⟩
theorem dX1_readTrunk_26 : ml_d cX1_readTrunk 26 (.invokevirtual 64) 3 29 := ⟨by decide +kernel, rfl⟩
theorem dX1_readTrunk_29 : ml_d cX1_readTrunk 29 (.iadd) 1 30 := ⟨by decide +kernel, rfl⟩
theorem dX1_readTrunk_30 : ml_d cX1_readTrunk 30 (.istore_n 1) 1 31 := ⟨by decide +kernel, rfl⟩
theorem dX1_readTrunk_31 : ml_d cX1_readTrunk 31 (.iinc 2 1) 3 34 := ⟨by decide +kernel, rfl⟩
theorem dX1_readTrunk_34 : ml_j cX1_readTrunk 34 .goto 14 37 := ⟨(-20), by decide +kernel, by decide, rfl⟩
theorem dX1_readTrunk_37 : ml_d cX1_readTrunk 37 (.aload_n 0) 1 38 := ⟨by decide +kernel, rfl⟩
theorem dX1_readTrunk_38 : ml_d cX1_readTrunk 38 (.bipush 94) 2 40 := ⟨by decide +kernel, rfl⟩
theorem dX1_readTrunk_40 : ml_d cX1_readTrunk 40 (.invokevirtual 60) 3 43 := ⟨by decide +kernel, rfl⟩
theorem dX1_readTrunk_43 : ml_d cX1_readTrunk 43 (.aload_n 0) 1 44 := ⟨by decide +kernel, rfl⟩
theorem dX1_readTrunk_44 : ml_d cX1_readTrunk 44 (.iconst 0) 1 45 := ⟨by decide +kernel, rfl⟩
theorem dX1_readTrunk_45 : ml_d cX1_readTrunk 45 (.bipush 9) 2 47 := ⟨by decide +kernel, rfl⟩
theorem dX1_readTrunk_47 : ml_d cX1_readTrunk 47 (.invokevirtual 64) 3 50 := ⟨by decide +kernel, rfl⟩
theorem dX1_readTrunk_50 : ml_d cX1_readTrunk 50 (.istore_n 2) 1 51 := ⟨by decide +kernel, rfl⟩
theorem dX1_readTrunk_51 : ml_d cX1_readTrunk 51 (.aload_n 0) 1 52 := ⟨by decide +kernel, rfl⟩
theorem dX1_readTrunk_52 : ml_d cX1_readTrunk 52 (.getfield 23) 3 55 := ⟨by decide +kernel, rfl⟩
theorem dX1_readTrunk_55 : ml_d cX1_readTrunk 55 (.bipush (-9)) 2 57 := ⟨by decide +kernel, rfl⟩
theorem dX1_readTrunk_57 : ml_j cX1_readTrunk 57 (.if_icmp .eq) 61 60 := ⟨4, by decide +kernel, by decide, rfl⟩
theorem dX1_readTrunk_60 : ml_d cX1_readTrunk 60 (.return_) 1 61 := ⟨by decide +kernel, rfl⟩
theorem dX1_readTrunk_61 : ml_d cX1_readTrunk 61 (.aload_n 0) 1 62 := ⟨by decide +kernel, rfl⟩
theorem dX1_readTrunk_62 : ml_d cX1_readTrunk 62 (.getfield 19) 3 65 := ⟨by decide +kernel, rfl⟩
theorem dX1_readTrunk_65 : ml_d cX1_readTrunk 65 (.aload_n 0) 1 66 := ⟨by decide +kernel, rfl⟩
theorem dX1_readTrunk_66 : ml_d cX1_readTrunk 66 (.getfield 44) 3 69 := ⟨by decide +kernel, rfl⟩
theorem dX1_readTrunk_69 : ml_d cX1_readTrunk 69 (.new 17) 3 72 := ⟨by decide +kernel, rfl⟩
theorem dX1_readTrunk_72 : ml_d cX1_readTrunk 72 (.dup) 1 73 := ⟨by decide +kernel, rfl⟩
theorem dX1_readTrunk_73 : ml_d cX1_readTrunk 73 (.iload_n 1) 1 74 := ⟨by decide +kernel, rfl⟩
theorem dX1_readTrunk_74 : ml_d cX1_readTrunk 74 (.iload_n 2) 1 75 := ⟨by decide +kernel, rfl⟩
theorem dX1_readTrunk_75 : ml_d cX1_readTrunk 75 (.invokespecial 71) 3 78 := ⟨by decide +kernel, rfl⟩
theorem dX1_readTrunk_78 : ml_d cX1_readTrunk 78 (.aastore) 1 79 := ⟨by decide +kernel, rfl⟩
theorem dX1_readTrunk_79 : ml_d cX1_readTrunk 79 (.aload_n 0) 1 80 := ⟨by decide +kernel, rfl⟩
theorem dX1_readTrunk_80 : ml_d cX1_readTrunk 80 (.dup) 1 81 := ⟨by decide +kernel, rfl⟩
theorem dX1_readTrunk_81 : ml_d cX1_readTrunk 81 (.getfield 44) 3 84 := ⟨by decide +kernel, rfl⟩
theorem dX1_readTrunk_84 : ml_d cX1_readTrunk 84 (.iconst 1) 1 85 := ⟨by decide +kernel, rfl⟩
theorem dX1_readTrunk_85 : ml_d cX1_readTrunk 85 (.iadd) 1 86 := ⟨by decide +kernel, rfl⟩
theorem dX1_readTrunk_86 : ml_d cX1_readTrunk 86 (.putfield 44) 3 89 := ⟨by decide +kernel, rfl⟩
theorem dX1_readTrunk_89 : ml_d cX1_readTrunk 89 (.return_) 1 90 := ⟨by decide +kernel, rfl⟩
def fX1_readTrunk_37 (l0 : Nat) (l1 : Int32) (m : ml_M) : Option ml_M :=
    if (ml_K m l0).1 = 1 then
    ml_b1 (fX1_readSign l0 (94 : Int32) m) fun m957 =>
    if (ml_K m957 l0).1 = 1 then
    ml_b2 (fX1_readFigure l0 (0 : Int32) (9 : Int32) m957) fun r960 m961 =>
    if (ml_K m961 l0).1 = 1 then
    if (ml_I m961 l0 4) = (-9 : Int32) then
    ml_let (ml_R m961 l0 1) fun a963 =>
    ml_let (ml_n m961 + 1) fun a964 =>
    ml_let (ml_al m961 9 0 4) fun m965 =>
    ml_b1 (fX9_init a964 l1 r960 m965) fun m969 =>
    if (ml_K m969 a964).1 = 9 then
    if ml_in m969 a963 30 (ml_I m961 l0 3) then
    ml_let (ml_sR m969 a963 (ml_I m961 l0 3).toNatClampNeg a964) fun m972 =>
    if (ml_K m972 l0).1 = 1 then
    ml_let (ml_sI m972 l0 3 ((ml_I m972 l0 3) + (1 : Int32))) fun m975 =>
    some m975
    else none
    else none
    else none
    else
    some m961
    else none
    else none
    else none
theorem vX1_readTrunk_37 {E : ml_E} (hL : ml_eL E = 3) {rm : ml_M} (hr : ∀ (pc pc' : Nat) (lv : List (Nat × ml_X)), ml_d cX1_readTrunk pc .return_ 1 pc' → True → ml_V E "LostRoom$Book" cX1_readTrunk 4 false rm pc lv []) : ∀ (l0 : Nat) (l1 : Int32) (m : ml_M), fX1_readTrunk_37 l0 l1 m = some rm → ml_V E "LostRoom$Book" cX1_readTrunk 4 false m 37 [(0, ml_r l0), (1, ml_i l1)] [] := by
  intro l0 l1 m h
  unfold fX1_readTrunk_37 at h
  exact ml_aload_n dX1_readTrunk_37 0 rfl <| ml_bipush dX1_readTrunk_38 kc_b94 <| ml_ck_of h fun hc956 h => ml_b1_of h fun m957 hv955 h => ml_callV dX1_readTrunk_40 wm_187 wb_131 hc956 (sX1_readSign hv955) rfl (Nat.le_of_ble_eq_true rfl) (Nat.le_of_ble_eq_true rfl) rfl <| ml_aload_n dX1_readTrunk_43 0 rfl <| ml_iconst dX1_readTrunk_44 kc_i0 <| ml_bipush dX1_readTrunk_45 kc_b9 <| ml_ck_of h fun hc959 h => ml_b2_of h fun r960 m961 hv958 h => ml_callV dX1_readTrunk_47 wm_177 wb_124 hc959 (sX1_readFigure hv958) rfl (Nat.le_of_ble_eq_true rfl) (Nat.le_of_ble_eq_true rfl) rfl <| ml_istore_n (lv' := [(2, ml_i r960), (0, ml_r l0), (1, ml_i l1)]) dX1_readTrunk_50 (ml_hn hL rfl) rfl <| ml_aload_n dX1_readTrunk_51 1 rfl <| ml_ck_of h fun hc962 h => ml_getI dX1_readTrunk_52 wb_121 hc962 <| ml_bipush dX1_readTrunk_55 kc_bm9 <| ml_icmp_eq dX1_readTrunk_57 h (fun _ h => ml_aload_n dX1_readTrunk_61 1 rfl <| ml_getR dX1_readTrunk_62 wb_141 hc962 <| ml_lx (mk := ml_r) h fun a963 h => ml_aload_n dX1_readTrunk_65 1 rfl <| ml_getI dX1_readTrunk_66 wb_142 hc962 <| ml_newOs dX1_readTrunk_69 wb_143 h fun a964 m965 hn966 hc967 h => ml_dup dX1_readTrunk_72 rfl <| ml_iload_n dX1_readTrunk_73 2 rfl <| ml_iload_n dX1_readTrunk_74 0 rfl <| ml_b1_of h fun m969 hv968 h => ml_callI dX1_readTrunk_75 wm_206 wb_144 hn966 (sX9_init hv968) rfl (Nat.le_of_ble_eq_true rfl) (Nat.le_of_ble_eq_true rfl) rfl <| ml_ck_of h fun hc971 h => ml_ck_of h fun hi970 h => ml_aast (kd := 30) (ci := 9) dX1_readTrunk_78 (by decide) hi970 hc971 <| ml_lt (m := m969) rfl h fun m972 em973 h => ml_aload_n dX1_readTrunk_79 1 rfl <| ml_dup dX1_readTrunk_80 rfl <| ml_ck_of h fun hc974 h => ml_getI dX1_readTrunk_81 wb_142 hc974 <| ml_iconst dX1_readTrunk_84 kc_i1 <| ml_iadd dX1_readTrunk_85 <| ml_putI dX1_readTrunk_86 wb_145 hc974 <| ml_lt (m := m972) rfl h fun m975 em976 h => ml_rv hr dX1_readTrunk_89 trivial h) (fun _ h => ml_rv hr dX1_readTrunk_60 trivial h)
def fX1_readTrunk_14 : Nat → Nat → Int32 → Int32 → ml_M → Option ml_M
  | 0, _, _, _, _ => none
  | fu + 1, l0, l1, l2, m =>
    if (4 : Int32) ≤ l2 then
    fX1_readTrunk_37 l0 l1 m
    else
    if (ml_K m l0).1 = 1 then
    ml_b2 (fX1_readFigure l0 (1 : Int32) (5 : Int32) m) fun r979 m980 =>
    ml_let (((10 : Int32) * l1) + r979) fun x981 =>
    (fX1_readTrunk_14 fu) l0 x981 (l2 + (1 : Int32)) m980
    else none
theorem vX1_readTrunk_14 {E : ml_E} (hL : ml_eL E = 3) {rm : ml_M} (hr : ∀ (pc pc' : Nat) (lv : List (Nat × ml_X)), ml_d cX1_readTrunk pc .return_ 1 pc' → True → ml_V E "LostRoom$Book" cX1_readTrunk 4 false rm pc lv []) : ∀ (fu : Nat) (l0 : Nat) (l1 : Int32) (l2 : Int32) (m : ml_M), fX1_readTrunk_14 fu l0 l1 l2 m = some rm → ml_V E "LostRoom$Book" cX1_readTrunk 4 false m 14 [(0, ml_r l0), (1, ml_i l1), (2, ml_i l2)] [] := by
  intro fu
  induction fu with
  | zero => intro l0 l1 l2 m h; exact ml_none h
  | succ fu ih =>
    intro l0 l1 l2 m h
    have hk14 := ih
    unfold fX1_readTrunk_14 at h
    exact ml_iload_n dX1_readTrunk_14 2 rfl <| ml_iconst dX1_readTrunk_15 kc_i4 <| ml_icmp_ge dX1_readTrunk_16 h (fun _ h => ml_V.sub [0, 1] rfl (vX1_readTrunk_37 hL hr  _ _ _ h)) (fun _ h => ml_bipush dX1_readTrunk_19 kc_b10 <| ml_iload_n dX1_readTrunk_21 1 rfl <| ml_imul dX1_readTrunk_22 <| ml_aload_n dX1_readTrunk_23 0 rfl <| ml_iconst dX1_readTrunk_24 kc_i1 <| ml_iconst dX1_readTrunk_25 kc_i5 <| ml_ck_of h fun hc978 h => ml_b2_of h fun r979 m980 hv977 h => ml_callV dX1_readTrunk_26 wm_177 wb_124 hc978 (sX1_readFigure hv977) rfl (Nat.le_of_ble_eq_true rfl) (Nat.le_of_ble_eq_true rfl) rfl <| ml_iadd dX1_readTrunk_29 <| ml_lx (mk := ml_i) h fun x981 h => ml_istore_n (lv' := [(1, ml_i x981), (0, ml_r l0), (2, ml_i l2)]) dX1_readTrunk_30 (ml_hn hL rfl) rfl <| ml_iinc (lv' := [(2, ml_i (l2 + (1 : Int32))), (1, ml_i x981), (0, ml_r l0)]) dX1_readTrunk_31 2 rfl (congrArg (l2 + ·) kc_i1) (ml_hn hL rfl) rfl <| ml_goto dX1_readTrunk_34 <| ml_V.sub [2, 1, 0] rfl (hk14 _ _ _ _ h))
def fX1_readTrunk (l0 : Nat) (m : ml_M) : Option ml_M :=
    if (ml_K m l0).1 = 1 then
    ml_let (ml_sI m l0 7 ((ml_I m l0 7) + (1 : Int32))) fun m983 =>
    fX1_readTrunk_14 ml_fu l0 (0 : Int32) (0 : Int32) m983
    else none
theorem wX1_readTrunk_0 {E : ml_E} (hL : ml_eL E = 3) {rm : ml_M} (hr : ∀ (pc pc' : Nat) (lv : List (Nat × ml_X)), ml_d cX1_readTrunk pc .return_ 1 pc' → True → ml_V E "LostRoom$Book" cX1_readTrunk 4 false rm pc lv []) : ∀ (l0 : Nat) (m : ml_M), fX1_readTrunk l0 m = some rm → ml_V E "LostRoom$Book" cX1_readTrunk 4 false m 0 [(0, ml_r l0)] [] := by
  intro l0 m h
  unfold fX1_readTrunk at h
  exact ml_aload_n dX1_readTrunk_0 0 rfl <| ml_dup dX1_readTrunk_1 rfl <| ml_ck_of h fun hc982 h => ml_getI dX1_readTrunk_2 wb_119 hc982 <| ml_iconst dX1_readTrunk_5 kc_i1 <| ml_iadd dX1_readTrunk_6 <| ml_putI dX1_readTrunk_7 wb_123 hc982 <| ml_lt (m := m) rfl h fun m983 em984 h => ml_iconst dX1_readTrunk_10 kc_i0 <| ml_istore_n (lv' := [(1, ml_i (0 : Int32)), (0, ml_r l0)]) dX1_readTrunk_11 (ml_hn hL rfl) rfl <| ml_iconst dX1_readTrunk_12 kc_i0 <| ml_istore_n (lv' := [(2, ml_i (0 : Int32)), (1, ml_i (0 : Int32)), (0, ml_r l0)]) dX1_readTrunk_13 (ml_hn hL rfl) rfl <| ml_V.sub [2, 1, 0] rfl (vX1_readTrunk_14 hL hr  ml_fu _ _ _ _ h)
theorem sX1_readTrunk {l0 : Nat} {m : ml_M} {rm : ml_M} (h : fX1_readTrunk l0 m = some rm) : ml_Sn yX1_readTrunk cX1_readTrunk 3 none 4 [ml_r l0] m none rm :=
  ml_Sn_of (P := True) (ini := false) (by decide +kernel) (Nat.le_of_ble_eq_true rfl) (fun h => by cases h) (fun _ => ml_RkV) fun E hL hr => wX1_readTrunk_0 hL hr _ _ h

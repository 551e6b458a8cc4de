/-! printed by wip/p51/emit.py out of the claim's own listing -/
theorem dX10_areYears_0 : ml_d cX10_areYears 0 (.iload_n 0) 1 1 := ⟨by decide +kernel, rfl⟩
theorem dX10_areYears_1 : ml_j cX10_areYears 1 (.ifCond .lt) 19 4 := ⟨18, by decide +kernel, by decide, rfl⟩
theorem dX10_areYears_4 : ml_d cX10_areYears 4 (.iload_n 0) 1 5 := ⟨by decide +kernel, rfl⟩
theorem dX10_areYears_5 : ml_d cX10_areYears 5 (.iload_n 1) 1 6 := ⟨by decide +kernel, rfl⟩
theorem dX10_areYears_6 : ml_j cX10_areYears 6 (.if_icmp .gt) 19 9 := ⟨13, by decide +kernel, by decide, rfl⟩
theorem dX10_areYears_9 : ml_d cX10_areYears 9 (.iload_n 1) 1 10 := ⟨by decide +kernel, rfl⟩
theorem dX10_areYears_10 : ml_d cX10_areYears 10 (.bipush 99) 2 12 := ⟨by decide +kernel, rfl⟩
theorem dX10_areYears_12 : ml_j cX10_areYears 12 (.if_icmp .gt) 19 15 := ⟨7, by decide +kernel, by decide, rfl⟩
theorem dX10_areYears_15 : ml_d cX10_areYears 15 (.iconst 1) 1 16 := ⟨by decide +kernel, rfl⟩
theorem dX10_areYears_16 : ml_j cX10_areYears 16 .goto 20 19 := ⟨4, by decide +kernel, by decide, rfl⟩
theorem dX10_areYears_19 : ml_d cX10_areYears 19 (.iconst 0) 1 20 := ⟨by decide +kernel, rfl⟩
theorem dX10_areYears_20 : ml_d cX10_areYears 20 (.ireturn) 1 21 := ⟨by decide +kernel, rfl⟩
def fX10_areYears (l0 : Int32) (l1 : Int32) (m : ml_M) : Option Int32 :=
    if l0 < 0 then
    some (0 : Int32)
    else
    if l1 < l0 then
    some (0 : Int32)
    else
    if (99 : Int32) < l1 then
    some (0 : Int32)
    else
    some (1 : Int32)
theorem wX10_areYears_0 {E : ml_E} (hL : ml_eL E = 2) {rv : Int32} {m : ml_M} (hr : ∀ (pc pc' : Nat) (lv : List (Nat × ml_X)), ml_d cX10_areYears pc .ireturn 1 pc' → (rv = 0 ∨ rv = 1) → ml_V E "LostRoom" cX10_areYears 2 false m pc lv [ml_i rv]) : ∀ (l0 : Int32) (l1 : Int32), fX10_areYears l0 l1 m = some rv → ml_V E "LostRoom" cX10_areYears 2 false m 0 [(0, ml_i l0), (1, ml_i l1)] [] := by
  intro l0 l1 h
  unfold fX10_areYears at h
  exact ml_iload_n dX10_areYears_0 0 rfl <| ml_if_lt dX10_areYears_1 h (fun _ h => ml_iconst dX10_areYears_19 kc_i0 <| ml_rp (mk := ml_i) hr dX10_areYears_20 (fun e => Or.inl e.symm) h) (fun _ h => ml_iload_n dX10_areYears_4 0 rfl <| ml_iload_n dX10_areYears_5 1 rfl <| ml_icmp_gt dX10_areYears_6 h (fun _ h => ml_iconst dX10_areYears_19 kc_i0 <| ml_rp (mk := ml_i) hr dX10_areYears_20 (fun e => Or.inl e.symm) h) (fun _ h => ml_iload_n dX10_areYears_9 1 rfl <| ml_bipush dX10_areYears_10 kc_b99 <| ml_icmp_gt dX10_areYears_12 h (fun _ h => ml_iconst dX10_areYears_19 kc_i0 <| ml_rp (mk := ml_i) hr dX10_areYears_20 (fun e => Or.inl e.symm) h) (fun _ h => ml_iconst dX10_areYears_15 kc_i1 <| ml_goto dX10_areYears_16 <| ml_rp (mk := ml_i) hr dX10_areYears_20 (fun e => Or.inr e.symm) h)))
theorem sX10_areYears {l0 : Int32} {l1 : Int32} {m : ml_M} {rv : Int32} (h : fX10_areYears l0 l1 m = some rv) : ml_Sn yX10_areYears cX10_areYears 2 (some .boolean) 2 [ml_i l0, ml_i l1] m (some (ml_i rv)) m :=
  ml_Sn_of (P := (rv = 0 ∨ rv = 1)) (ini := false) (by decide +kernel) (Nat.le_of_ble_eq_true rfl) (fun h => by cases h) (fun hz => ml_RkZ rv hz) fun E hL hr => wX10_areYears_0 hL hr _ _ h
theorem dX10_isKeyNumber_0 : ml_d cX10_isKeyNumber 0 (.iload_n 0) 1 1 := ⟨by decide +kernel, rfl⟩
theorem dX10_isKeyNumber_1 : ml_d cX10_isKeyNumber 1 (.sipush 1111) 3 4 := ⟨by decide +kernel, rfl⟩
theorem dX10_isKeyNumber_4 : ml_d cX10_isKeyNumber 4 (.sipush 5555) 3 7 := ⟨by decide +kernel, rfl⟩
theorem dX10_isKeyNumber_7 : ml_d cX10_isKeyNumber 7 (.invokestatic 138) 3 10 := ⟨by decide +kernel, rfl⟩
theorem dX10_isKeyNumber_10 : ml_j cX10_isKeyNumber 10 (.ifCond .ne) 15 13 := ⟨5, by decide +kernel, by decide, rfl⟩
theorem dX10_isKeyNumber_13 : ml_d cX10_isKeyNumber 13 (.iconst 0) 1 14 := ⟨by decide +kernel, rfl⟩
theorem dX10_isKeyNumber_14 : ml_d cX10_isKeyNumber 14 (.ireturn) 1 15 := ⟨by decide +kernel, rfl⟩
theorem dX10_isKeyNumber_15 : ml_d cX10_isKeyNumber 15 (.iload_n 0) 1 16 := ⟨by decide +kernel, rfl⟩
theorem dX10_isKeyNumber_16 : ml_d cX10_isKeyNumber 16 (.istore_n 1) 1 17 := ⟨by decide +kernel, rfl⟩
theorem dX10_isKeyNumber_17 : ml_d cX10_isKeyNumber 17 (.iload_n 1) 1 18 := ⟨by decide +kernel, rfl⟩
theorem dX10_isKeyNumber_18 : ml_j cX10_isKeyNumber 18 (.ifCond .le) 43 21 := ⟨25, by decide +kernel, by decide, rfl⟩
theorem dX10_isKeyNumber_21 : ml_d cX10_isKeyNumber 21 (.iload_n 1) 1 22 := ⟨by decide +kernel, rfl⟩
theorem dX10_isKeyNumber_22 : ml_d cX10_isKeyNumber 22 (.bipush 10) 2 24 := ⟨by decide +kernel, rfl⟩
theorem dX10_isKeyNumber_24 : ml_d cX10_isKeyNumber 24 (.irem) 1 25 := ⟨by decide +kernel, rfl⟩
theorem dX10_isKeyNumber_25 : ml_d cX10_isKeyNumber 25 (.iconst 1) 1 26 := ⟨by decide +kernel, rfl⟩
theorem dX10_isKeyNumber_26 : ml_d cX10_isKeyNumber 26 (.iconst 5) 1 27 := ⟨by decide +kernel, rfl⟩
theorem dX10_isKeyNumber_27 : ml_d cX10_isKeyNumber 27 (.invokestatic 138) 3 30 := ⟨by decide +kernel, rfl⟩
theorem dX10_isKeyNumber_30 : ml_j cX10_isKeyNumber 30 (.ifCond .ne) 35 33 := ⟨5, by decide +kernel, by decide, rfl⟩
theorem dX10_isKeyNumber_33 : ml_d cX10_isKeyNumber 33 (.iconst 0) 1 34 := ⟨by decide +kernel, rfl⟩
theorem dX10_isKeyNumber_34 : ml_d cX10_isKeyNumber 34 (.ireturn) 1 35 := ⟨by decide +kernel, rfl⟩
theorem dX10_isKeyNumber_35 : ml_d cX10_isKeyNumber 35 (.iload_n 1) 1 36 := ⟨by decide +kernel, rfl⟩
theorem dX10_isKeyNumber_36 : ml_d cX10_isKeyNumber 36 (.bipush 10) 2 38 := ⟨by decide +kernel, rfl⟩
theorem dX10_isKeyNumber_38 : ml_d cX10_isKeyNumber 38 (.idiv) 1 39 := ⟨by decide +kernel, rfl⟩
theorem dX10_isKeyNumber_39 : ml_d cX10_isKeyNumber 39 (.istore_n 1) 1 40 := ⟨by decide +kernel, rfl⟩
theorem dX10_isKeyNumber_40 : ml_j cX10_isKeyNumber 40 .goto 17 43 := ⟨(-23), by decide +kernel, by decide, rfl⟩
theorem dX10_isKeyNumber_43 : ml_d cX10_isKeyNumber 43 (.iconst 1) 1 44 := ⟨by decide +kernel, rfl⟩
theorem dX10_isKeyNumber_44 : ml_d cX10_isKeyNumber 44 (.ireturn) 1 45 := ⟨by decide +kernel, rfl⟩
def fX10_isKeyNumber_17 : Nat → Int32 → ml_M → Option Int32
  | 0, _, _ => none
  | fu + 1, l1, m =>
    if l1 ≤ 0 then
    some (1 : Int32)
    else
    ml_b1 (fX10_within (l1 - l1 / (10 : Int32) * (10 : Int32)) (1 : Int32) (5 : Int32) m) fun r757 =>
    if r757 = 0 then
    some (0 : Int32)
    else
    ml_let (l1 / (10 : Int32)) fun x758 =>
    (fX10_isKeyNumber_17 fu) x758 m
theorem vX10_isKeyNumber_17 {E : ml_E} (hL : ml_eL E = 2) {rv : Int32} {m : ml_M} (hr : ∀ (pc pc' : Nat) (lv : List (Nat × ml_X)), ml_d cX10_isKeyNumber pc .ireturn 1 pc' → (rv = 0 ∨ rv = 1) → ml_V E "LostRoom" cX10_isKeyNumber 3 false m pc lv [ml_i rv]) : ∀ (fu : Nat) (l1 : Int32), fX10_isKeyNumber_17 fu l1 m = some rv → ml_V E "LostRoom" cX10_isKeyNumber 3 false m 17 [(1, ml_i l1)] [] := by
  intro fu
  induction fu with
  | zero => intro l1 h; exact ml_none h
  | succ fu ih =>
    intro l1 h
    have hk17 := ih
    unfold fX10_isKeyNumber_17 at h
    exact ml_iload_n dX10_isKeyNumber_17 0 rfl <| ml_if_le dX10_isKeyNumber_18 h (fun _ h => ml_iconst dX10_isKeyNumber_43 kc_i1 <| ml_rp (mk := ml_i) hr dX10_isKeyNumber_44 (fun e => Or.inr e.symm) h) (fun _ h => ml_iload_n dX10_isKeyNumber_21 0 rfl <| ml_bipush dX10_isKeyNumber_22 kc_b10 <| ml_irem dX10_isKeyNumber_24 (by decide) <| ml_iconst dX10_isKeyNumber_25 kc_i1 <| ml_iconst dX10_isKeyNumber_26 kc_i5 <| ml_b1_of h fun r757 hv756 h => ml_callS dX10_isKeyNumber_27 wm_21 wb_4 (sX10_within hv756) rfl (Nat.le_of_ble_eq_true rfl) (Nat.le_of_ble_eq_true rfl) rfl <| ml_if_ne dX10_isKeyNumber_30 h (fun _ h => ml_iload_n dX10_isKeyNumber_35 0 rfl <| ml_bipush dX10_isKeyNumber_36 kc_b10 <| ml_idiv dX10_isKeyNumber_38 (by decide) <| ml_lx (mk := ml_i) h fun x758 h => ml_istore_n (lv' := [(1, ml_i x758)]) dX10_isKeyNumber_39 (ml_hn hL rfl) rfl <| ml_goto dX10_isKeyNumber_40 <| ml_V.sub [0] rfl (hk17 _ h)) (fun _ h => ml_iconst dX10_isKeyNumber_33 kc_i0 <| ml_rp (mk := ml_i) hr dX10_isKeyNumber_34 (fun e => Or.inl e.symm) h))
def fX10_isKeyNumber (l0 : Int32) (m : ml_M) : Option Int32 :=
    ml_b1 (fX10_within l0 (1111 : Int32) (5555 : Int32) m) fun r760 =>
    if r760 = 0 then
    some (0 : Int32)
    else
    fX10_isKeyNumber_17 ml_fu l0 m
theorem wX10_isKeyNumber_0 {E : ml_E} (hL : ml_eL E = 2) {rv : Int32} {m : ml_M} (hr : ∀ (pc pc' : Nat) (lv : List (Nat × ml_X)), ml_d cX10_isKeyNumber pc .ireturn 1 pc' → (rv = 0 ∨ rv = 1) → ml_V E "LostRoom" cX10_isKeyNumber 3 false m pc lv [ml_i rv]) : ∀ (l0 : Int32), fX10_isKeyNumber l0 m = some rv → ml_V E "LostRoom" cX10_isKeyNumber 3 false m 0 [(0, ml_i l0)] [] := by
  intro l0 h
  unfold fX10_isKeyNumber at h
  exact ml_iload_n dX10_isKeyNumber_0 0 rfl <| ml_sipush dX10_isKeyNumber_1 kc_s1111 <| ml_sipush dX10_isKeyNumber_4 kc_s5555 <| ml_b1_of h fun r760 hv759 h => ml_callS dX10_isKeyNumber_7 wm_21 wb_4 (sX10_within hv759) rfl (Nat.le_of_ble_eq_true rfl) (Nat.le_of_ble_eq_true rfl) rfl <| ml_if_ne dX10_isKeyNumber_10 h (fun _ h => ml_iload_n dX10_isKeyNumber_15 0 rfl <| ml_istore_n (lv' := [(1, ml_i l0), (0, ml_i l0)]) dX10_isKeyNumber_16 (ml_hn hL rfl) rfl <| ml_V.sub [0] rfl (vX10_isKeyNumber_17 hL hr  ml_fu _ h)) (fun _ h => ml_iconst dX10_isKeyNumber_13 kc_i0 <| ml_rp (mk := ml_i) hr dX10_isKeyNumber_14 (fun e => Or.inl e.symm) h)
theorem sX10_isKeyNumber {l0 : Int32} {m : ml_M} {rv : Int32} (h : fX10_isKeyNumber l0 m = some rv) : ml_Sn yX10_isKeyNumber cX10_isKeyNumber 2 (some .boolean) 3 [ml_i l0] m (some (ml_i rv)) m :=
  ml_Sn_of (P := (rv = 0 ∨ rv = 1)) (ini := false) (by decide +kernel) (Nat.le_of_ble_eq_true rfl) (fun h => by cases h) (fun hz => ml_RkZ rv hz) fun E hL hr => wX10_isKeyNumber_0 hL hr _ h
theorem dX10_numberOf_0 : ml_d cX10_numberOf 0 (.iload_n 0) 1 1 := ⟨by decide +kernel, rfl⟩
theorem dX10_numberOf_1 : decode cX10_numberOf 1 = .ok (.tableswitch 154 1 5 #[35, 51, 82, 105, 141], 35) := by decide +kernel
theorem dX10_numberOf_36 : ml_d cX10_numberOf 36 (.iload_n 1) 1 37 := ⟨by decide +kernel, rfl⟩
theorem dX10_numberOf_37 : ml_d cX10_numberOf 37 (.iconst 1) 1 38 := ⟨by decide +kernel, rfl⟩
theorem dX10_numberOf_38 : ml_d cX10_numberOf 38 (.bipush 9) 2 40 := ⟨by decide +kernel, rfl⟩
theorem dX10_numberOf_40 : ml_d cX10_numberOf 40 (.invokestatic 138) 3 43 := ⟨by decide +kernel, rfl⟩
theorem dX10_numberOf_43 : ml_j cX10_numberOf 43 (.ifCond .eq) 50 46 := ⟨7, by decide +kernel, by decide, rfl⟩
theorem dX10_numberOf_46 : ml_d cX10_numberOf 46 (.iload_n 1) 1 47 := ⟨by decide +kernel, rfl⟩
theorem dX10_numberOf_47 : ml_j cX10_numberOf 47 .goto 51 50 := ⟨4, by decide +kernel, by decide, rfl⟩
theorem dX10_numberOf_50 : ml_d cX10_numberOf 50 (.iconst (-1)) 1 51 := ⟨by decide +kernel, rfl⟩
theorem dX10_numberOf_51 : ml_d cX10_numberOf 51 (.ireturn) 1 52 := ⟨by decide +kernel, rfl⟩
theorem dX10_numberOf_52 : ml_d cX10_numberOf 52 (.iload_n 1) 1 53 := ⟨by decide +kernel, rfl⟩
theorem dX10_numberOf_53 : ml_d cX10_numberOf 53 (.iconst 0) 1 54 := ⟨by decide +kernel, rfl⟩
theorem dX10_numberOf_54 : ml_d cX10_numberOf 54 (.bipush 9) 2 56 := ⟨by decide +kernel, rfl⟩
theorem dX10_numberOf_56 : ml_d cX10_numberOf 56 (.invokestatic 138) 3 59 := ⟨by decide +kernel, rfl⟩
theorem dX10_numberOf_59 : ml_j cX10_numberOf 59 (.ifCond .eq) 81 62 := ⟨22, by decide +kernel, by decide, rfl⟩
theorem dX10_numberOf_62 : ml_d cX10_numberOf 62 (.iload_n 2) 1 63 := ⟨by decide +kernel, rfl⟩
theorem dX10_numberOf_63 : ml_d cX10_numberOf 63 (.iconst 1) 1 64 := ⟨by decide +kernel, rfl⟩
theorem dX10_numberOf_64 : ml_d cX10_numberOf 64 (.bipush 9) 2 66 := ⟨by decide +kernel, rfl⟩
theorem dX10_numberOf_66 : ml_d cX10_numberOf 66 (.invokestatic 138) 3 69 := ⟨by decide +kernel, rfl⟩
theorem dX10_numberOf_69 : ml_j cX10_numberOf 69 (.ifCond .eq) 81 72 := ⟨12, by decide +kernel, by decide, rfl⟩
theorem dX10_numberOf_72 : ml_d cX10_numberOf 72 (.bipush 10) 2 74 := ⟨by decide +kernel, rfl⟩
theorem dX10_numberOf_74 : ml_d cX10_numberOf 74 (.iload_n 1) 1 75 := ⟨by decide +kernel, rfl⟩
theorem dX10_numberOf_75 : ml_d cX10_numberOf 75 (.imul) 1 76 := ⟨by decide +kernel, rfl⟩
theorem dX10_numberOf_76 : ml_d cX10_numberOf 76 (.iload_n 2) 1 77 := ⟨by decide +kernel, rfl⟩
theorem dX10_numberOf_77 : ml_d cX10_numberOf 77 (.iadd) 1 78 := ⟨by decide +kernel, rfl⟩
theorem dX10_numberOf_78 : ml_j cX10_numberOf 78 .goto 82 81 := ⟨4, by decide +kernel, by decide, rfl⟩
theorem dX10_numberOf_81 : ml_d cX10_numberOf 81 (.iconst (-1)) 1 82 := ⟨by decide +kernel, rfl⟩
theorem dX10_numberOf_82 : ml_d cX10_numberOf 82 (.ireturn) 1 83 := ⟨by decide +kernel, rfl⟩
theorem dX10_numberOf_83 : ml_d cX10_numberOf 83 (.iload_n 1) 1 84 := ⟨by decide +kernel, rfl⟩
theorem dX10_numberOf_84 : ml_d cX10_numberOf 84 (.iconst 1) 1 85 := ⟨by decide +kernel, rfl⟩
theorem dX10_numberOf_85 : ml_d cX10_numberOf 85 (.bipush 99) 2 87 := ⟨by decide +kernel, rfl⟩
theorem dX10_numberOf_87 : ml_d cX10_numberOf 87 (.invokestatic 138) 3 90 := ⟨by decide +kernel, rfl⟩
theorem dX10_numberOf_90 : ml_j cX10_numberOf 90 (.ifCond .eq) 104 93 := ⟨14, by decide +kernel, by decide, rfl⟩
theorem dX10_numberOf_93 : ml_d cX10_numberOf 93 (.iload_n 1) 1 94 := ⟨by decide +kernel, rfl⟩
theorem dX10_numberOf_94 : ml_d cX10_numberOf 94 (.bipush 10) 2 96 := ⟨by decide +kernel, rfl⟩
theorem dX10_numberOf_96 : ml_d cX10_numberOf 96 (.irem) 1 97 := ⟨by decide +kernel, rfl⟩
theorem dX10_numberOf_97 : ml_j cX10_numberOf 97 (.ifCond .eq) 104 100 := ⟨7, by decide +kernel, by decide, rfl⟩
theorem dX10_numberOf_100 : ml_d cX10_numberOf 100 (.iload_n 1) 1 101 := ⟨by decide +kernel, rfl⟩
theorem dX10_numberOf_101 : ml_j cX10_numberOf 101 .goto 105 104 := ⟨4, by decide +kernel, by decide, rfl⟩
theorem dX10_numberOf_104 : ml_d cX10_numberOf 104 (.iconst (-1)) 1 105 := ⟨by decide +kernel, rfl⟩
theorem dX10_numberOf_105 : ml_d cX10_numberOf 105 (.ireturn) 1 106 := ⟨by decide +kernel, rfl⟩
theorem dX10_numberOf_106 : ml_d cX10_numberOf 106 (.iload_n 1) 1 107 := ⟨by decide +kernel, rfl⟩
theorem dX10_numberOf_107 : ml_d cX10_numberOf 107 (.iconst 1) 1 108 := ⟨by decide +kernel, rfl⟩
theorem dX10_numberOf_108 : ml_d cX10_numberOf 108 (.bipush 9) 2 110 := ⟨by decide +kernel, rfl⟩
theorem dX10_numberOf_110 : ml_d cX10_numberOf 110 (.invokestatic 138) 3 113 := ⟨by decide +kernel, rfl⟩
theorem dX10_numberOf_113 : ml_j cX10_numberOf 113 (.ifCond .eq) 140 116 := ⟨27, by decide +kernel, by decide, rfl⟩
theorem dX10_numberOf_116 : ml_d cX10_numberOf 116 (.iload_n 2) 1 117 := ⟨by decide +kernel, rfl⟩
theorem dX10_numberOf_117 : ml_d cX10_numberOf 117 (.iconst 1) 1 118 := ⟨by decide +kernel, rfl⟩
theorem dX10_numberOf_118 : ml_d cX10_numberOf 118 (.bipush 9) 2 120 := ⟨by decide +kernel, rfl⟩
theorem dX10_numberOf_120 : ml_d cX10_numberOf 120 (.invokestatic 138) 3 123 := ⟨by decide +kernel, rfl⟩
theorem dX10_numberOf_123 : ml_j cX10_numberOf 123 (.ifCond .eq) 140 126 := ⟨17, by decide +kernel, by decide, rfl⟩
theorem dX10_numberOf_126 : ml_d cX10_numberOf 126 (.iload_n 1) 1 127 := ⟨by decide +kernel, rfl⟩
theorem dX10_numberOf_127 : ml_d cX10_numberOf 127 (.iload_n 2) 1 128 := ⟨by decide +kernel, rfl⟩
theorem dX10_numberOf_128 : ml_j cX10_numberOf 128 (.if_icmp .eq) 140 131 := ⟨12, by decide +kernel, by decide, rfl⟩
theorem dX10_numberOf_131 : ml_d cX10_numberOf 131 (.bipush 10) 2 133 := ⟨by decide +kernel, rfl⟩
theorem dX10_numberOf_133 : ml_d cX10_numberOf 133 (.iload_n 1) 1 134 := ⟨by decide +kernel, rfl⟩
theorem dX10_numberOf_134 : ml_d cX10_numberOf 134 (.imul) 1 135 := ⟨by decide +kernel, rfl⟩
theorem dX10_numberOf_135 : ml_d cX10_numberOf 135 (.iload_n 2) 1 136 := ⟨by decide +kernel, rfl⟩
theorem dX10_numberOf_136 : ml_d cX10_numberOf 136 (.iadd) 1 137 := ⟨by decide +kernel, rfl⟩
theorem dX10_numberOf_137 : ml_j cX10_numberOf 137 .goto 141 140 := ⟨4, by decide +kernel, by decide, rfl⟩
theorem dX10_numberOf_140 : ml_d cX10_numberOf 140 (.iconst (-1)) 1 141 := ⟨by decide +kernel, rfl⟩
theorem dX10_numberOf_141 : ml_d cX10_numberOf 141 (.ireturn) 1 142 := ⟨by decide +kernel, rfl⟩
theorem dX10_numberOf_142 : ml_d cX10_numberOf 142 (.iload_n 1) 1 143 := ⟨by decide +kernel, rfl⟩
theorem dX10_numberOf_143 : ml_d cX10_numberOf 143 (.invokestatic 392) 3 146 := ⟨by decide +kernel, rfl⟩
theorem dX10_numberOf_146 : ml_j cX10_numberOf 146 (.ifCond .eq) 153 149 := ⟨7, by decide +kernel, by decide, rfl⟩
theorem dX10_numberOf_149 : ml_d cX10_numberOf 149 (.iload_n 1) 1 150 := ⟨by decide +kernel, rfl⟩
theorem dX10_numberOf_150 : ml_j cX10_numberOf 150 .goto 154 153 := ⟨4, by decide +kernel, by decide, rfl⟩
theorem dX10_numberOf_153 : ml_d cX10_numberOf 153 (.iconst (-1)) 1 154 := ⟨by decide +kernel, rfl⟩
theorem dX10_numberOf_154 : ml_d cX10_numberOf 154 (.ireturn) 1 155 := ⟨by decide +kernel, rfl⟩
theorem dX10_numberOf_155 : ml_d cX10_numberOf 155 (.iconst (-1)) 1 156 := ⟨by decide +kernel, rfl⟩
theorem dX10_numberOf_156 : ml_d cX10_numberOf 156 (.ireturn) 1 157 := ⟨by decide +kernel, rfl⟩
def fX10_numberOf (l0 : Int32) (l1 : Int32) (l2 : Int32) (m : ml_M) : Option Int32 :=
    if l0 = (1 : Int32) then
    ml_b1 (fX10_within l1 (1 : Int32) (9 : Int32) m) fun r762 =>
    if r762 = 0 then
    some (-1 : Int32)
    else
    some l1
    else if l0 = (2 : Int32) then
    ml_b1 (fX10_within l1 (0 : Int32) (9 : Int32) m) fun r766 =>
    if r766 = 0 then
    some (-1 : Int32)
    else
    ml_b1 (fX10_within l2 (1 : Int32) (9 : Int32) m) fun r768 =>
    if r768 = 0 then
    some (-1 : Int32)
    else
    some (((10 : Int32) * l1) + l2)
    else if l0 = (3 : Int32) then
    ml_b1 (fX10_within l1 (1 : Int32) (99 : Int32) m) fun r772 =>
    if r772 = 0 then
    some (-1 : Int32)
    else
    if (l1 - l1 / (10 : Int32) * (10 : Int32)) = 0 then
    some (-1 : Int32)
    else
    some l1
    else if l0 = (4 : Int32) then
    ml_b1 (fX10_within l1 (1 : Int32) (9 : Int32) m) fun r776 =>
    if r776 = 0 then
    some (-1 : Int32)
    else
    ml_b1 (fX10_within l2 (1 : Int32) (9 : Int32) m) fun r778 =>
    if r778 = 0 then
    some (-1 : Int32)
    else
    if l1 = l2 then
    some (-1 : Int32)
    else
    some (((10 : Int32) * l1) + l2)
    else if l0 = (5 : Int32) then
    ml_b1 (fX10_isKeyNumber l1 m) fun r782 =>
    if r782 = 0 then
    some (-1 : Int32)
    else
    some l1
    else some (-1 : Int32)
theorem wX10_numberOf_0 {E : ml_E} (hL : ml_eL E = 3) {rv : Int32} {m : ml_M} (hr : ∀ (pc pc' : Nat) (lv : List (Nat × ml_X)), ml_d cX10_numberOf pc .ireturn 1 pc' → True → ml_V E "LostRoom" cX10_numberOf 4 false m pc lv [ml_i rv]) : ∀ (l0 : Int32) (l1 : Int32) (l2 : Int32), fX10_numberOf l0 l1 l2 m = some rv → ml_V E "LostRoom" cX10_numberOf 4 false m 0 [(0, ml_i l0), (1, ml_i l1), (2, ml_i l2)] [] := by
  intro l0 l1 l2 h
  unfold fX10_numberOf at h
  exact ml_iload_n dX10_numberOf_0 0 rfl <| ml_sw_of h (fun hq763 h => ml_swInC (off := 35) (1 : Int32) hq763 dX10_numberOf_1 ⟨by decide, by decide, by decide⟩ <| ml_iload_n dX10_numberOf_36 1 rfl <| ml_iconst dX10_numberOf_37 kc_i1 <| ml_bipush dX10_numberOf_38 kc_b9 <| ml_b1_of h fun r762 hv761 h => ml_callS dX10_numberOf_40 wm_21 wb_4 (sX10_within hv761) rfl (Nat.le_of_ble_eq_true rfl) (Nat.le_of_ble_eq_true rfl) rfl <| ml_if_eq dX10_numberOf_43 h (fun _ h => ml_iconst dX10_numberOf_50 kc_im1 <| ml_rp (mk := ml_i) hr dX10_numberOf_51 (fun _ => trivial) h) (fun _ h => ml_iload_n dX10_numberOf_46 1 rfl <| ml_goto dX10_numberOf_47 <| ml_rp (mk := ml_i) hr dX10_numberOf_51 (fun _ => trivial) h)) (fun hq764 h => ml_sw_of h (fun hq769 h => ml_swInC (off := 51) (2 : Int32) hq769 dX10_numberOf_1 ⟨by decide, by decide, by decide⟩ <| ml_iload_n dX10_numberOf_52 1 rfl <| ml_iconst dX10_numberOf_53 kc_i0 <| ml_bipush dX10_numberOf_54 kc_b9 <| ml_b1_of h fun r766 hv765 h => ml_callS dX10_numberOf_56 wm_21 wb_4 (sX10_within hv765) rfl (Nat.le_of_ble_eq_true rfl) (Nat.le_of_ble_eq_true rfl) rfl <| ml_if_eq dX10_numberOf_59 h (fun _ h => ml_iconst dX10_numberOf_81 kc_im1 <| ml_rp (mk := ml_i) hr dX10_numberOf_82 (fun _ => trivial) h) (fun _ h => ml_iload_n dX10_numberOf_62 2 rfl <| ml_iconst dX10_numberOf_63 kc_i1 <| ml_bipush dX10_numberOf_64 kc_b9 <| ml_b1_of h fun r768 hv767 h => ml_callS dX10_numberOf_66 wm_21 wb_4 (sX10_within hv767) rfl (Nat.le_of_ble_eq_true rfl) (Nat.le_of_ble_eq_true rfl) rfl <| ml_if_eq dX10_numberOf_69 h (fun _ h => ml_iconst dX10_numberOf_81 kc_im1 <| ml_rp (mk := ml_i) hr dX10_numberOf_82 (fun _ => trivial) h) (fun _ h => ml_bipush dX10_numberOf_72 kc_b10 <| ml_iload_n dX10_numberOf_74 1 rfl <| ml_imul dX10_numberOf_75 <| ml_iload_n dX10_numberOf_76 2 rfl <| ml_iadd dX10_numberOf_77 <| ml_goto dX10_numberOf_78 <| ml_rp (mk := ml_i) hr dX10_numberOf_82 (fun _ => trivial) h))) (fun hq770 h => ml_sw_of h (fun hq773 h => ml_swInC (off := 82) (3 : Int32) hq773 dX10_numberOf_1 ⟨by decide, by decide, by decide⟩ <| ml_iload_n dX10_numberOf_83 1 rfl <| ml_iconst dX10_numberOf_84 kc_i1 <| ml_bipush dX10_numberOf_85 kc_b99 <| ml_b1_of h fun r772 hv771 h => ml_callS dX10_numberOf_87 wm_21 wb_4 (sX10_within hv771) rfl (Nat.le_of_ble_eq_true rfl) (Nat.le_of_ble_eq_true rfl) rfl <| ml_if_eq dX10_numberOf_90 h (fun _ h => ml_iconst dX10_numberOf_104 kc_im1 <| ml_rp (mk := ml_i) hr dX10_numberOf_105 (fun _ => trivial) h) (fun _ h => ml_iload_n dX10_numberOf_93 1 rfl <| ml_bipush dX10_numberOf_94 kc_b10 <| ml_irem dX10_numberOf_96 (by decide) <| ml_if_eq dX10_numberOf_97 h (fun _ h => ml_iconst dX10_numberOf_104 kc_im1 <| ml_rp (mk := ml_i) hr dX10_numberOf_105 (fun _ => trivial) h) (fun _ h => ml_iload_n dX10_numberOf_100 1 rfl <| ml_goto dX10_numberOf_101 <| ml_rp (mk := ml_i) hr dX10_numberOf_105 (fun _ => trivial) h))) (fun hq774 h => ml_sw_of h (fun hq779 h => ml_swInC (off := 105) (4 : Int32) hq779 dX10_numberOf_1 ⟨by decide, by decide, by decide⟩ <| ml_iload_n dX10_numberOf_106 1 rfl <| ml_iconst dX10_numberOf_107 kc_i1 <| ml_bipush dX10_numberOf_108 kc_b9 <| ml_b1_of h fun r776 hv775 h => ml_callS dX10_numberOf_110 wm_21 wb_4 (sX10_within hv775) rfl (Nat.le_of_ble_eq_true rfl) (Nat.le_of_ble_eq_true rfl) rfl <| ml_if_eq dX10_numberOf_113 h (fun _ h => ml_iconst dX10_numberOf_140 kc_im1 <| ml_rp (mk := ml_i) hr dX10_numberOf_141 (fun _ => trivial) h) (fun _ h => ml_iload_n dX10_numberOf_116 2 rfl <| ml_iconst dX10_numberOf_117 kc_i1 <| ml_bipush dX10_numberOf_118 kc_b9 <| ml_b1_of h fun r778 hv777 h => ml_callS dX10_numberOf_120 wm_21 wb_4 (sX10_within hv777) rfl (Nat.le_of_ble_eq_true rfl) (Nat.le_of_ble_eq_true rfl) rfl <| ml_if_eq dX10_numberOf_123 h (fun _ h => ml_iconst dX10_numberOf_140 kc_im1 <| ml_rp (mk := ml_i) hr dX10_numberOf_141 (fun _ => trivial) h) (fun _ h => ml_iload_n dX10_numberOf_126 1 rfl <| ml_iload_n dX10_numberOf_127 2 rfl <| ml_icmp_eq dX10_numberOf_128 h (fun _ h => ml_iconst dX10_numberOf_140 kc_im1 <| ml_rp (mk := ml_i) hr dX10_numberOf_141 (fun _ => trivial) h) (fun _ h => ml_bipush dX10_numberOf_131 kc_b10 <| ml_iload_n dX10_numberOf_133 1 rfl <| ml_imul dX10_numberOf_134 <| ml_iload_n dX10_numberOf_135 2 rfl <| ml_iadd dX10_numberOf_136 <| ml_goto dX10_numberOf_137 <| ml_rp (mk := ml_i) hr dX10_numberOf_141 (fun _ => trivial) h)))) (fun hq780 h => ml_sw_of h (fun hq783 h => ml_swInC (off := 141) (5 : Int32) hq783 dX10_numberOf_1 ⟨by decide, by decide, by decide⟩ <| ml_iload_n dX10_numberOf_142 1 rfl <| ml_b1_of h fun r782 hv781 h => ml_callS dX10_numberOf_143 wm_237 wb_142 (sX10_isKeyNumber hv781) rfl (Nat.le_of_ble_eq_true rfl) (Nat.le_of_ble_eq_true rfl) rfl <| ml_if_eq dX10_numberOf_146 h (fun _ h => ml_iconst dX10_numberOf_153 kc_im1 <| ml_rp (mk := ml_i) hr dX10_numberOf_154 (fun _ => trivial) h) (fun _ h => ml_iload_n dX10_numberOf_149 1 rfl <| ml_goto dX10_numberOf_150 <| ml_rp (mk := ml_i) hr dX10_numberOf_154 (fun _ => trivial) h)) (fun hq784 h => ml_swOut dX10_numberOf_1 (by have w0 := lv_neT hq764 (show (1 : Int32).toInt = 1 from by decide); have w1 := lv_neT hq770 (show (2 : Int32).toInt = 2 from by decide); have w2 := lv_neT hq774 (show (3 : Int32).toInt = 3 from by decide); have w3 := lv_neT hq780 (show (4 : Int32).toInt = 4 from by decide); have w4 := lv_neT hq784 (show (5 : Int32).toInt = 5 from by decide); omega) (by decide) <| ml_iconst dX10_numberOf_155 kc_im1 <| ml_rp (mk := ml_i) hr dX10_numberOf_156 (fun _ => trivial) h)))))
theorem sX10_numberOf {l0 : Int32} {l1 : Int32} {l2 : Int32} {m : ml_M} {rv : Int32} (h : fX10_numberOf l0 l1 l2 m = some rv) : ml_Sn yX10_numberOf cX10_numberOf 3 (some .int) 4 [ml_i l0, ml_i l1, ml_i l2] m (some (ml_i rv)) m :=
  ml_Sn_of (P := True) (ini := false) (by decide +kernel) (Nat.le_of_ble_eq_true rfl) (fun h => by cases h) (fun _ => ml_RkI rv) fun E hL hr => wX10_numberOf_0 hL hr _ _ _ h
theorem dX10_isLodger_0 : ml_d cX10_isLodger 0 (.iload_n 1) 1 1 := ⟨by decide +kernel, rfl⟩
theorem dX10_isLodger_1 : ml_d cX10_isLodger 1 (.iconst 0) 1 2 := ⟨by decide +kernel, rfl⟩
theorem dX10_isLodger_2 : ml_d cX10_isLodger 2 (.aload_n 0) 1 3 := ⟨by decide +kernel, rfl⟩
theorem dX10_isLodger_3 : ml_d cX10_isLodger 3 (.getfield 26) 3 6 := ⟨by decide +kernel, rfl⟩
theorem dX10_isLodger_6 : ml_d cX10_isLodger 6 (.getfield 193) 3 9 := ⟨by decide +kernel, rfl⟩
theorem dX10_isLodger_9 : ml_d cX10_isLodger 9 (.iconst 1) 1 10 := ⟨by decide +kernel, rfl⟩
theorem dX10_isLodger_10 : ml_d cX10_isLodger 10 (.isub) 1 11 := ⟨by decide +kernel, rfl⟩
theorem dX10_isLodger_11 : ml_d cX10_isLodger 11 (.invokestatic 138) 3 14 := ⟨by decide +kernel, rfl⟩
theorem dX10_isLodger_14 : ml_d cX10_isLodger 14 (.ireturn) 1 15 := ⟨by decide +kernel, rfl⟩
def fX10_isLodger (l0 : Nat) (l1 : Int32) (m : ml_M) : Option Int32 :=
    if (ml_K m l0).1 = 10 then
    ml_let (ml_R m l0 2) fun a786 =>
    if (ml_K m a786).1 = 1 then
    ml_b1 (fX10_within l1 (0 : Int32) ((ml_I m a786 2) - (1 : Int32)) m) fun r789 =>
    if r789 = 0 ∨ r789 = 1 then some r789 else none
    else none
    else none
theorem wX10_isLodger_0 {E : ml_E} (hL : ml_eL E = 2) {rv : Int32} {m : ml_M} (hr : ∀ (pc pc' : Nat) (lv : List (Nat × ml_X)), ml_d cX10_isLodger pc .ireturn 1 pc' → (rv = 0 ∨ rv = 1) → ml_V E "LostRoom" cX10_isLodger 3 false m pc lv [ml_i rv]) : ∀ (l0 : Nat) (l1 : Int32), fX10_isLodger l0 l1 m = some rv → ml_V E "LostRoom" cX10_isLodger 3 false m 0 [(0, ml_r l0), (1, ml_i l1)] [] := by
  intro l0 l1 h
  unfold fX10_isLodger at h
  exact ml_iload_n dX10_isLodger_0 1 rfl <| ml_iconst dX10_isLodger_1 kc_i0 <| ml_aload_n dX10_isLodger_2 0 rfl <| ml_ck_of h fun hc785 h => ml_getR dX10_isLodger_3 wb_71 hc785 <| ml_lx (mk := ml_r) h fun a786 h => ml_ck_of h fun hc787 h => ml_getI dX10_isLodger_6 wb_83 hc787 <| ml_iconst dX10_isLodger_9 kc_i1 <| ml_isub dX10_isLodger_10 <| ml_b1_of h fun r789 hv788 h => ml_callS dX10_isLodger_11 wm_21 wb_4 (sX10_within hv788) rfl (Nat.le_of_ble_eq_true rfl) (Nat.le_of_ble_eq_true rfl) rfl <| ml_ck_of h fun hz790 h => ml_rp (mk := ml_i) hr dX10_isLodger_14 (fun e => e ▸ hz790) h
theorem sX10_isLodger {l0 : Nat} {l1 : Int32} {m : ml_M} {rv : Int32} (h : fX10_isLodger l0 l1 m = some rv) : ml_Sn yX10_isLodger cX10_isLodger 2 (some .boolean) 3 [ml_r l0, ml_i l1] m (some (ml_i rv)) m :=
  ml_Sn_of (P := (rv = 0 ∨ rv = 1)) (ini := false) (by decide +kernel) (Nat.le_of_ble_eq_true rfl) (fun h => by cases h) (fun hz => ml_RkZ rv hz) fun E hL hr => wX10_isLodger_0 hL hr _ _ h
theorem dX8_init_0 : ml_d cX8_init 0 (.aload_n 0) 1 1 := ⟨by decide +kernel, rfl⟩
theorem dX8_init_1 : ml_d cX8_init 1 (.invokespecial 3) 3 4 := ⟨by decide +kernel, rfl⟩
theorem dX8_init_4 : ml_d cX8_init 4 (.aload_n 0) 1 5 := ⟨by decide +kernel, rfl⟩
theorem dX8_init_5 : ml_d cX8_init 5 (.bipush (-9)) 2 7 := ⟨by decide +kernel, rfl⟩
theorem dX8_init_7 : ml_d cX8_init 7 (.putfield 9) 3 10 := ⟨by decide +kernel, rfl⟩
theorem dX8_init_10 : ml_d cX8_init 10 (.aload_n 0) 1 11 := ⟨by decide +kernel, rfl⟩
theorem dX8_init_11 : ml_d cX8_init 11 (.iload_n 1) 1 12 := ⟨by decide +kernel, rfl⟩
theorem dX8_init_12 : ml_d cX8_init 12 (.putfield 15) 3 15 := ⟨by decide +kernel, rfl⟩
theorem dX8_init_15 : ml_d cX8_init 15 (.aload_n 0) 1 16 := ⟨by decide +kernel, rfl⟩
theorem dX8_init_16 : ml_d cX8_init 16 (.iload_n 2) 1 17 := ⟨by decide +kernel, rfl⟩
theorem dX8_init_17 : ml_d cX8_init 17 (.putfield 18) 3 20 := ⟨by decide +kernel, rfl⟩
theorem dX8_init_20 : ml_d cX8_init 20 (.aload_n 0) 1 21 := ⟨by decide +kernel, rfl⟩
theorem dX8_init_21 : ml_d cX8_init 21 (.iload_n 3) 1 22 := ⟨by decide +kernel, rfl⟩
theorem dX8_init_22 : ml_d cX8_init 22 (.putfield 21) 3 25 := ⟨by decide +kernel, rfl⟩
theorem dX8_init_25 : ml_d cX8_init 25 (.aload_n 0) 1 26 := ⟨by decide +kernel, rfl⟩
theorem dX8_init_26 : ml_d cX8_init 26 (.iload 4) 2 28 := ⟨by decide +kernel, rfl⟩
theorem dX8_init_28 : ml_d cX8_init 28 (.putfield 24) 3 31 := ⟨by decide +kernel, rfl⟩
theorem dX8_init_31 : ml_d cX8_init 31 (.aload_n 0) 1 32 := ⟨by decide +kernel, rfl⟩
theorem dX8_init_32 : ml_d cX8_init 32 (.iload 5) 2 34 := ⟨by decide +kernel, rfl⟩
theorem dX8_init_34 : ml_d cX8_init 34 (.putfield 27) 3 37 := ⟨by decide +kernel, rfl⟩
theorem dX8_init_37 : ml_d cX8_init 37 (.return_) 1 38 := ⟨by decide +kernel, rfl⟩
def fX8_init (l0 : Nat) (l1 : Int32) (l2 : Int32) (l3 : Int32) (l4 : Int32) (l5 : Int32) (m : ml_M) : Option ml_M :=
    if l0 ≠ 0 then
    if (ml_K m l0).1 = 8 then
    ml_let (ml_sI m l0 6 (-9 : Int32)) fun m793 =>
    ml_let (ml_sI m793 l0 0 l1) fun m795 =>
    ml_let (ml_sI m795 l0 1 l2) fun m797 =>
    ml_let (ml_sI m797 l0 2 l3) fun m799 =>
    ml_let (ml_sI m799 l0 3 l4) fun m801 =>
    ml_let (ml_sI m801 l0 4 l5) fun m803 =>
    some m803
    else none
    else none
theorem wX8_init_0 {E : ml_E} (hL : ml_eL E = 6) {rm : ml_M} (hr : ∀ (pc pc' : Nat) (lv : List (Nat × ml_X)), ml_d cX8_init pc .return_ 1 pc' → True → ml_V E "LostRoom$Thing" cX8_init 2 true rm pc lv []) : ∀ (l0 : Nat) (l1 : Int32) (l2 : Int32) (l3 : Int32) (l4 : Int32) (l5 : Int32) (m : ml_M), fX8_init l0 l1 l2 l3 l4 l5 m = some rm → ml_V E "LostRoom$Thing" cX8_init 2 true m 0 [(0, ml_r l0), (1, ml_i l1), (2, ml_i l2), (3, ml_i l3), (4, ml_i l4), (5, ml_i l5)] [] := by
  intro l0 l1 l2 l3 l4 l5 m h
  unfold fX8_init at h
  exact ml_aload_n dX8_init_0 0 rfl <| ml_ck_of h fun hz791 h => ml_objInit dX8_init_1 wb_143 (Nat.le_of_ble_eq_true rfl) (Nat.le_of_ble_eq_true rfl) hz791 <| ml_aload_n dX8_init_4 0 rfl <| ml_bipush dX8_init_5 kc_bm9 <| ml_ck_of h fun hc792 h => ml_putI dX8_init_7 wb_144 hc792 <| ml_lt (m := m) rfl h fun m793 em794 h => ml_aload_n dX8_init_10 0 rfl <| ml_iload_n dX8_init_11 1 rfl <| ml_putI dX8_init_12 wb_145 (ml_kk em794 hc792) <| ml_lt (m := m793) rfl h fun m795 em796 h => ml_aload_n dX8_init_15 0 rfl <| ml_iload_n dX8_init_16 2 rfl <| ml_putI dX8_init_17 wb_146 (ml_kk em796 (ml_kk em794 hc792)) <| ml_lt (m := m795) rfl h fun m797 em798 h => ml_aload_n dX8_init_20 0 rfl <| ml_iload_n dX8_init_21 3 rfl <| ml_putI dX8_init_22 wb_147 (ml_kk em798 (ml_kk em796 (ml_kk em794 hc792))) <| ml_lt (m := m797) rfl h fun m799 em800 h => ml_aload_n dX8_init_25 0 rfl <| ml_iload dX8_init_26 4 rfl <| ml_putI dX8_init_28 wb_148 (ml_kk em800 (ml_kk em798 (ml_kk em796 (ml_kk em794 hc792)))) <| ml_lt (m := m799) rfl h fun m801 em802 h => ml_aload_n dX8_init_31 0 rfl <| ml_iload dX8_init_32 5 rfl <| ml_putI dX8_init_34 wb_149 (ml_kk em802 (ml_kk em800 (ml_kk em798 (ml_kk em796 (ml_kk em794 hc792))))) <| ml_lt (m := m801) rfl h fun m803 em804 h => ml_rv hr dX8_init_37 trivial h
theorem sX8_init {l0 : Nat} {l1 : Int32} {l2 : Int32} {l3 : Int32} {l4 : Int32} {l5 : Int32} {m : ml_M} {rm : ml_M} (h : fX8_init l0 l1 l2 l3 l4 l5 m = some rm) : ml_Sn yX8_init cX8_init 6 none 2 [ml_r l0, ml_i l1, ml_i l2, ml_i l3, ml_i l4, ml_i l5] m none rm :=
  ml_Sn_of (P := True) (ini := true) (by decide +kernel) (Nat.le_of_ble_eq_true rfl) (fun _ => rfl) (fun _ => ml_RkV) fun E hL hr => wX8_init_0 hL hr _ _ _ _ _ _ _ h
theorem dX8_suitsAsLetter_0 : ml_d cX8_suitsAsLetter 0 (.aload_n 0) 1 1 := ⟨by decide +kernel, rfl⟩
theorem dX8_suitsAsLetter_1 : ml_d cX8_suitsAsLetter 1 (.getfield 24) 3 4 := ⟨by decide +kernel, rfl⟩
theorem dX8_suitsAsLetter_4 : ml_d cX8_suitsAsLetter 4 (.bipush 10) 2 6 := ⟨by decide +kernel, rfl⟩
theorem dX8_suitsAsLetter_6 : ml_d cX8_suitsAsLetter 6 (.idiv) 1 7 := ⟨by decide +kernel, rfl⟩
theorem dX8_suitsAsLetter_7 : ml_d cX8_suitsAsLetter 7 (.istore_n 2) 1 8 := ⟨by decide +kernel, rfl⟩
theorem dX8_suitsAsLetter_8 : ml_d cX8_suitsAsLetter 8 (.iload_n 2) 1 9 := ⟨by decide +kernel, rfl⟩
theorem dX8_suitsAsLetter_9 : ml_j cX8_suitsAsLetter 9 (.ifCond .eq) 20 12 := ⟨11, by decide +kernel, by decide, rfl⟩
theorem dX8_suitsAsLetter_12 : ml_d cX8_suitsAsLetter 12 (.iload_n 2) 1 13 := ⟨by decide +kernel, rfl⟩
theorem dX8_suitsAsLetter_13 : ml_d cX8_suitsAsLetter 13 (.aload_n 1) 1 14 := ⟨by decide +kernel, rfl⟩
theorem dX8_suitsAsLetter_14 : ml_d cX8_suitsAsLetter 14 (.getfield 47) 3 17 := ⟨by decide +kernel, rfl⟩
theorem dX8_suitsAsLetter_17 : ml_j cX8_suitsAsLetter 17 (.if_icmp .ne) 38 20 := ⟨21, by decide +kernel, by decide, rfl⟩
theorem dX8_suitsAsLetter_20 : ml_d cX8_suitsAsLetter 20 (.aload_n 0) 1 21 := ⟨by decide +kernel, rfl⟩
theorem dX8_suitsAsLetter_21 : ml_d cX8_suitsAsLetter 21 (.getfield 24) 3 24 := ⟨by decide +kernel, rfl⟩
theorem dX8_suitsAsLetter_24 : ml_d cX8_suitsAsLetter 24 (.bipush 10) 2 26 := ⟨by decide +kernel, rfl⟩
theorem dX8_suitsAsLetter_26 : ml_d cX8_suitsAsLetter 26 (.irem) 1 27 := ⟨by decide +kernel, rfl⟩
theorem dX8_suitsAsLetter_27 : ml_d cX8_suitsAsLetter 27 (.aload_n 1) 1 28 := ⟨by decide +kernel, rfl⟩
theorem dX8_suitsAsLetter_28 : ml_d cX8_suitsAsLetter 28 (.getfield 50) 3 31 := ⟨by decide +kernel, rfl⟩
theorem dX8_suitsAsLetter_31 : ml_j cX8_suitsAsLetter 31 (.if_icmp .eq) 38 34 := ⟨7, by decide +kernel, by decide, rfl⟩
theorem dX8_suitsAsLetter_34 : ml_d cX8_suitsAsLetter 34 (.iconst 1) 1 35 := ⟨by decide +kernel, rfl⟩
theorem dX8_suitsAsLetter_35 : ml_j cX8_suitsAsLetter 35 .goto 39 38 := ⟨4, by decide +kernel, by decide, rfl⟩
theorem dX8_suitsAsLetter_38 : ml_d cX8_suitsAsLetter 38 (.iconst 0) 1 39 := ⟨by decide +kernel, rfl⟩
theorem dX8_suitsAsLetter_39 : ml_d cX8_suitsAsLetter 39 (.ireturn) 1 40 := ⟨by decide +kernel, rfl⟩
def fX8_suitsAsLetter_20 (l0 : Nat) (l1 : Nat) (m : ml_M) : Option Int32 :=
    if (ml_K m l0).1 = 8 then
    if (ml_K m l1).1 = 6 then
    if ((ml_I m l0 3) - (ml_I m l0 3) / (10 : Int32) * (10 : Int32)) = (ml_I m l1 4) then
    some (0 : Int32)
    else
    some (1 : Int32)
    else none
    else none
theorem vX8_suitsAsLetter_20 {E : ml_E} (hL : ml_eL E = 3) {rv : Int32} {m : ml_M} (hr : ∀ (pc pc' : Nat) (lv : List (Nat × ml_X)), ml_d cX8_suitsAsLetter pc .ireturn 1 pc' → (rv = 0 ∨ rv = 1) → ml_V E "LostRoom$Thing" cX8_suitsAsLetter 2 false m pc lv [ml_i rv]) : ∀ (l0 : Nat) (l1 : Nat), fX8_suitsAsLetter_20 l0 l1 m = some rv → ml_V E "LostRoom$Thing" cX8_suitsAsLetter 2 false m 20 [(0, ml_r l0), (1, ml_r l1)] [] := by
  intro l0 l1 h
  unfold fX8_suitsAsLetter_20 at h
  exact ml_aload_n dX8_suitsAsLetter_20 0 rfl <| ml_ck_of h fun hc805 h => ml_getI dX8_suitsAsLetter_21 wb_150 hc805 <| ml_bipush dX8_suitsAsLetter_24 kc_b10 <| ml_irem dX8_suitsAsLetter_26 (by decide) <| ml_aload_n dX8_suitsAsLetter_27 1 rfl <| ml_ck_of h fun hc806 h => ml_getI dX8_suitsAsLetter_28 wb_151 hc806 <| ml_icmp_eq dX8_suitsAsLetter_31 h (fun _ h => ml_iconst dX8_suitsAsLetter_38 kc_i0 <| ml_rp (mk := ml_i) hr dX8_suitsAsLetter_39 (fun e => Or.inl e.symm) h) (fun _ h => ml_iconst dX8_suitsAsLetter_34 kc_i1 <| ml_goto dX8_suitsAsLetter_35 <| ml_rp (mk := ml_i) hr dX8_suitsAsLetter_39 (fun e => Or.inr e.symm) h)
def fX8_suitsAsLetter (l0 : Nat) (l1 : Nat) (m : ml_M) : Option Int32 :=
    if (ml_K m l0).1 = 8 then
    ml_let ((ml_I m l0 3) / (10 : Int32)) fun x808 =>
    if x808 = 0 then
    fX8_suitsAsLetter_20 l0 l1 m
    else
    if (ml_K m l1).1 = 6 then
    if x808 = (ml_I m l1 3) then
    fX8_suitsAsLetter_20 l0 l1 m
    else
    some (0 : Int32)
    else none
    else none
theorem wX8_suitsAsLetter_0 {E : ml_E} (hL : ml_eL E = 3) {rv : Int32} {m : ml_M} (hr : ∀ (pc pc' : Nat) (lv : List (Nat × ml_X)), ml_d cX8_suitsAsLetter pc .ireturn 1 pc' → (rv = 0 ∨ rv = 1) → ml_V E "LostRoom$Thing" cX8_suitsAsLetter 2 false m pc lv [ml_i rv]) : ∀ (l0 : Nat) (l1 : Nat), fX8_suitsAsLetter l0 l1 m = some rv → ml_V E "LostRoom$Thing" cX8_suitsAsLetter 2 false m 0 [(0, ml_r l0), (1, ml_r l1)] [] := by
  intro l0 l1 h
  unfold fX8_suitsAsLetter at h
  exact ml_aload_n dX8_suitsAsLetter_0 0 rfl <| ml_ck_of h fun hc807 h => ml_getI dX8_suitsAsLetter_1 wb_150 hc807 <| ml_bipush dX8_suitsAsLetter_4 kc_b10 <| ml_idiv dX8_suitsAsLetter_6 (by decide) <| ml_lx (mk := ml_i) h fun x808 h => ml_istore_n (lv' := [(2, ml_i x808), (0, ml_r l0), (1, ml_r l1)]) dX8_suitsAsLetter_7 (ml_hn hL rfl) rfl <| ml_iload_n dX8_suitsAsLetter_8 0 rfl <| ml_if_eq dX8_suitsAsLetter_9 h (fun _ h => ml_V.sub [1, 2] rfl (vX8_suitsAsLetter_20 hL hr  _ _ h)) (fun _ h => ml_iload_n dX8_suitsAsLetter_12 0 rfl <| ml_aload_n dX8_suitsAsLetter_13 2 rfl <| ml_ck_of h fun hc809 h => ml_getI dX8_suitsAsLetter_14 wb_152 hc809 <| ml_icmp_ne dX8_suitsAsLetter_17 h (fun _ h => ml_iconst dX8_suitsAsLetter_38 kc_i0 <| ml_rp (mk := ml_i) hr dX8_suitsAsLetter_39 (fun e => Or.inl e.symm) h) (fun _ h => ml_V.sub [1, 2] rfl (vX8_suitsAsLetter_20 hL hr  _ _ h)))
theorem sX8_suitsAsLetter {l0 : Nat} {l1 : Nat} {m : ml_M} {rv : Int32} (h : fX8_suitsAsLetter l0 l1 m = some rv) : ml_Sn yX8_suitsAsLetter cX8_suitsAsLetter 3 (some .boolean) 2 [ml_r l0, ml_r l1] m (some (ml_i rv)) m :=
  ml_Sn_of (P := (rv = 0 ∨ rv = 1)) (ini := false) (by decide +kernel) (Nat.le_of_ble_eq_true rfl) (fun h => by cases h) (fun hz => ml_RkZ rv hz) fun E hL hr => wX8_suitsAsLetter_0 hL hr _ _ h
theorem dX8_suits_0 : ml_d cX8_suits 0 (.aload_n 0) 1 1 := ⟨by decide +kernel, rfl⟩
theorem dX8_suits_1 : ml_d cX8_suits 1 (.getfield 21) 3 4 := ⟨by decide +kernel, rfl⟩
theorem dX8_suits_4 : ml_d cX8_suits 4 (.aload_n 1) 1 5 := ⟨by decide +kernel, rfl⟩
theorem dX8_suits_5 : ml_d cX8_suits 5 (.getfield 30) 3 8 := ⟨by decide +kernel, rfl⟩
theorem dX8_suits_8 : ml_j cX8_suits 8 (.if_icmp .lt) 22 11 := ⟨14, by decide +kernel, by decide, rfl⟩
theorem dX8_suits_11 : ml_d cX8_suits 11 (.aload_n 0) 1 12 := ⟨by decide +kernel, rfl⟩
theorem dX8_suits_12 : ml_d cX8_suits 12 (.getfield 18) 3 15 := ⟨by decide +kernel, rfl⟩
theorem dX8_suits_15 : ml_d cX8_suits 15 (.aload_n 1) 1 16 := ⟨by decide +kernel, rfl⟩
theorem dX8_suits_16 : ml_d cX8_suits 16 (.getfield 33) 3 19 := ⟨by decide +kernel, rfl⟩
theorem dX8_suits_19 : ml_j cX8_suits 19 (.if_icmp .le) 24 22 := ⟨5, by decide +kernel, by decide, rfl⟩
theorem dX8_suits_22 : ml_d cX8_suits 22 (.iconst 0) 1 23 := ⟨by decide +kernel, rfl⟩
theorem dX8_suits_23 : ml_d cX8_suits 23 (.ireturn) 1 24 := ⟨by decide +kernel, rfl⟩
theorem dX8_suits_24 : ml_d cX8_suits 24 (.aload_n 0) 1 25 := ⟨by decide +kernel, rfl⟩
theorem dX8_suits_25 : ml_d cX8_suits 25 (.getfield 15) 3 28 := ⟨by decide +kernel, rfl⟩
theorem dX8_suits_28 : decode cX8_suits 28 = .ok (.tableswitch 116 1 4 #[32, 54, 60, 82], 32) := by decide +kernel
theorem dX8_suits_60 : ml_d cX8_suits 60 (.aload_n 0) 1 61 := ⟨by decide +kernel, rfl⟩
theorem dX8_suits_61 : ml_d cX8_suits 61 (.getfield 24) 3 64 := ⟨by decide +kernel, rfl⟩
theorem dX8_suits_64 : ml_d cX8_suits 64 (.aload_n 1) 1 65 := ⟨by decide +kernel, rfl⟩
theorem dX8_suits_65 : ml_d cX8_suits 65 (.getfield 34) 3 68 := ⟨by decide +kernel, rfl⟩
theorem dX8_suits_68 : ml_d cX8_suits 68 (.isub) 1 69 := ⟨by decide +kernel, rfl⟩
theorem dX8_suits_69 : ml_d cX8_suits 69 (.invokestatic 37) 3 72 := ⟨by decide +kernel, rfl⟩
theorem dX8_suits_72 : ml_d cX8_suits 72 (.iconst 1) 1 73 := ⟨by decide +kernel, rfl⟩
theorem dX8_suits_73 : ml_j cX8_suits 73 (.if_icmp .gt) 80 76 := ⟨7, by decide +kernel, by decide, rfl⟩
theorem dX8_suits_76 : ml_d cX8_suits 76 (.iconst 1) 1 77 := ⟨by decide +kernel, rfl⟩
theorem dX8_suits_77 : ml_j cX8_suits 77 .goto 81 80 := ⟨4, by decide +kernel, by decide, rfl⟩
theorem dX8_suits_80 : ml_d cX8_suits 80 (.iconst 0) 1 81 := ⟨by decide +kernel, rfl⟩
theorem dX8_suits_81 : ml_d cX8_suits 81 (.ireturn) 1 82 := ⟨by decide +kernel, rfl⟩
theorem dX8_suits_82 : ml_d cX8_suits 82 (.aload_n 0) 1 83 := ⟨by decide +kernel, rfl⟩
theorem dX8_suits_83 : ml_d cX8_suits 83 (.aload_n 1) 1 84 := ⟨by decide +kernel, rfl⟩
theorem dX8_suits_84 : ml_d cX8_suits 84 (.invokevirtual 43) 3 87 := ⟨by decide +kernel, rfl⟩
theorem dX8_suits_87 : ml_d cX8_suits 87 (.ireturn) 1 88 := ⟨by decide +kernel, rfl⟩
theorem dX8_suits_88 : ml_d cX8_suits 88 (.iload_n 2) 1 89 := ⟨by decide +kernel, rfl⟩
theorem dX8_suits_89 : ml_d cX8_suits 89 (.aload_n 0) 1 90 := ⟨by decide +kernel, rfl⟩
theorem dX8_suits_90 : ml_d cX8_suits 90 (.getfield 27) 3 93 := ⟨by decide +kernel, rfl⟩
theorem dX8_suits_93 : ml_j cX8_suits 93 (.if_icmp .ne) 108 96 := ⟨15, by decide +kernel, by decide, rfl⟩
theorem dX8_suits_96 : ml_d cX8_suits 96 (.aload_n 0) 1 97 := ⟨by decide +kernel, rfl⟩
theorem dX8_suits_97 : ml_d cX8_suits 97 (.aload_n 1) 1 98 := ⟨by decide +kernel, rfl⟩
theorem dX8_suits_98 : ml_d cX8_suits 98 (.invokevirtual 43) 3 101 := ⟨by decide +kernel, rfl⟩
theorem dX8_suits_101 : ml_j cX8_suits 101 (.ifCond .eq) 108 104 := ⟨7, by decide +kernel, by decide, rfl⟩
theorem dX8_suits_104 : ml_d cX8_suits 104 (.iconst 1) 1 105 := ⟨by decide +kernel, rfl⟩
theorem dX8_suits_105 : ml_j cX8_suits 105 .goto 109 108 := ⟨4, by decide +kernel, by decide, rfl⟩
theorem dX8_suits_108 : ml_d cX8_suits 108 (.iconst 0) 1 109 := ⟨by decide +kernel, rfl⟩
theorem dX8_suits_109 : ml_d cX8_suits 109 (.ireturn) 1 110 := ⟨by decide +kernel, rfl⟩
theorem dX8_suits_110 : ml_d cX8_suits 110 (.aload_n 0) 1 111 := ⟨by decide +kernel, rfl⟩
theorem dX8_suits_111 : ml_d cX8_suits 111 (.getfield 24) 3 114 := ⟨by decide +kernel, rfl⟩
theorem dX8_suits_114 : ml_d cX8_suits 114 (.bipush 10) 2 116 := ⟨by decide +kernel, rfl⟩
theorem dX8_suits_116 : ml_d cX8_suits 116 (.idiv) 1 117 := ⟨by decide +kernel, rfl⟩
theorem dX8_suits_117 : ml_d cX8_suits 117 (.aload_n 1) 1 118 := ⟨by decide +kernel, rfl⟩
theorem dX8_suits_118 : ml_d cX8_suits 118 (.getfield 47) 3 121 := ⟨by decide +kernel, rfl⟩
theorem dX8_suits_121 : ml_j cX8_suits 121 (.if_icmp .eq) 138 124 := ⟨17, by decide +kernel, by decide, rfl⟩
theorem dX8_suits_124 : ml_d cX8_suits 124 (.aload_n 0) 1 125 := ⟨by decide +kernel, rfl⟩
theorem dX8_suits_125 : ml_d cX8_suits 125 (.getfield 24) 3 128 := ⟨by decide +kernel, rfl⟩
theorem dX8_suits_128 : ml_d cX8_suits 128 (.bipush 10) 2 130 := ⟨by decide +kernel, rfl⟩
theorem dX8_suits_130 : ml_d cX8_suits 130 (.irem) 1 131 := ⟨by decide +kernel, rfl⟩
theorem dX8_suits_131 : ml_d cX8_suits 131 (.aload_n 1) 1 132 := ⟨by decide +kernel, rfl⟩
theorem dX8_suits_132 : ml_d cX8_suits 132 (.getfield 47) 3 135 := ⟨by decide +kernel, rfl⟩
theorem dX8_suits_135 : ml_j cX8_suits 135 (.if_icmp .ne) 142 138 := ⟨7, by decide +kernel, by decide, rfl⟩
theorem dX8_suits_138 : ml_d cX8_suits 138 (.iconst 1) 1 139 := ⟨by decide +kernel, rfl⟩
theorem dX8_suits_139 : ml_j cX8_suits 139 .goto 143 142 := ⟨4, by decide +kernel, by decide, rfl⟩
theorem dX8_suits_142 : ml_d cX8_suits 142 (.iconst 0) 1 143 := ⟨by decide +kernel, rfl⟩
theorem dX8_suits_143 : ml_d cX8_suits 143 (.ireturn) 1 144 := ⟨by decide +kernel, rfl⟩
theorem dX8_suits_144 : ml_d cX8_suits 144 (.iconst 1) 1 145 := ⟨by decide +kernel, rfl⟩
theorem dX8_suits_145 : ml_d cX8_suits 145 (.ireturn) 1 146 := ⟨by decide +kernel, rfl⟩
def fX8_suits_138 (m : ml_M) : Option Int32 :=
    some (1 : Int32)
theorem vX8_suits_138 {E : ml_E} (hL : ml_eL E = 3) {rv : Int32} {m : ml_M} (hr : ∀ (pc pc' : Nat) (lv : List (Nat × ml_X)), ml_d cX8_suits pc .ireturn 1 pc' → (rv = 0 ∨ rv = 1) → ml_V E "LostRoom$Thing" cX8_suits 3 false m pc lv [ml_i rv]) : fX8_suits_138  m = some rv → ml_V E "LostRoom$Thing" cX8_suits 3 false m 138 [] [] := by
  intro  h
  unfold fX8_suits_138 at h
  exact ml_iconst dX8_suits_138 kc_i1 <| ml_goto dX8_suits_139 <| ml_rp (mk := ml_i) hr dX8_suits_143 (fun e => Or.inr e.symm) h
def fX8_suits (l0 : Nat) (l1 : Nat) (l2 : Int32) (m : ml_M) : Option Int32 :=
    if (ml_K m l0).1 = 8 then
    if (ml_K m l1).1 = 6 then
    if (ml_I m l0 2) < (ml_I m l1 0) then
    some (0 : Int32)
    else
    if (ml_I m l0 1) ≤ (ml_I m l1 1) then
    if (ml_I m l0 0) = (1 : Int32) then
    if (1 : Int32) < (if 0 ≤ ((ml_I m l0 3) - (ml_I m l1 2)) then ((ml_I m l0 3) - (ml_I m l1 2)) else 0 - ((ml_I m l0 3) - (ml_I m l1 2))) then
    some (0 : Int32)
    else
    some (1 : Int32)
    else if (ml_I m l0 0) = (2 : Int32) then
    ml_b1 (fX8_suitsAsLetter l0 l1 m) fun r815 =>
    if r815 = 0 ∨ r815 = 1 then some r815 else none
    else if (ml_I m l0 0) = (3 : Int32) then
    if l2 = (ml_I m l0 4) then
    ml_b1 (fX8_suitsAsLetter l0 l1 m) fun r820 =>
    if r820 = 0 then
    some (0 : Int32)
    else
    some (1 : Int32)
    else
    some (0 : Int32)
    else if (ml_I m l0 0) = (4 : Int32) then
    if ((ml_I m l0 3) / (10 : Int32)) = (ml_I m l1 3) then
    fX8_suits_138 m
    else
    if ((ml_I m l0 3) - (ml_I m l0 3) / (10 : Int32) * (10 : Int32)) = (ml_I m l1 3) then
    fX8_suits_138 m
    else
    some (0 : Int32)
    else some (1 : Int32)
    else
    some (0 : Int32)
    else none
    else none
theorem wX8_suits_0 {E : ml_E} (hL : ml_eL E = 3) {rv : Int32} {m : ml_M} (hr : ∀ (pc pc' : Nat) (lv : List (Nat × ml_X)), ml_d cX8_suits pc .ireturn 1 pc' → (rv = 0 ∨ rv = 1) → ml_V E "LostRoom$Thing" cX8_suits 3 false m pc lv [ml_i rv]) : ∀ (l0 : Nat) (l1 : Nat) (l2 : Int32), fX8_suits l0 l1 l2 m = some rv → ml_V E "LostRoom$Thing" cX8_suits 3 false m 0 [(0, ml_r l0), (1, ml_r l1), (2, ml_i l2)] [] := by
  intro l0 l1 l2 h
  unfold fX8_suits at h
  exact ml_aload_n dX8_suits_0 0 rfl <| ml_ck_of h fun hc810 h => ml_getI dX8_suits_1 wb_153 hc810 <| ml_aload_n dX8_suits_4 1 rfl <| ml_ck_of h fun hc811 h => ml_getI dX8_suits_5 wb_154 hc811 <| ml_icmp_lt dX8_suits_8 h (fun _ h => ml_iconst dX8_suits_22 kc_i0 <| ml_rp (mk := ml_i) hr dX8_suits_23 (fun e => Or.inl e.symm) h) (fun _ h => ml_aload_n dX8_suits_11 0 rfl <| ml_getI dX8_suits_12 wb_155 hc810 <| ml_aload_n dX8_suits_15 1 rfl <| ml_getI dX8_suits_16 wb_156 hc811 <| ml_icmp_le dX8_suits_19 h (fun _ h => ml_aload_n dX8_suits_24 0 rfl <| ml_getI dX8_suits_25 wb_157 hc810 <| ml_sw_of h (fun hq812 h => ml_swInC (off := 32) (1 : Int32) hq812 dX8_suits_28 ⟨by decide, by decide, by decide⟩ <| ml_aload_n dX8_suits_60 0 rfl <| ml_getI dX8_suits_61 wb_150 hc810 <| ml_aload_n dX8_suits_64 1 rfl <| ml_getI dX8_suits_65 wb_158 hc811 <| ml_isub dX8_suits_68 <| ml_mabs dX8_suits_69 wb_159 (Nat.le_of_ble_eq_true rfl) (Nat.le_of_ble_eq_true rfl) <| ml_iconst dX8_suits_72 kc_i1 <| ml_icmp_gt dX8_suits_73 h (fun _ h => ml_iconst dX8_suits_80 kc_i0 <| ml_rp (mk := ml_i) hr dX8_suits_81 (fun e => Or.inl e.symm) h) (fun _ h => ml_iconst dX8_suits_76 kc_i1 <| ml_goto dX8_suits_77 <| ml_rp (mk := ml_i) hr dX8_suits_81 (fun e => Or.inr e.symm) h)) (fun hq813 h => ml_sw_of h (fun hq817 h => ml_swInC (off := 54) (2 : Int32) hq817 dX8_suits_28 ⟨by decide, by decide, by decide⟩ <| ml_aload_n dX8_suits_82 0 rfl <| ml_aload_n dX8_suits_83 1 rfl <| ml_b1_of h fun r815 hv814 h => ml_callV dX8_suits_84 wm_257 wb_160 hc810 (sX8_suitsAsLetter hv814) rfl (Nat.le_of_ble_eq_true rfl) (Nat.le_of_ble_eq_true rfl) rfl <| ml_ck_of h fun hz816 h => ml_rp (mk := ml_i) hr dX8_suits_87 (fun e => e ▸ hz816) h) (fun hq818 h => ml_sw_of h (fun hq821 h => ml_swInC (off := 60) (3 : Int32) hq821 dX8_suits_28 ⟨by decide, by decide, by decide⟩ <| ml_iload_n dX8_suits_88 2 rfl <| ml_aload_n dX8_suits_89 0 rfl <| ml_getI dX8_suits_90 wb_161 hc810 <| ml_icmp_ne dX8_suits_93 h (fun _ h => ml_iconst dX8_suits_108 kc_i0 <| ml_rp (mk := ml_i) hr dX8_suits_109 (fun e => Or.inl e.symm) h) (fun _ h => ml_aload_n dX8_suits_96 0 rfl <| ml_aload_n dX8_suits_97 1 rfl <| ml_b1_of h fun r820 hv819 h => ml_callV dX8_suits_98 wm_257 wb_160 hc810 (sX8_suitsAsLetter hv819) rfl (Nat.le_of_ble_eq_true rfl) (Nat.le_of_ble_eq_true rfl) rfl <| ml_if_eq dX8_suits_101 h (fun _ h => ml_iconst dX8_suits_108 kc_i0 <| ml_rp (mk := ml_i) hr dX8_suits_109 (fun e => Or.inl e.symm) h) (fun _ h => ml_iconst dX8_suits_104 kc_i1 <| ml_goto dX8_suits_105 <| ml_rp (mk := ml_i) hr dX8_suits_109 (fun e => Or.inr e.symm) h))) (fun hq822 h => ml_sw_of h (fun hq823 h => ml_swInC (off := 82) (4 : Int32) hq823 dX8_suits_28 ⟨by decide, by decide, by decide⟩ <| ml_aload_n dX8_suits_110 0 rfl <| ml_getI dX8_suits_111 wb_150 hc810 <| ml_bipush dX8_suits_114 kc_b10 <| ml_idiv dX8_suits_116 (by decide) <| ml_aload_n dX8_suits_117 1 rfl <| ml_getI dX8_suits_118 wb_152 hc811 <| ml_icmp_eq dX8_suits_121 h (fun _ h => ml_V.sub [] rfl (vX8_suits_138 hL hr  h)) (fun _ h => ml_aload_n dX8_suits_124 0 rfl <| ml_getI dX8_suits_125 wb_150 hc810 <| ml_bipush dX8_suits_128 kc_b10 <| ml_irem dX8_suits_130 (by decide) <| ml_aload_n dX8_suits_131 1 rfl <| ml_getI dX8_suits_132 wb_152 hc811 <| ml_icmp_ne dX8_suits_135 h (fun _ h => ml_iconst dX8_suits_142 kc_i0 <| ml_rp (mk := ml_i) hr dX8_suits_143 (fun e => Or.inl e.symm) h) (fun _ h => ml_V.sub [] rfl (vX8_suits_138 hL hr  h)))) (fun hq824 h => ml_swOut dX8_suits_28 (by have w0 := lv_neT hq813 (show (1 : Int32).toInt = 1 from by decide); have w1 := lv_neT hq818 (show (2 : Int32).toInt = 2 from by decide); have w2 := lv_neT hq822 (show (3 : Int32).toInt = 3 from by decide); have w3 := lv_neT hq824 (show (4 : Int32).toInt = 4 from by decide); omega) (by decide) <| ml_iconst dX8_suits_144 kc_i1 <| ml_rp (mk := ml_i) hr dX8_suits_145 (fun e => Or.inr e.symm) h))))) (fun _ h => ml_iconst dX8_suits_22 kc_i0 <| ml_rp (mk := ml_i) hr dX8_suits_23 (fun e => Or.inl e.symm) h))
theorem sX8_suits {l0 : Nat} {l1 : Nat} {l2 : Int32} {m : ml_M} {rv : Int32} (h : fX8_suits l0 l1 l2 m = some rv) : ml_Sn yX8_suits cX8_suits 3 (some .boolean) 3 [ml_r l0, ml_r l1, ml_i l2] m (some (ml_i rv)) m :=
  ml_Sn_of (P := (rv = 0 ∨ rv = 1)) (ini := false) (by decide +kernel) (Nat.le_of_ble_eq_true rfl) (fun h => by cases h) (fun hz => ml_RkZ rv hz) fun E hL hr => wX8_suits_0 hL hr _ _ _ h
theorem dX10_ownersOf_0 : ml_d cX10_ownersOf 0 (.iconst 0) 1 1 := ⟨by decide +kernel, rfl⟩
theorem dX10_ownersOf_1 : ml_d cX10_ownersOf 1 (.istore_n 2) 1 2 := ⟨by decide +kernel, rfl⟩
theorem dX10_ownersOf_2 : ml_d cX10_ownersOf 2 (.iconst 0) 1 3 := ⟨by decide +kernel, rfl⟩
theorem dX10_ownersOf_3 : ml_d cX10_ownersOf 3 (.istore_n 3) 1 4 := ⟨by decide +kernel, rfl⟩
theorem dX10_ownersOf_4 : ml_d cX10_ownersOf 4 (.iload_n 3) 1 5 := ⟨by decide +kernel, rfl⟩
theorem dX10_ownersOf_5 : ml_d cX10_ownersOf 5 (.aload_n 0) 1 6 := ⟨by decide +kernel, rfl⟩
theorem dX10_ownersOf_6 : ml_d cX10_ownersOf 6 (.getfield 26) 3 9 := ⟨by decide +kernel, rfl⟩
theorem dX10_ownersOf_9 : ml_d cX10_ownersOf 9 (.getfield 193) 3 12 := ⟨by decide +kernel, rfl⟩
theorem dX10_ownersOf_12 : ml_j cX10_ownersOf 12 (.if_icmp .ge) 44 15 := ⟨32, by decide +kernel, by decide, rfl⟩
theorem dX10_ownersOf_15 : ml_d cX10_ownersOf 15 (.aload_n 1) 1 16 := ⟨by decide +kernel, rfl⟩
theorem dX10_ownersOf_16 : ml_d cX10_ownersOf 16 (.aload_n 0) 1 17 := ⟨by decide +kernel, rfl⟩
theorem dX10_ownersOf_17 : ml_d cX10_ownersOf 17 (.getfield 26) 3 20 := ⟨by decide +kernel, rfl⟩
theorem dX10_ownersOf_20 : ml_d cX10_ownersOf 20 (.getfield 360) 3 23 := ⟨by decide +kernel, rfl⟩
theorem dX10_ownersOf_23 : ml_d cX10_ownersOf 23 (.iload_n 3) 1 24 := ⟨by decide +kernel, rfl⟩
theorem dX10_ownersOf_24 : ml_d cX10_ownersOf 24 (.aaload) 1 25 := ⟨by decide +kernel, rfl⟩
theorem dX10_ownersOf_25 : ml_d cX10_ownersOf 25 (.iload_n 3) 1 26 := ⟨by decide +kernel, rfl⟩
theorem dX10_ownersOf_26 : ml_d cX10_ownersOf 26 (.invokevirtual 395) 3 29 := ⟨by decide +kernel, rfl⟩
theorem dX10_ownersOf_29 : ml_j cX10_ownersOf 29 (.ifCond .eq) 38 32 := ⟨9, by decide +kernel, by decide, rfl⟩
theorem dX10_ownersOf_32 : ml_d cX10_ownersOf 32 (.iload_n 2) 1 33 := ⟨by decide +kernel, rfl⟩
theorem dX10_ownersOf_33 : ml_d cX10_ownersOf 33 (.iconst 1) 1 34 := ⟨by decide +kernel, rfl⟩
theorem dX10_ownersOf_34 : ml_d cX10_ownersOf 34 (.iload_n 3) 1 35 := ⟨by decide +kernel, rfl⟩
theorem dX10_ownersOf_35 : ml_d cX10_ownersOf 35 (.ishl) 1 36 := ⟨by decide +kernel, rfl⟩
theorem dX10_ownersOf_36 : ml_d cX10_ownersOf 36 (.ior) 1 37 := ⟨by decide +kernel, rfl⟩
theorem dX10_ownersOf_37 : ml_d cX10_ownersOf 37 (.istore_n 2) 1 38 := ⟨by decide +kernel, rfl⟩
theorem dX10_ownersOf_38 : ml_d cX10_ownersOf 38 (.iinc 3 1) 3 41 := ⟨by decide +kernel, rfl⟩
theorem dX10_ownersOf_41 : ml_j cX10_ownersOf 41 .goto 4 44 := ⟨(-37), by decide +kernel, by decide, rfl⟩
theorem dX10_ownersOf_44 : ml_d cX10_ownersOf 44 (.iload_n 2) 1 45 := ⟨by decide +kernel, rfl⟩
theorem dX10_ownersOf_45 : ml_d cX10_ownersOf 45 (.ireturn) 1 46 := ⟨by decide +kernel, rfl⟩
def fX10_ownersOf_38 (k4 : Nat → Nat → Int32 → Int32 → ml_M → Option Int32) (l0 : Nat) (l1 : Nat) (l2 : Int32) (l3 : Int32) (m : ml_M) : Option Int32 :=
    k4 l0 l1 l2 (l3 + (1 : Int32)) m
theorem vX10_ownersOf_38 {E : ml_E} (hL : ml_eL E = 4) {rv : Int32} {m : ml_M} (hr : ∀ (pc pc' : Nat) (lv : List (Nat × ml_X)), ml_d cX10_ownersOf pc .ireturn 1 pc' → True → ml_V E "LostRoom" cX10_ownersOf 4 false m pc lv [ml_i rv]) {k4 : Nat → Nat → Int32 → Int32 → ml_M → Option Int32} (hk4 : ∀ (l0 : Nat) (l1 : Nat) (l2 : Int32) (l3 : Int32), k4 l0 l1 l2 l3 m = some rv → ml_V E "LostRoom" cX10_ownersOf 4 false m 4 [(0, ml_r l0), (1, ml_r l1), (2, ml_i l2), (3, ml_i l3)] []) : ∀ (l0 : Nat) (l1 : Nat) (l2 : Int32) (l3 : Int32), fX10_ownersOf_38 k4 l0 l1 l2 l3 m = some rv → ml_V E "LostRoom" cX10_ownersOf 4 false m 38 [(0, ml_r l0), (1, ml_r l1), (2, ml_i l2), (3, ml_i l3)] [] := by
  intro l0 l1 l2 l3 h
  unfold fX10_ownersOf_38 at h
  exact ml_iinc (lv' := [(3, ml_i (l3 + (1 : Int32))), (0, ml_r l0), (1, ml_r l1), (2, ml_i l2)]) dX10_ownersOf_38 3 rfl (congrArg (l3 + ·) kc_i1) (ml_hn hL rfl) rfl <| ml_goto dX10_ownersOf_41 <| ml_V.sub [1, 2, 3, 0] rfl (hk4 _ _ _ _ h)
def fX10_ownersOf_4 : Nat → Nat → Nat → Int32 → Int32 → ml_M → Option Int32
  | 0, _, _, _, _, _ => none
  | fu + 1, l0, l1, l2, l3, m =>
    if (ml_K m l0).1 = 10 then
    ml_let (ml_R m l0 2) fun a826 =>
    if (ml_K m a826).1 = 1 then
    if (ml_I m a826 2) ≤ l3 then
    some l2
    else
    ml_let (ml_R m l0 2) fun a828 =>
    if (ml_K m a828).1 = 1 then
    ml_let (ml_R m a828 0) fun a830 =>
    if ml_in m a830 28 l3 then
    ml_let (ml_R m a830 l3.toNatClampNeg) fun a832 =>
    if (ml_K m l1).1 = 8 then
    ml_b1 (fX8_suits l1 a832 l3 m) fun r835 =>
    if r835 = 0 then
    fX10_ownersOf_38 (fX10_ownersOf_4 fu) l0 l1 l2 l3 m
    else
    ml_let (l2 ||| ((1 : Int32) <<< (l3 &&& 31))) fun x836 =>
    fX10_ownersOf_38 (fX10_ownersOf_4 fu) l0 l1 x836 l3 m
    else none
    else none
    else none
    else none
    else none
theorem vX10_ownersOf_4 {E : ml_E} (hL : ml_eL E = 4) {rv : Int32} {m : ml_M} (hr : ∀ (pc pc' : Nat) (lv : List (Nat × ml_X)), ml_d cX10_ownersOf pc .ireturn 1 pc' → True → ml_V E "LostRoom" cX10_ownersOf 4 false m pc lv [ml_i rv]) : ∀ (fu : Nat) (l0 : Nat) (l1 : Nat) (l2 : Int32) (l3 : Int32), fX10_ownersOf_4 fu l0 l1 l2 l3 m = some rv → ml_V E "LostRoom" cX10_ownersOf 4 false m 4 [(0, ml_r l0), (1, ml_r l1), (2, ml_i l2), (3, ml_i l3)] [] := by
  intro fu
  induction fu with
  | zero => intro l0 l1 l2 l3 h; exact ml_none h
  | succ fu ih =>
    intro l0 l1 l2 l3 h
    have hk4 := ih
    unfold fX10_ownersOf_4 at h
    exact ml_iload_n dX10_ownersOf_4 3 rfl <| ml_aload_n dX10_ownersOf_5 0 rfl <| ml_ck_of h fun hc825 h => ml_getR dX10_ownersOf_6 wb_71 hc825 <| ml_lx (mk := ml_r) h fun a826 h => ml_ck_of h fun hc827 h => ml_getI dX10_ownersOf_9 wb_83 hc827 <| ml_icmp_ge dX10_ownersOf_12 h (fun _ h => ml_iload_n dX10_ownersOf_44 2 rfl <| ml_rp (mk := ml_i) hr dX10_ownersOf_45 (fun _ => trivial) h) (fun _ h => ml_aload_n dX10_ownersOf_15 1 rfl <| ml_aload_n dX10_ownersOf_16 0 rfl <| ml_getR dX10_ownersOf_17 wb_71 hc825 <| ml_lx (mk := ml_r) h fun a828 h => ml_ck_of h fun hc829 h => ml_getR dX10_ownersOf_20 wb_162 hc829 <| ml_lx (mk := ml_r) h fun a830 h => ml_iload_n dX10_ownersOf_23 3 rfl <| ml_ck_of h fun hi831 h => ml_aald (kd := 28) dX10_ownersOf_24 (by decide) hi831 <| ml_lx (mk := ml_r) h fun a832 h => ml_iload_n dX10_ownersOf_25 3 rfl <| ml_ck_of h fun hc834 h => ml_b1_of h fun r835 hv833 h => ml_callV dX10_ownersOf_26 wm_262 wb_163 hc834 (sX8_suits hv833) rfl (Nat.le_of_ble_eq_true rfl) (Nat.le_of_ble_eq_true rfl) rfl <| ml_if_eq dX10_ownersOf_29 h (fun _ h => ml_V.sub [0, 1, 2, 3] rfl (vX10_ownersOf_38 hL hr hk4 _ _ _ _ h)) (fun _ h => ml_iload_n dX10_ownersOf_32 2 rfl <| ml_iconst dX10_ownersOf_33 kc_i1 <| ml_iload_n dX10_ownersOf_34 3 rfl <| ml_ishl dX10_ownersOf_35 <| ml_ior dX10_ownersOf_36 <| ml_lx (mk := ml_i) h fun x836 h => ml_istore_n (lv' := [(2, ml_i x836), (0, ml_r l0), (1, ml_r l1), (3, ml_i l3)]) dX10_ownersOf_37 (ml_hn hL rfl) rfl <| ml_V.sub [1, 2, 0, 3] rfl (vX10_ownersOf_38 hL hr hk4 _ _ _ _ h)))
def fX10_ownersOf (l0 : Nat) (l1 : Nat) (m : ml_M) : Option Int32 :=
    fX10_ownersOf_4 ml_fu l0 l1 (0 : Int32) (0 : Int32) m
theorem wX10_ownersOf_0 {E : ml_E} (hL : ml_eL E = 4) {rv : Int32} {m : ml_M} (hr : ∀ (pc pc' : Nat) (lv : List (Nat × ml_X)), ml_d cX10_ownersOf pc .ireturn 1 pc' → True → ml_V E "LostRoom" cX10_ownersOf 4 false m pc lv [ml_i rv]) : ∀ (l0 : Nat) (l1 : Nat), fX10_ownersOf l0 l1 m = some rv → ml_V E "LostRoom" cX10_ownersOf 4 false m 0 [(0, ml_r l0), (1, ml_r l1)] [] := by
  intro l0 l1 h
  unfold fX10_ownersOf at h
  exact ml_iconst dX10_ownersOf_0 kc_i0 <| ml_istore_n (lv' := [(2, ml_i (0 : Int32)), (0, ml_r l0), (1, ml_r l1)]) dX10_ownersOf_1 (ml_hn hL rfl) rfl <| ml_iconst dX10_ownersOf_2 kc_i0 <| ml_istore_n (lv' := [(3, ml_i (0 : Int32)), (2, ml_i (0 : Int32)), (0, ml_r l0), (1, ml_r l1)]) dX10_ownersOf_3 (ml_hn hL rfl) rfl <| ml_V.sub [2, 3, 1, 0] rfl (vX10_ownersOf_4 hL hr  ml_fu _ _ _ _ h)
theorem sX10_ownersOf {l0 : Nat} {l1 : Nat} {m : ml_M} {rv : Int32} (h : fX10_ownersOf l0 l1 m = some rv) : ml_Sn yX10_ownersOf cX10_ownersOf 4 (some .int) 4 [ml_r l0, ml_r l1] m (some (ml_i rv)) m :=
  ml_Sn_of (P := True) (ini := false) (by decide +kernel) (Nat.le_of_ble_eq_true rfl) (fun h => by cases h) (fun _ => ml_RkI rv) fun E hL hr => wX10_ownersOf_0 hL hr _ _ h
theorem dX10_thing_0 : ml_d cX10_thing 0 (.iload_n 2) 1 1 := ⟨by decide +kernel, rfl⟩
theorem dX10_thing_1 : ml_d cX10_thing 1 (.iload_n 3) 1 2 := ⟨by decide +kernel, rfl⟩
theorem dX10_thing_2 : ml_d cX10_thing 2 (.invokestatic 154) 3 5 := ⟨by decide +kernel, rfl⟩
theorem dX10_thing_5 : ml_j cX10_thing 5 (.ifCond .ne) 10 8 := ⟨5, by decide +kernel, by decide, rfl⟩
theorem dX10_thing_8 : ml_d cX10_thing 8 (.iconst (-1)) 1 9 := ⟨by decide +kernel, rfl⟩
theorem dX10_thing_9 : ml_d cX10_thing 9 (.ireturn) 1 10 := ⟨by decide +kernel, rfl⟩
theorem dX10_thing_10 : ml_d cX10_thing 10 (.iload_n 1) 1 11 := ⟨by decide +kernel, rfl⟩
theorem dX10_thing_11 : ml_d cX10_thing 11 (.iload 4) 2 13 := ⟨by decide +kernel, rfl⟩
theorem dX10_thing_13 : ml_d cX10_thing 13 (.iload 5) 2 15 := ⟨by decide +kernel, rfl⟩
theorem dX10_thing_15 : ml_d cX10_thing 15 (.invokestatic 158) 3 18 := ⟨by decide +kernel, rfl⟩
theorem dX10_thing_18 : ml_d cX10_thing 18 (.istore 6) 2 20 := ⟨by decide +kernel, rfl⟩
theorem dX10_thing_20 : ml_d cX10_thing 20 (.iload 6) 2 22 := ⟨by decide +kernel, rfl⟩
theorem dX10_thing_22 : ml_d cX10_thing 22 (.iconst (-1)) 1 23 := ⟨by decide +kernel, rfl⟩
theorem dX10_thing_23 : ml_j cX10_thing 23 (.if_icmp .ne) 28 26 := ⟨5, by decide +kernel, by decide, rfl⟩
theorem dX10_thing_26 : ml_d cX10_thing 26 (.iconst (-1)) 1 27 := ⟨by decide +kernel, rfl⟩
theorem dX10_thing_27 : ml_d cX10_thing 27 (.ireturn) 1 28 := ⟨by decide +kernel, rfl⟩
theorem dX10_thing_28 : ml_d cX10_thing 28 (.iload_n 1) 1 29 := ⟨by decide +kernel, rfl⟩
theorem dX10_thing_29 : ml_d cX10_thing 29 (.iconst 3) 1 30 := ⟨by decide +kernel, rfl⟩
theorem dX10_thing_30 : ml_j cX10_thing 30 (.if_icmp .ne) 44 33 := ⟨14, by decide +kernel, by decide, rfl⟩
theorem dX10_thing_33 : ml_d cX10_thing 33 (.aload_n 0) 1 34 := ⟨by decide +kernel, rfl⟩
theorem dX10_thing_34 : ml_d cX10_thing 34 (.iload 5) 2 36 := ⟨by decide +kernel, rfl⟩
theorem dX10_thing_36 : ml_d cX10_thing 36 (.invokevirtual 141) 3 39 := ⟨by decide +kernel, rfl⟩
theorem dX10_thing_39 : ml_j cX10_thing 39 (.ifCond .ne) 44 42 := ⟨5, by decide +kernel, by decide, rfl⟩
theorem dX10_thing_42 : ml_d cX10_thing 42 (.iconst (-1)) 1 43 := ⟨by decide +kernel, rfl⟩
theorem dX10_thing_43 : ml_d cX10_thing 43 (.ireturn) 1 44 := ⟨by decide +kernel, rfl⟩
theorem dX10_thing_44 : ml_d cX10_thing 44 (.aload_n 0) 1 45 := ⟨by decide +kernel, rfl⟩
theorem dX10_thing_45 : ml_d cX10_thing 45 (.getfield 118) 3 48 := ⟨by decide +kernel, rfl⟩
theorem dX10_thing_48 : ml_d cX10_thing 48 (.bipush 20) 2 50 := ⟨by decide +kernel, rfl⟩
theorem dX10_thing_50 : ml_j cX10_thing 50 (.if_icmp .lt) 56 53 := ⟨6, by decide +kernel, by decide, rfl⟩
theorem dX10_thing_53 : ml_d cX10_thing 53 (.bipush (-2)) 2 55 := ⟨by decide +kernel, rfl⟩
theorem dX10_thing_55 : ml_d cX10_thing 55 (.ireturn) 1 56 := ⟨by decide +kernel, rfl⟩
theorem dX10_thing_56 : ml_d cX10_thing 56 (.new 34) 3 59 := ⟨by decide +kernel, rfl⟩
theorem dX10_thing_59 : ml_d cX10_thing 59 (.dup) 1 60 := ⟨by decide +kernel, rfl⟩
theorem dX10_thing_60 : ml_d cX10_thing 60 (.iload_n 1) 1 61 := ⟨by decide +kernel, rfl⟩
theorem dX10_thing_61 : ml_d cX10_thing 61 (.iload_n 2) 1 62 := ⟨by decide +kernel, rfl⟩
theorem dX10_thing_62 : ml_d cX10_thing 62 (.iload_n 3) 1 63 := ⟨by decide +kernel, rfl⟩
theorem dX10_thing_63 : ml_d cX10_thing 63 (.iload 6) 2 65 := ⟨by decide +kernel, rfl⟩
theorem dX10_thing_65 : ml_d cX10_thing 65 (.iload_n 1) 1 66 := ⟨by decide +kernel, rfl⟩
theorem dX10_thing_66 : ml_d cX10_thing 66 (.iconst 3) 1 67 := ⟨by decide +kernel, rfl⟩
theorem dX10_thing_67 : ml_j cX10_thing 67 (.if_icmp .ne) 75 70 := ⟨8, by decide +kernel, by decide, rfl⟩
theorem dX10_thing_70 : ml_d cX10_thing 70 (.iload 5) 2 72 := ⟨by decide +kernel, rfl⟩
theorem dX10_thing_72 : ml_j cX10_thing 72 .goto 77 75 := ⟨5, by decide +kernel, by decide, rfl⟩
theorem dX10_thing_75 : ml_d cX10_thing 75 (.bipush (-9)) 2 77 := ⟨by decide +kernel, rfl⟩
theorem dX10_thing_77 : ml_d cX10_thing 77 (.invokespecial 162) 3 80 := ⟨by decide +kernel, rfl⟩
theorem dX10_thing_80 : ml_d cX10_thing 80 (.astore 7) 2 82 := ⟨by decide +kernel, rfl⟩
theorem dX10_thing_82 : ml_d cX10_thing 82 (.aload 7) 2 84 := ⟨by decide +kernel, rfl⟩
theorem dX10_thing_84 : ml_d cX10_thing 84 (.aload_n 0) 1 85 := ⟨by decide +kernel, rfl⟩
theorem dX10_thing_85 : ml_d cX10_thing 85 (.aload 7) 2 87 := ⟨by decide +kernel, rfl⟩
theorem dX10_thing_87 : ml_d cX10_thing 87 (.invokevirtual 165) 3 90 := ⟨by decide +kernel, rfl⟩
theorem dX10_thing_90 : ml_d cX10_thing 90 (.putfield 169) 3 93 := ⟨by decide +kernel, rfl⟩
theorem dX10_thing_93 : ml_d cX10_thing 93 (.aload_n 0) 1 94 := ⟨by decide +kernel, rfl⟩
theorem dX10_thing_94 : ml_d cX10_thing 94 (.getfield 36) 3 97 := ⟨by decide +kernel, rfl⟩
theorem dX10_thing_97 : ml_d cX10_thing 97 (.aload_n 0) 1 98 := ⟨by decide +kernel, rfl⟩
theorem dX10_thing_98 : ml_d cX10_thing 98 (.getfield 118) 3 101 := ⟨by decide +kernel, rfl⟩
theorem dX10_thing_101 : ml_d cX10_thing 101 (.aload 7) 2 103 := ⟨by decide +kernel, rfl⟩
theorem dX10_thing_103 : ml_d cX10_thing 103 (.aastore) 1 104 := ⟨by decide +kernel, rfl⟩
theorem dX10_thing_104 : ml_d cX10_thing 104 (.aload_n 0) 1 105 := ⟨by decide +kernel, rfl⟩
theorem dX10_thing_105 : ml_d cX10_thing 105 (.getfield 61) 3 108 := ⟨by decide +kernel, rfl⟩
theorem dX10_thing_108 : ml_d cX10_thing 108 (.iconst 1) 1 109 := ⟨by decide +kernel, rfl⟩
theorem dX10_thing_109 : ml_d cX10_thing 109 (.putfield 130) 3 112 := ⟨by decide +kernel, rfl⟩
theorem dX10_thing_112 : ml_d cX10_thing 112 (.aload_n 0) 1 113 := ⟨by decide +kernel, rfl⟩
theorem dX10_thing_113 : ml_d cX10_thing 113 (.dup) 1 114 := ⟨by decide +kernel, rfl⟩
theorem dX10_thing_114 : ml_d cX10_thing 114 (.getfield 118) 3 117 := ⟨by decide +kernel, rfl⟩
theorem dX10_thing_117 : ml_d cX10_thing 117 (.dup_x1) 1 118 := ⟨by decide +kernel, rfl⟩
theorem dX10_thing_118 : ml_d cX10_thing 118 (.iconst 1) 1 119 := ⟨by decide +kernel, rfl⟩
theorem dX10_thing_119 : ml_d cX10_thing 119 (.iadd) 1 120 := ⟨by decide +kernel, rfl⟩
theorem dX10_thing_120 : ml_d cX10_thing 120 (.putfield 118) 3 123 := ⟨by decide +kernel, rfl⟩
theorem dX10_thing_123 : ml_d cX10_thing 123 (.ireturn) 1 124 := ⟨by decide +kernel, rfl⟩
def fX10_thing_77 (l0 : Nat) (t0 : Int32) (t1 : Int32) (t2 : Int32) (t3 : Int32) (t4 : Int32) (t5 : Nat) (t6 : Nat) (m : ml_M) : Option (Int32 × ml_M) :=
    if t5 ≠ 0 then
    ml_b1 (fX8_init t5 t4 t3 t2 t1 t0 m) fun m839 =>
    if (ml_K m839 l0).1 = 10 then
    ml_b1 (fX10_ownersOf l0 t6 m839) fun r842 =>
    if (ml_K m839 t6).1 = 8 then
    ml_let (ml_sI m839 t6 5 r842) fun m844 =>
    ml_let (ml_R m844 l0 4) fun a846 =>
    if ml_in m844 a846 29 (ml_I m844 l0 5) then
    ml_let (ml_sR m844 a846 (ml_I m844 l0 5).toNatClampNeg t6) fun m848 =>
    ml_let (ml_R m848 l0 12) fun a850 =>
    if (ml_K m848 a850).1 = 7 then
    ml_let (ml_sI m848 a850 0 (1 : Int32)) fun m852 =>
    ml_let (ml_sI m852 l0 5 ((ml_I m852 l0 5) + (1 : Int32))) fun m854 =>
    some ((ml_I m852 l0 5), m854)
    else none
    else none
    else none
    else none
    else none
theorem vX10_thing_77 {E : ml_E} (hL : ml_eL E = 8) {rv : Int32} {rm : ml_M} (hr : ∀ (pc pc' : Nat) (lv : List (Nat × ml_X)), ml_d cX10_thing pc .ireturn 1 pc' → True → ml_V E "LostRoom" cX10_thing 5 false rm pc lv [ml_i rv]) : ∀ (l0 : Nat) (t0 : Int32) (t1 : Int32) (t2 : Int32) (t3 : Int32) (t4 : Int32) (t5 : Nat) (t6 : Nat) (m : ml_M), fX10_thing_77 l0 t0 t1 t2 t3 t4 t5 t6 m = some (rv, rm) → ml_V E "LostRoom" cX10_thing 5 false m 77 [(0, ml_r l0)] [ml_i t0, ml_i t1, ml_i t2, ml_i t3, ml_i t4, ml_r t5, ml_r t6] := by
  intro l0 t0 t1 t2 t3 t4 t5 t6 m h
  unfold fX10_thing_77 at h
  exact ml_ck_of h fun hz838 h => ml_b1_of h fun m839 hv837 h => ml_callI dX10_thing_77 wm_265 wb_164 hz838 (sX8_init hv837) rfl (Nat.le_of_ble_eq_true rfl) (Nat.le_of_ble_eq_true rfl) rfl <| ml_astore (lv' := [(7, ml_r t6), (0, ml_r l0)]) dX10_thing_80 (ml_hn hL rfl) rfl <| ml_aload dX10_thing_82 0 rfl <| ml_aload_n dX10_thing_84 1 rfl <| ml_aload dX10_thing_85 0 rfl <| ml_ck_of h fun hc841 h => ml_b1_of h fun r842 hv840 h => ml_callV dX10_thing_87 wm_269 wb_165 hc841 (sX10_ownersOf hv840) rfl (Nat.le_of_ble_eq_true rfl) (Nat.le_of_ble_eq_true rfl) rfl <| ml_ck_of h fun hc843 h => ml_putI dX10_thing_90 wb_166 hc843 <| ml_lt (m := m839) rfl h fun m844 em845 h => ml_aload_n dX10_thing_93 1 rfl <| ml_getR dX10_thing_94 wb_78 (ml_kk em845 hc841) <| ml_lx (mk := ml_r) h fun a846 h => ml_aload_n dX10_thing_97 1 rfl <| ml_getI dX10_thing_98 wb_77 (ml_kk em845 hc841) <| ml_aload dX10_thing_101 0 rfl <| ml_ck_of h fun hi847 h => ml_aast (kd := 29) (ci := 8) dX10_thing_103 (by decide) hi847 (ml_kk em845 hc843) <| ml_lt (m := m844) rfl h fun m848 em849 h => ml_aload_n dX10_thing_104 1 rfl <| ml_getR dX10_thing_105 wb_67 (ml_kk em849 (ml_kk em845 hc841)) <| ml_lx (mk := ml_r) h fun a850 h => ml_iconst dX10_thing_108 kc_i1 <| ml_ck_of h fun hc851 h => ml_putZ dX10_thing_109 wb_68 hc851 (Or.inr rfl) <| ml_lt (m := m848) rfl h fun m852 em853 h => ml_aload_n dX10_thing_112 1 rfl <| ml_dup dX10_thing_113 rfl <| ml_getI dX10_thing_114 wb_77 (ml_kk em853 (ml_kk em849 (ml_kk em845 hc841))) <| ml_dup_x1 dX10_thing_117 rfl rfl <| ml_iconst dX10_thing_118 kc_i1 <| ml_iadd dX10_thing_119 <| ml_putI dX10_thing_120 wb_63 (ml_kk em853 (ml_kk em849 (ml_kk em845 hc841))) <| ml_lt (m := m852) rfl h fun m854 em855 h => ml_rI (mk := ml_i) hr dX10_thing_123 (fun _ => trivial) h
def fX10_thing_44 (l0 : Nat) (l1 : Int32) (l2 : Int32) (l3 : Int32) (l5 : Int32) (l6 : Int32) (m : ml_M) : Option (Int32 × ml_M) :=
    if (ml_K m l0).1 = 10 then
    if (ml_I m l0 5) < (20 : Int32) then
    ml_let (ml_n m + 1) fun a857 =>
    ml_let (ml_al m 8 0 8) fun m858 =>
    if l1 = (3 : Int32) then
    fX10_thing_77 l0 l5 l6 l3 l2 l1 a857 a857 m858
    else
    fX10_thing_77 l0 (-9 : Int32) l6 l3 l2 l1 a857 a857 m858
    else
    some ((-2 : Int32), m)
    else none
theorem vX10_thing_44 {E : ml_E} (hL : ml_eL E = 8) {rv : Int32} {rm : ml_M} (hr : ∀ (pc pc' : Nat) (lv : List (Nat × ml_X)), ml_d cX10_thing pc .ireturn 1 pc' → True → ml_V E "LostRoom" cX10_thing 5 false rm pc lv [ml_i rv]) : ∀ (l0 : Nat) (l1 : Int32) (l2 : Int32) (l3 : Int32) (l5 : Int32) (l6 : Int32) (m : ml_M), fX10_thing_44 l0 l1 l2 l3 l5 l6 m = some (rv, rm) → ml_V E "LostRoom" cX10_thing 5 false m 44 [(0, ml_r l0), (1, ml_i l1), (2, ml_i l2), (3, ml_i l3), (5, ml_i l5), (6, ml_i l6)] [] := by
  intro l0 l1 l2 l3 l5 l6 m h
  unfold fX10_thing_44 at h
  exact ml_aload_n dX10_thing_44 0 rfl <| ml_ck_of h fun hc856 h => ml_getI dX10_thing_45 wb_77 hc856 <| ml_bipush dX10_thing_48 kc_b20 <| ml_icmp_lt dX10_thing_50 h (fun _ h => ml_newOs dX10_thing_56 wb_167 h fun a857 m858 hn859 hc860 h => ml_dup dX10_thing_59 rfl <| ml_iload_n dX10_thing_60 1 rfl <| ml_iload_n dX10_thing_61 2 rfl <| ml_iload_n dX10_thing_62 3 rfl <| ml_iload dX10_thing_63 5 rfl <| ml_iload_n dX10_thing_65 1 rfl <| ml_iconst dX10_thing_66 kc_i3 <| ml_icmp_ne dX10_thing_67 h (fun _ h => ml_bipush dX10_thing_75 kc_bm9 <| ml_V.sub [0] rfl (vX10_thing_77 hL hr  _ _ _ _ _ _ _ _ _ h)) (fun _ h => ml_iload dX10_thing_70 4 rfl <| ml_goto dX10_thing_72 <| ml_V.sub [0] rfl (vX10_thing_77 hL hr  _ _ _ _ _ _ _ _ _ h))) (fun _ h => ml_bipush dX10_thing_53 kc_bm2 <| ml_rI (mk := ml_i) hr dX10_thing_55 (fun _ => trivial) h)
def fX10_thing (l0 : Nat) (l1 : Int32) (l2 : Int32) (l3 : Int32) (l4 : Int32) (l5 : Int32) (m : ml_M) : Option (Int32 × ml_M) :=
    ml_b1 (fX10_areYears l2 l3 m) fun r862 =>
    if r862 = 0 then
    some ((-1 : Int32), m)
    else
    ml_b1 (fX10_numberOf l1 l4 l5 m) fun r864 =>
    if r864 = (-1 : Int32) then
    some ((-1 : Int32), m)
    else
    if l1 = (3 : Int32) then
    if (ml_K m l0).1 = 10 then
    ml_b1 (fX10_isLodger l0 l5 m) fun r867 =>
    if r867 = 0 then
    some ((-1 : Int32), m)
    else
    fX10_thing_44 l0 l1 l2 l3 l5 r864 m
    else none
    else
    fX10_thing_44 l0 l1 l2 l3 l5 r864 m
theorem wX10_thing_0 {E : ml_E} (hL : ml_eL E = 8) {rv : Int32} {rm : ml_M} (hr : ∀ (pc pc' : Nat) (lv : List (Nat × ml_X)), ml_d cX10_thing pc .ireturn 1 pc' → True → ml_V E "LostRoom" cX10_thing 5 false rm pc lv [ml_i rv]) : ∀ (l0 : Nat) (l1 : Int32) (l2 : Int32) (l3 : Int32) (l4 : Int32) (l5 : Int32) (m : ml_M), fX10_thing l0 l1 l2 l3 l4 l5 m = some (rv, rm) → ml_V E "LostRoom" cX10_thing 5 false m 0 [(0, ml_r l0), (1, ml_i l1), (2, ml_i l2), (3, ml_i l3), (4, ml_i l4), (5, ml_i l5)] [] := by
  intro l0 l1 l2 l3 l4 l5 m h
  unfold fX10_thing at h
  exact ml_iload_n dX10_thing_0 2 rfl <| ml_iload_n dX10_thing_1 3 rfl <| ml_b1_of h fun r862 hv861 h => ml_callS dX10_thing_2 wm_273 wb_168 (sX10_areYears hv861) rfl (Nat.le_of_ble_eq_true rfl) (Nat.le_of_ble_eq_true rfl) rfl <| ml_if_ne dX10_thing_5 h (fun _ h => ml_iload_n dX10_thing_10 1 rfl <| ml_iload dX10_thing_11 4 rfl <| ml_iload dX10_thing_13 5 rfl <| ml_b1_of h fun r864 hv863 h => ml_callS dX10_thing_15 wm_276 wb_169 (sX10_numberOf hv863) rfl (Nat.le_of_ble_eq_true rfl) (Nat.le_of_ble_eq_true rfl) rfl <| ml_istore (lv' := [(6, ml_i r864), (0, ml_r l0), (1, ml_i l1), (2, ml_i l2), (3, ml_i l3), (4, ml_i l4), (5, ml_i l5)]) dX10_thing_18 (ml_hn hL rfl) rfl <| ml_iload dX10_thing_20 0 rfl <| ml_iconst dX10_thing_22 kc_im1 <| ml_icmp_ne dX10_thing_23 h (fun _ h => ml_iload_n dX10_thing_28 2 rfl <| ml_iconst dX10_thing_29 kc_i3 <| ml_icmp_ne dX10_thing_30 h (fun _ h => ml_V.sub [1, 2, 3, 4, 6, 0] rfl (vX10_thing_44 hL hr  _ _ _ _ _ _ _ h)) (fun _ h => ml_aload_n dX10_thing_33 1 rfl <| ml_iload dX10_thing_34 6 rfl <| ml_ck_of h fun hc866 h => ml_b1_of h fun r867 hv865 h => ml_callV dX10_thing_36 wm_280 wb_170 hc866 (sX10_isLodger hv865) rfl (Nat.le_of_ble_eq_true rfl) (Nat.le_of_ble_eq_true rfl) rfl <| ml_if_ne dX10_thing_39 h (fun _ h => ml_V.sub [1, 2, 3, 4, 6, 0] rfl (vX10_thing_44 hL hr  _ _ _ _ _ _ _ h)) (fun _ h => ml_iconst dX10_thing_42 kc_im1 <| ml_rI (mk := ml_i) hr dX10_thing_43 (fun _ => trivial) h))) (fun _ h => ml_iconst dX10_thing_26 kc_im1 <| ml_rI (mk := ml_i) hr dX10_thing_27 (fun _ => trivial) h)) (fun _ h => ml_iconst dX10_thing_8 kc_im1 <| ml_rI (mk := ml_i) hr dX10_thing_9 (fun _ => trivial) h)
theorem sX10_thing {l0 : Nat} {l1 : Int32} {l2 : Int32} {l3 : Int32} {l4 : Int32} {l5 : Int32} {m : ml_M} {rv : Int32} {rm : ml_M} (h : fX10_thing l0 l1 l2 l3 l4 l5 m = some (rv, rm)) : ml_Sn yX10_thing cX10_thing 8 (some .int) 5 [ml_r l0, ml_i l1, ml_i l2, ml_i l3, ml_i l4, ml_i l5] m (some (ml_i rv)) rm :=
  ml_Sn_of (P := True) (ini := false) (by decide +kernel) (Nat.le_of_ble_eq_true rfl) (fun h => by cases h) (fun _ => ml_RkI rv) fun E hL hr => wX10_thing_0 hL hr _ _ _ _ _ _ _ h
theorem dX10_isTrunk_0 : ml_d cX10_isTrunk 0 (.iload_n 1) 1 1 := ⟨by decide +kernel, rfl⟩
theorem dX10_isTrunk_1 : ml_d cX10_isTrunk 1 (.iconst 0) 1 2 := ⟨by decide +kernel, rfl⟩
theorem dX10_isTrunk_2 : ml_d cX10_isTrunk 2 (.aload_n 0) 1 3 := ⟨by decide +kernel, rfl⟩
theorem dX10_isTrunk_3 : ml_d cX10_isTrunk 3 (.getfield 26) 3 6 := ⟨by decide +kernel, rfl⟩
theorem dX10_isTrunk_6 : ml_d cX10_isTrunk 6 (.getfield 135) 3 9 := ⟨by decide +kernel, rfl⟩
theorem dX10_isTrunk_9 : ml_d cX10_isTrunk 9 (.iconst 1) 1 10 := ⟨by decide +kernel, rfl⟩
theorem dX10_isTrunk_10 : ml_d cX10_isTrunk 10 (.isub) 1 11 := ⟨by decide +kernel, rfl⟩
theorem dX10_isTrunk_11 : ml_d cX10_isTrunk 11 (.invokestatic 138) 3 14 := ⟨by decide +kernel, rfl⟩
theorem dX10_isTrunk_14 : ml_d cX10_isTrunk 14 (.ireturn) 1 15 := ⟨by decide +kernel, rfl⟩
def fX10_isTrunk (l0 : Nat) (l1 : Int32) (m : ml_M) : Option Int32 :=
    if (ml_K m l0).1 = 10 then
    ml_let (ml_R m l0 2) fun a869 =>
    if (ml_K m a869).1 = 1 then
    ml_b1 (fX10_within l1 (0 : Int32) ((ml_I m a869 3) - (1 : Int32)) m) fun r872 =>
    if r872 = 0 ∨ r872 = 1 then some r872 else none
    else none
    else none
theorem wX10_isTrunk_0 {E : ml_E} (hL : ml_eL E = 2) {rv : Int32} {m : ml_M} (hr : ∀ (pc pc' : Nat) (lv : List (Nat × ml_X)), ml_d cX10_isTrunk pc .ireturn 1 pc' → (rv = 0 ∨ rv = 1) → ml_V E "LostRoom" cX10_isTrunk 3 false m pc lv [ml_i rv]) : ∀ (l0 : Nat) (l1 : Int32), fX10_isTrunk l0 l1 m = some rv → ml_V E "LostRoom" cX10_isTrunk 3 false m 0 [(0, ml_r l0), (1, ml_i l1)] [] := by
  intro l0 l1 h
  unfold fX10_isTrunk at h
  exact ml_iload_n dX10_isTrunk_0 1 rfl <| ml_iconst dX10_isTrunk_1 kc_i0 <| ml_aload_n dX10_isTrunk_2 0 rfl <| ml_ck_of h fun hc868 h => ml_getR dX10_isTrunk_3 wb_71 hc868 <| ml_lx (mk := ml_r) h fun a869 h => ml_ck_of h fun hc870 h => ml_getI dX10_isTrunk_6 wb_72 hc870 <| ml_iconst dX10_isTrunk_9 kc_i1 <| ml_isub dX10_isTrunk_10 <| ml_b1_of h fun r872 hv871 h => ml_callS dX10_isTrunk_11 wm_21 wb_4 (sX10_within hv871) rfl (Nat.le_of_ble_eq_true rfl) (Nat.le_of_ble_eq_true rfl) rfl <| ml_ck_of h fun hz873 h => ml_rp (mk := ml_i) hr dX10_isTrunk_14 (fun e => e ▸ hz873) h
theorem sX10_isTrunk {l0 : Nat} {l1 : Int32} {m : ml_M} {rv : Int32} (h : fX10_isTrunk l0 l1 m = some rv) : ml_Sn yX10_isTrunk cX10_isTrunk 2 (some .boolean) 3 [ml_r l0, ml_i l1] m (some (ml_i rv)) m :=
  ml_Sn_of (P := (rv = 0 ∨ rv = 1)) (ini := false) (by decide +kernel) (Nat.le_of_ble_eq_true rfl) (fun h => by cases h) (fun hz => ml_RkZ rv hz) fun E hL hr => wX10_isTrunk_0 hL hr _ _ h
theorem dX10_lies_0 : ml_d cX10_lies 0 (.aload_n 0) 1 1 := ⟨by decide +kernel, rfl⟩
theorem dX10_lies_1 : ml_d cX10_lies 1 (.iload_n 1) 1 2 := ⟨by decide +kernel, rfl⟩
theorem dX10_lies_2 : ml_d cX10_lies 2 (.invokevirtual 172) 3 5 := ⟨by decide +kernel, rfl⟩
theorem dX10_lies_5 : ml_j cX10_lies 5 (.ifCond .ne) 10 8 := ⟨5, by decide +kernel, by decide, rfl⟩
theorem dX10_lies_8 : ml_d cX10_lies 8 (.iconst (-1)) 1 9 := ⟨by decide +kernel, rfl⟩
theorem dX10_lies_9 : ml_d cX10_lies 9 (.ireturn) 1 10 := ⟨by decide +kernel, rfl⟩
theorem dX10_lies_10 : ml_d cX10_lies 10 (.iload_n 2) 1 11 := ⟨by decide +kernel, rfl⟩
theorem dX10_lies_11 : ml_d cX10_lies 11 (.bipush (-9)) 2 13 := ⟨by decide +kernel, rfl⟩
theorem dX10_lies_13 : ml_j cX10_lies 13 (.if_icmp .eq) 26 16 := ⟨13, by decide +kernel, by decide, rfl⟩
theorem dX10_lies_16 : ml_d cX10_lies 16 (.aload_n 0) 1 17 := ⟨by decide +kernel, rfl⟩
theorem dX10_lies_17 : ml_d cX10_lies 17 (.iload_n 2) 1 18 := ⟨by decide +kernel, rfl⟩
theorem dX10_lies_18 : ml_d cX10_lies 18 (.invokevirtual 148) 3 21 := ⟨by decide +kernel, rfl⟩
theorem dX10_lies_21 : ml_j cX10_lies 21 (.ifCond .ne) 26 24 := ⟨5, by decide +kernel, by decide, rfl⟩
theorem dX10_lies_24 : ml_d cX10_lies 24 (.iconst (-1)) 1 25 := ⟨by decide +kernel, rfl⟩
theorem dX10_lies_25 : ml_d cX10_lies 25 (.ireturn) 1 26 := ⟨by decide +kernel, rfl⟩
theorem dX10_lies_26 : ml_d cX10_lies 26 (.aload_n 0) 1 27 := ⟨by decide +kernel, rfl⟩
theorem dX10_lies_27 : ml_d cX10_lies 27 (.getfield 36) 3 30 := ⟨by decide +kernel, rfl⟩
theorem dX10_lies_30 : ml_d cX10_lies 30 (.iload_n 1) 1 31 := ⟨by decide +kernel, rfl⟩
theorem dX10_lies_31 : ml_d cX10_lies 31 (.aaload) 1 32 := ⟨by decide +kernel, rfl⟩
theorem dX10_lies_32 : ml_d cX10_lies 32 (.iload_n 2) 1 33 := ⟨by decide +kernel, rfl⟩
theorem dX10_lies_33 : ml_d cX10_lies 33 (.putfield 175) 3 36 := ⟨by decide +kernel, rfl⟩
theorem dX10_lies_36 : ml_d cX10_lies 36 (.aload_n 0) 1 37 := ⟨by decide +kernel, rfl⟩
theorem dX10_lies_37 : ml_d cX10_lies 37 (.getfield 36) 3 40 := ⟨by decide +kernel, rfl⟩
theorem dX10_lies_40 : ml_d cX10_lies 40 (.iload_n 1) 1 41 := ⟨by decide +kernel, rfl⟩
theorem dX10_lies_41 : ml_d cX10_lies 41 (.aaload) 1 42 := ⟨by decide +kernel, rfl⟩
theorem dX10_lies_42 : ml_d cX10_lies 42 (.iload_n 3) 1 43 := ⟨by decide +kernel, rfl⟩
theorem dX10_lies_43 : ml_d cX10_lies 43 (.putfield 178) 3 46 := ⟨by decide +kernel, rfl⟩
theorem dX10_lies_46 : ml_d cX10_lies 46 (.aload_n 0) 1 47 := ⟨by decide +kernel, rfl⟩
theorem dX10_lies_47 : ml_d cX10_lies 47 (.getfield 61) 3 50 := ⟨by decide +kernel, rfl⟩
theorem dX10_lies_50 : ml_d cX10_lies 50 (.iconst 1) 1 51 := ⟨by decide +kernel, rfl⟩
theorem dX10_lies_51 : ml_d cX10_lies 51 (.putfield 130) 3 54 := ⟨by decide +kernel, rfl⟩
theorem dX10_lies_54 : ml_d cX10_lies 54 (.iconst 1) 1 55 := ⟨by decide +kernel, rfl⟩
theorem dX10_lies_55 : ml_d cX10_lies 55 (.ireturn) 1 56 := ⟨by decide +kernel, rfl⟩
def fX10_lies_26 (l0 : Nat) (l1 : Int32) (l2 : Int32) (l3 : Int32) (m : ml_M) : Option (Int32 × ml_M) :=
    if (ml_K m l0).1 = 10 then
    ml_let (ml_R m l0 4) fun a875 =>
    if ml_in m a875 29 l1 then
    ml_let (ml_R m a875 l1.toNatClampNeg) fun a877 =>
    if (ml_K m a877).1 = 8 then
    ml_let (ml_sI m a877 6 l2) fun m879 =>
    ml_let (ml_R m879 l0 4) fun a881 =>
    if ml_in m879 a881 29 l1 then
    ml_let (ml_R m879 a881 l1.toNatClampNeg) fun a883 =>
    if (ml_K m879 a883).1 = 8 then
    if l3 = 0 ∨ l3 = 1 then
    ml_let (ml_sI m879 a883 7 l3) fun m886 =>
    ml_let (ml_R m886 l0 12) fun a888 =>
    if (ml_K m886 a888).1 = 7 then
    ml_let (ml_sI m886 a888 0 (1 : Int32)) fun m890 =>
    some ((1 : Int32), m890)
    else none
    else none
    else none
    else none
    else none
    else none
    else none
theorem vX10_lies_26 {E : ml_E} (hL : ml_eL E = 4) {rv : Int32} {rm : ml_M} (hr : ∀ (pc pc' : Nat) (lv : List (Nat × ml_X)), ml_d cX10_lies pc .ireturn 1 pc' → True → ml_V E "LostRoom" cX10_lies 4 false rm pc lv [ml_i rv]) : ∀ (l0 : Nat) (l1 : Int32) (l2 : Int32) (l3 : Int32) (m : ml_M), fX10_lies_26 l0 l1 l2 l3 m = some (rv, rm) → ml_V E "LostRoom" cX10_lies 4 false m 26 [(0, ml_r l0), (1, ml_i l1), (2, ml_i l2), (3, ml_i l3)] [] := by
  intro l0 l1 l2 l3 m h
  unfold fX10_lies_26 at h
  exact ml_aload_n dX10_lies_26 0 rfl <| ml_ck_of h fun hc874 h => ml_getR dX10_lies_27 wb_78 hc874 <| ml_lx (mk := ml_r) h fun a875 h => ml_iload_n dX10_lies_30 1 rfl <| ml_ck_of h fun hi876 h => ml_aald (kd := 29) dX10_lies_31 (by decide) hi876 <| ml_lx (mk := ml_r) h fun a877 h => ml_iload_n dX10_lies_32 2 rfl <| ml_ck_of h fun hc878 h => ml_putI dX10_lies_33 wb_171 hc878 <| ml_lt (m := m) rfl h fun m879 em880 h => ml_aload_n dX10_lies_36 0 rfl <| ml_getR dX10_lies_37 wb_78 (ml_kk em880 hc874) <| ml_lx (mk := ml_r) h fun a881 h => ml_iload_n dX10_lies_40 1 rfl <| ml_ck_of h fun hi882 h => ml_aald (kd := 29) dX10_lies_41 (by decide) hi882 <| ml_lx (mk := ml_r) h fun a883 h => ml_iload_n dX10_lies_42 3 rfl <| ml_ck_of h fun hc884 h => ml_ck_of h fun hz885 h => ml_putZ dX10_lies_43 wb_172 hc884 hz885 <| ml_lt (m := m879) rfl h fun m886 em887 h => ml_aload_n dX10_lies_46 0 rfl <| ml_getR dX10_lies_47 wb_67 (ml_kk em887 (ml_kk em880 hc874)) <| ml_lx (mk := ml_r) h fun a888 h => ml_iconst dX10_lies_50 kc_i1 <| ml_ck_of h fun hc889 h => ml_putZ dX10_lies_51 wb_68 hc889 (Or.inr rfl) <| ml_lt (m := m886) rfl h fun m890 em891 h => ml_iconst dX10_lies_54 kc_i1 <| ml_rI (mk := ml_i) hr dX10_lies_55 (fun _ => trivial) h
def fX10_lies (l0 : Nat) (l1 : Int32) (l2 : Int32) (l3 : Int32) (m : ml_M) : Option (Int32 × ml_M) :=
    if (ml_K m l0).1 = 10 then
    ml_b1 (fX10_isThing l0 l1 m) fun r894 =>
    if r894 = 0 then
    some ((-1 : Int32), m)
    else
    if l2 = (-9 : Int32) then
    fX10_lies_26 l0 l1 l2 l3 m
    else
    ml_b1 (fX10_isTrunk l0 l2 m) fun r896 =>
    if r896 = 0 then
    some ((-1 : Int32), m)
    else
    fX10_lies_26 l0 l1 l2 l3 m
    else none
theorem wX10_lies_0 {E : ml_E} (hL : ml_eL E = 4) {rv : Int32} {rm : ml_M} (hr : ∀ (pc pc' : Nat) (lv : List (Nat × ml_X)), ml_d cX10_lies pc .ireturn 1 pc' → True → ml_V E "LostRoom" cX10_lies 4 false rm pc lv [ml_i rv]) : ∀ (l0 : Nat) (l1 : Int32) (l2 : Int32) (l3 : Int32) (m : ml_M), fX10_lies l0 l1 l2 l3 m = some (rv, rm) → ml_V E "LostRoom" cX10_lies 4 false m 0 [(0, ml_r l0), (1, ml_i l1), (2, ml_i l2), (3, ml_i l3)] [] := by
  intro l0 l1 l2 l3 m h
  unfold fX10_lies at h
  exact ml_aload_n dX10_lies_0 0 rfl <| ml_iload_n dX10_lies_1 1 rfl <| ml_ck_of h fun hc893 h => ml_b1_of h fun r894 hv892 h => ml_callV dX10_lies_2 wm_159 wb_85 hc893 (sX10_isThing hv892) rfl (Nat.le_of_ble_eq_true rfl) (Nat.le_of_ble_eq_true rfl) rfl <| ml_if_ne dX10_lies_5 h (fun _ h => ml_iload_n dX10_lies_10 2 rfl <| ml_bipush dX10_lies_11 kc_bm9 <| ml_icmp_eq dX10_lies_13 h (fun _ h => ml_V.sub [0, 1, 2, 3] rfl (vX10_lies_26 hL hr  _ _ _ _ _ h)) (fun _ h => ml_aload_n dX10_lies_16 0 rfl <| ml_iload_n dX10_lies_17 2 rfl <| ml_b1_of h fun r896 hv895 h => ml_callV dX10_lies_18 wm_286 wb_173 hc893 (sX10_isTrunk hv895) rfl (Nat.le_of_ble_eq_true rfl) (Nat.le_of_ble_eq_true rfl) rfl <| ml_if_ne dX10_lies_21 h (fun _ h => ml_V.sub [0, 1, 2, 3] rfl (vX10_lies_26 hL hr  _ _ _ _ _ h)) (fun _ h => ml_iconst dX10_lies_24 kc_im1 <| ml_rI (mk := ml_i) hr dX10_lies_25 (fun _ => trivial) h))) (fun _ h => ml_iconst dX10_lies_8 kc_im1 <| ml_rI (mk := ml_i) hr dX10_lies_9 (fun _ => trivial) h)
theorem sX10_lies {l0 : Nat} {l1 : Int32} {l2 : Int32} {l3 : Int32} {m : ml_M} {rv : Int32} {rm : ml_M} (h : fX10_lies l0 l1 l2 l3 m = some (rv, rm)) : ml_Sn yX10_lies cX10_lies 4 (some .int) 4 [ml_r l0, ml_i l1, ml_i l2, ml_i l3] m (some (ml_i rv)) rm :=
  ml_Sn_of (P := True) (ini := false) (by decide +kernel) (Nat.le_of_ble_eq_true rfl) (fun h => by cases h) (fun _ => ml_RkI rv) fun E hL hr => wX10_lies_0 hL hr _ _ _ _ _ h
theorem dL_thing_0 : ml_d cL_thing 0 (.iconst 1) 1 1 := ⟨by decide +kernel, rfl⟩
theorem dL_thing_1 : ml_d cL_thing 1 (.aload_n 1) 1 2 := ⟨by decide +kernel, rfl⟩
theorem dL_thing_2 : ml_d cL_thing 2 (.iload_n 2) 1 3 := ⟨by decide +kernel, rfl⟩
theorem dL_thing_3 : ml_d cL_thing 3 (.invokestatic 19) 3 6 := ⟨by decide +kernel, rfl⟩
theorem dL_thing_6 : ml_d cL_thing 6 (.iconst 5) 1 7 := ⟨by decide +kernel, rfl⟩
theorem dL_thing_7 : ml_d cL_thing 7 (.irem) 1 8 := ⟨by decide +kernel, rfl⟩
theorem dL_thing_8 : ml_d cL_thing 8 (.iadd) 1 9 := ⟨by decide +kernel, rfl⟩
theorem dL_thing_9 : ml_d cL_thing 9 (.istore 7) 2 11 := ⟨by decide +kernel, rfl⟩
theorem dL_thing_11 : ml_d cL_thing 11 (.iload 7) 2 13 := ⟨by decide +kernel, rfl⟩
theorem dL_thing_13 : ml_d cL_thing 13 (.iconst 3) 1 14 := ⟨by decide +kernel, rfl⟩
theorem dL_thing_14 : ml_j cL_thing 14 (.if_icmp .ne) 24 17 := ⟨10, by decide +kernel, by decide, rfl⟩
theorem dL_thing_17 : ml_d cL_thing 17 (.iload_n 3) 1 18 := ⟨by decide +kernel, rfl⟩
theorem dL_thing_18 : ml_j cL_thing 18 (.ifCond .ne) 24 21 := ⟨6, by decide +kernel, by decide, rfl⟩
theorem dL_thing_21 : ml_d cL_thing 21 (.iconst 1) 1 22 := ⟨by decide +kernel, rfl⟩
theorem dL_thing_22 : ml_d cL_thing 22 (.istore 7) 2 24 := ⟨by decide +kernel, rfl⟩
theorem dL_thing_24 : ml_d cL_thing 24 (.aload_n 1) 1 25 := ⟨by decide +kernel, rfl⟩
theorem dL_thing_25 : ml_d cL_thing 25 (.iload_n 2) 1 26 := ⟨by decide +kernel, rfl⟩
theorem dL_thing_26 : ml_d cL_thing 26 (.iconst 1) 1 27 := ⟨by decide +kernel, rfl⟩
theorem dL_thing_27 : ml_d cL_thing 27 (.iadd) 1 28 := ⟨by decide +kernel, rfl⟩
theorem dL_thing_28 : ml_d cL_thing 28 (.invokestatic 19) 3 31 := ⟨by decide +kernel, rfl⟩
theorem dL_thing_31 : ml_d cL_thing 31 (.bipush 40) 2 33 := ⟨by decide +kernel, rfl⟩
theorem dL_thing_33 : ml_d cL_thing 33 (.irem) 1 34 := ⟨by decide +kernel, rfl⟩
theorem dL_thing_34 : ml_d cL_thing 34 (.istore 8) 2 36 := ⟨by decide +kernel, rfl⟩
theorem dL_thing_36 : ml_d cL_thing 36 (.iload 8) 2 38 := ⟨by decide +kernel, rfl⟩
theorem dL_thing_38 : ml_d cL_thing 38 (.aload_n 1) 1 39 := ⟨by decide +kernel, rfl⟩
theorem dL_thing_39 : ml_d cL_thing 39 (.iload_n 2) 1 40 := ⟨by decide +kernel, rfl⟩
theorem dL_thing_40 : ml_d cL_thing 40 (.iconst 2) 1 41 := ⟨by decide +kernel, rfl⟩
theorem dL_thing_41 : ml_d cL_thing 41 (.iadd) 1 42 := ⟨by decide +kernel, rfl⟩
theorem dL_thing_42 : ml_d cL_thing 42 (.invokestatic 19) 3 45 := ⟨by decide +kernel, rfl⟩
theorem dL_thing_45 : ml_d cL_thing 45 (.bipush 15) 2 47 := ⟨by decide +kernel, rfl⟩
theorem dL_thing_47 : ml_d cL_thing 47 (.irem) 1 48 := ⟨by decide +kernel, rfl⟩
theorem dL_thing_48 : ml_d cL_thing 48 (.iadd) 1 49 := ⟨by decide +kernel, rfl⟩
theorem dL_thing_49 : ml_d cL_thing 49 (.istore 9) 2 51 := ⟨by decide +kernel, rfl⟩
theorem dL_thing_51 : ml_d cL_thing 51 (.aload_n 1) 1 52 := ⟨by decide +kernel, rfl⟩
theorem dL_thing_52 : ml_d cL_thing 52 (.iload_n 2) 1 53 := ⟨by decide +kernel, rfl⟩
theorem dL_thing_53 : ml_d cL_thing 53 (.iconst 3) 1 54 := ⟨by decide +kernel, rfl⟩
theorem dL_thing_54 : ml_d cL_thing 54 (.iadd) 1 55 := ⟨by decide +kernel, rfl⟩
theorem dL_thing_55 : ml_d cL_thing 55 (.invokestatic 19) 3 58 := ⟨by decide +kernel, rfl⟩
theorem dL_thing_58 : ml_d cL_thing 58 (.istore 10) 2 60 := ⟨by decide +kernel, rfl⟩
theorem dL_thing_60 : ml_d cL_thing 60 (.iload 7) 2 62 := ⟨by decide +kernel, rfl⟩
theorem dL_thing_62 : ml_d cL_thing 62 (.iconst 1) 1 63 := ⟨by decide +kernel, rfl⟩
theorem dL_thing_63 : ml_j cL_thing 63 (.if_icmp .ne) 76 66 := ⟨13, by decide +kernel, by decide, rfl⟩
theorem dL_thing_66 : ml_d cL_thing 66 (.iconst 1) 1 67 := ⟨by decide +kernel, rfl⟩
theorem dL_thing_67 : ml_d cL_thing 67 (.iload 10) 2 69 := ⟨by decide +kernel, rfl⟩
theorem dL_thing_69 : ml_d cL_thing 69 (.bipush 6) 2 71 := ⟨by decide +kernel, rfl⟩
theorem dL_thing_71 : ml_d cL_thing 71 (.irem) 1 72 := ⟨by decide +kernel, rfl⟩
theorem dL_thing_72 : ml_d cL_thing 72 (.iadd) 1 73 := ⟨by decide +kernel, rfl⟩
theorem dL_thing_73 : ml_j cL_thing 73 .goto 170 76 := ⟨97, by decide +kernel, by decide, rfl⟩
theorem dL_thing_76 : ml_d cL_thing 76 (.iload 7) 2 78 := ⟨by decide +kernel, rfl⟩
theorem dL_thing_78 : ml_d cL_thing 78 (.iconst 2) 1 79 := ⟨by decide +kernel, rfl⟩
theorem dL_thing_79 : ml_j cL_thing 79 (.if_icmp .ne) 89 82 := ⟨10, by decide +kernel, by decide, rfl⟩
theorem dL_thing_82 : ml_d cL_thing 82 (.iload 10) 2 84 := ⟨by decide +kernel, rfl⟩
theorem dL_thing_84 : ml_d cL_thing 84 (.iconst 4) 1 85 := ⟨by decide +kernel, rfl⟩
theorem dL_thing_85 : ml_d cL_thing 85 (.irem) 1 86 := ⟨by decide +kernel, rfl⟩
theorem dL_thing_86 : ml_j cL_thing 86 .goto 170 89 := ⟨84, by decide +kernel, by decide, rfl⟩
theorem dL_thing_89 : ml_d cL_thing 89 (.iload 7) 2 91 := ⟨by decide +kernel, rfl⟩
theorem dL_thing_91 : ml_d cL_thing 91 (.iconst 3) 1 92 := ⟨by decide +kernel, rfl⟩
theorem dL_thing_92 : ml_j cL_thing 92 (.if_icmp .ne) 114 95 := ⟨22, by decide +kernel, by decide, rfl⟩
theorem dL_thing_95 : ml_d cL_thing 95 (.bipush 10) 2 97 := ⟨by decide +kernel, rfl⟩
theorem dL_thing_97 : ml_d cL_thing 97 (.iload 10) 2 99 := ⟨by decide +kernel, rfl⟩
theorem dL_thing_99 : ml_d cL_thing 99 (.iconst 4) 1 100 := ⟨by decide +kernel, rfl⟩
theorem dL_thing_100 : ml_d cL_thing 100 (.irem) 1 101 := ⟨by decide +kernel, rfl⟩
theorem dL_thing_101 : ml_d cL_thing 101 (.imul) 1 102 := ⟨by decide +kernel, rfl⟩
theorem dL_thing_102 : ml_d cL_thing 102 (.iconst 1) 1 103 := ⟨by decide +kernel, rfl⟩
theorem dL_thing_103 : ml_d cL_thing 103 (.iadd) 1 104 := ⟨by decide +kernel, rfl⟩
theorem dL_thing_104 : ml_d cL_thing 104 (.iload 10) 2 106 := ⟨by decide +kernel, rfl⟩
theorem dL_thing_106 : ml_d cL_thing 106 (.iconst 4) 1 107 := ⟨by decide +kernel, rfl⟩
theorem dL_thing_107 : ml_d cL_thing 107 (.idiv) 1 108 := ⟨by decide +kernel, rfl⟩
theorem dL_thing_108 : ml_d cL_thing 108 (.iconst 3) 1 109 := ⟨by decide +kernel, rfl⟩
theorem dL_thing_109 : ml_d cL_thing 109 (.irem) 1 110 := ⟨by decide +kernel, rfl⟩
theorem dL_thing_110 : ml_d cL_thing 110 (.iadd) 1 111 := ⟨by decide +kernel, rfl⟩
theorem dL_thing_111 : ml_j cL_thing 111 .goto 170 114 := ⟨59, by decide +kernel, by decide, rfl⟩
theorem dL_thing_114 : ml_d cL_thing 114 (.iload 7) 2 116 := ⟨by decide +kernel, rfl⟩
theorem dL_thing_116 : ml_d cL_thing 116 (.iconst 4) 1 117 := ⟨by decide +kernel, rfl⟩
theorem dL_thing_117 : ml_j cL_thing 117 (.if_icmp .ne) 129 120 := ⟨12, by decide +kernel, by decide, rfl⟩
theorem dL_thing_120 : ml_d cL_thing 120 (.iconst 1) 1 121 := ⟨by decide +kernel, rfl⟩
theorem dL_thing_121 : ml_d cL_thing 121 (.iload 10) 2 123 := ⟨by decide +kernel, rfl⟩
theorem dL_thing_123 : ml_d cL_thing 123 (.iconst 3) 1 124 := ⟨by decide +kernel, rfl⟩
theorem dL_thing_124 : ml_d cL_thing 124 (.irem) 1 125 := ⟨by decide +kernel, rfl⟩
theorem dL_thing_125 : ml_d cL_thing 125 (.iadd) 1 126 := ⟨by decide +kernel, rfl⟩
theorem dL_thing_126 : ml_j cL_thing 126 .goto 170 129 := ⟨44, by decide +kernel, by decide, rfl⟩
theorem dL_thing_129 : ml_d cL_thing 129 (.sipush 1111) 3 132 := ⟨by decide +kernel, rfl⟩
theorem dL_thing_132 : ml_d cL_thing 132 (.iload 10) 2 134 := ⟨by decide +kernel, rfl⟩
theorem dL_thing_134 : ml_d cL_thing 134 (.iconst 5) 1 135 := ⟨by decide +kernel, rfl⟩
theorem dL_thing_135 : ml_d cL_thing 135 (.irem) 1 136 := ⟨by decide +kernel, rfl⟩
theorem dL_thing_136 : ml_d cL_thing 136 (.iadd) 1 137 := ⟨by decide +kernel, rfl⟩
theorem dL_thing_137 : ml_d cL_thing 137 (.bipush 10) 2 139 := ⟨by decide +kernel, rfl⟩
theorem dL_thing_139 : ml_d cL_thing 139 (.iload 10) 2 141 := ⟨by decide +kernel, rfl⟩
theorem dL_thing_141 : ml_d cL_thing 141 (.iconst 5) 1 142 := ⟨by decide +kernel, rfl⟩
theorem dL_thing_142 : ml_d cL_thing 142 (.idiv) 1 143 := ⟨by decide +kernel, rfl⟩
theorem dL_thing_143 : ml_d cL_thing 143 (.iconst 5) 1 144 := ⟨by decide +kernel, rfl⟩
theorem dL_thing_144 : ml_d cL_thing 144 (.irem) 1 145 := ⟨by decide +kernel, rfl⟩
theorem dL_thing_145 : ml_d cL_thing 145 (.imul) 1 146 := ⟨by decide +kernel, rfl⟩
theorem dL_thing_146 : ml_d cL_thing 146 (.iadd) 1 147 := ⟨by decide +kernel, rfl⟩
theorem dL_thing_147 : ml_d cL_thing 147 (.bipush 100) 2 149 := ⟨by decide +kernel, rfl⟩
theorem dL_thing_149 : ml_d cL_thing 149 (.iload 10) 2 151 := ⟨by decide +kernel, rfl⟩
theorem dL_thing_151 : ml_d cL_thing 151 (.bipush 25) 2 153 := ⟨by decide +kernel, rfl⟩
theorem dL_thing_153 : ml_d cL_thing 153 (.idiv) 1 154 := ⟨by decide +kernel, rfl⟩
theorem dL_thing_154 : ml_d cL_thing 154 (.iconst 2) 1 155 := ⟨by decide +kernel, rfl⟩
theorem dL_thing_155 : ml_d cL_thing 155 (.irem) 1 156 := ⟨by decide +kernel, rfl⟩
theorem dL_thing_156 : ml_d cL_thing 156 (.imul) 1 157 := ⟨by decide +kernel, rfl⟩
theorem dL_thing_157 : ml_d cL_thing 157 (.iadd) 1 158 := ⟨by decide +kernel, rfl⟩
theorem dL_thing_158 : ml_d cL_thing 158 (.sipush 1000) 3 161 := ⟨by decide +kernel, rfl⟩
theorem dL_thing_161 : ml_d cL_thing 161 (.iload 10) 2 163 := ⟨by decide +kernel, rfl⟩
theorem dL_thing_163 : ml_d cL_thing 163 (.bipush 50) 2 165 := ⟨by decide +kernel, rfl⟩
theorem dL_thing_165 : ml_d cL_thing 165 (.idiv) 1 166 := ⟨by decide +kernel, rfl⟩
theorem dL_thing_166 : ml_d cL_thing 166 (.iconst 2) 1 167 := ⟨by decide +kernel, rfl⟩
theorem dL_thing_167 : ml_d cL_thing 167 (.irem) 1 168 := ⟨by decide +kernel, rfl⟩
theorem dL_thing_168 : ml_d cL_thing 168 (.imul) 1 169 := ⟨by decide +kernel, rfl⟩
theorem dL_thing_169 : ml_d cL_thing 169 (.iadd) 1 170 := ⟨by decide +kernel, rfl⟩
theorem dL_thing_170 : ml_d cL_thing 170 (.istore 11) 2 172 := ⟨by decide +kernel, rfl⟩
theorem dL_thing_172 : ml_d cL_thing 172 (.iload 7) 2 174 := ⟨by decide +kernel, rfl⟩
theorem dL_thing_174 : ml_d cL_thing 174 (.iconst 2) 1 175 := ⟨by decide +kernel, rfl⟩
theorem dL_thing_175 : ml_j cL_thing 175 (.if_icmp .ne) 189 178 := ⟨14, by decide +kernel, by decide, rfl⟩
theorem dL_thing_178 : ml_d cL_thing 178 (.iconst 1) 1 179 := ⟨by decide +kernel, rfl⟩
theorem dL_thing_179 : ml_d cL_thing 179 (.iload 10) 2 181 := ⟨by decide +kernel, rfl⟩
theorem dL_thing_181 : ml_d cL_thing 181 (.iconst 4) 1 182 := ⟨by decide +kernel, rfl⟩
theorem dL_thing_182 : ml_d cL_thing 182 (.idiv) 1 183 := ⟨by decide +kernel, rfl⟩
theorem dL_thing_183 : ml_d cL_thing 183 (.iconst 3) 1 184 := ⟨by decide +kernel, rfl⟩
theorem dL_thing_184 : ml_d cL_thing 184 (.irem) 1 185 := ⟨by decide +kernel, rfl⟩
theorem dL_thing_185 : ml_d cL_thing 185 (.iadd) 1 186 := ⟨by decide +kernel, rfl⟩
theorem dL_thing_186 : ml_j cL_thing 186 .goto 228 189 := ⟨42, by decide +kernel, by decide, rfl⟩
theorem dL_thing_189 : ml_d cL_thing 189 (.iload 7) 2 191 := ⟨by decide +kernel, rfl⟩
theorem dL_thing_191 : ml_d cL_thing 191 (.iconst 3) 1 192 := ⟨by decide +kernel, rfl⟩
theorem dL_thing_192 : ml_j cL_thing 192 (.if_icmp .ne) 205 195 := ⟨13, by decide +kernel, by decide, rfl⟩
theorem dL_thing_195 : ml_d cL_thing 195 (.iload 10) 2 197 := ⟨by decide +kernel, rfl⟩
theorem dL_thing_197 : ml_d cL_thing 197 (.bipush 16) 2 199 := ⟨by decide +kernel, rfl⟩
theorem dL_thing_199 : ml_d cL_thing 199 (.idiv) 1 200 := ⟨by decide +kernel, rfl⟩
theorem dL_thing_200 : ml_d cL_thing 200 (.iload_n 3) 1 201 := ⟨by decide +kernel, rfl⟩
theorem dL_thing_201 : ml_d cL_thing 201 (.irem) 1 202 := ⟨by decide +kernel, rfl⟩
theorem dL_thing_202 : ml_j cL_thing 202 .goto 228 205 := ⟨26, by decide +kernel, by decide, rfl⟩
theorem dL_thing_205 : ml_d cL_thing 205 (.iload 7) 2 207 := ⟨by decide +kernel, rfl⟩
theorem dL_thing_207 : ml_d cL_thing 207 (.iconst 4) 1 208 := ⟨by decide +kernel, rfl⟩
theorem dL_thing_208 : ml_j cL_thing 208 (.if_icmp .ne) 227 211 := ⟨19, by decide +kernel, by decide, rfl⟩
theorem dL_thing_211 : ml_d cL_thing 211 (.iconst 1) 1 212 := ⟨by decide +kernel, rfl⟩
theorem dL_thing_212 : ml_d cL_thing 212 (.iload 11) 2 214 := ⟨by decide +kernel, rfl⟩
theorem dL_thing_214 : ml_d cL_thing 214 (.iload 10) 2 216 := ⟨by decide +kernel, rfl⟩
theorem dL_thing_216 : ml_d cL_thing 216 (.iconst 4) 1 217 := ⟨by decide +kernel, rfl⟩
theorem dL_thing_217 : ml_d cL_thing 217 (.idiv) 1 218 := ⟨by decide +kernel, rfl⟩
theorem dL_thing_218 : ml_d cL_thing 218 (.iconst 2) 1 219 := ⟨by decide +kernel, rfl⟩
theorem dL_thing_219 : ml_d cL_thing 219 (.irem) 1 220 := ⟨by decide +kernel, rfl⟩
theorem dL_thing_220 : ml_d cL_thing 220 (.iadd) 1 221 := ⟨by decide +kernel, rfl⟩
theorem dL_thing_221 : ml_d cL_thing 221 (.iconst 3) 1 222 := ⟨by decide +kernel, rfl⟩
theorem dL_thing_222 : ml_d cL_thing 222 (.irem) 1 223 := ⟨by decide +kernel, rfl⟩
theorem dL_thing_223 : ml_d cL_thing 223 (.iadd) 1 224 := ⟨by decide +kernel, rfl⟩
theorem dL_thing_224 : ml_j cL_thing 224 .goto 228 227 := ⟨4, by decide +kernel, by decide, rfl⟩
theorem dL_thing_227 : ml_d cL_thing 227 (.iconst 0) 1 228 := ⟨by decide +kernel, rfl⟩
theorem dL_thing_228 : ml_d cL_thing 228 (.istore 12) 2 230 := ⟨by decide +kernel, rfl⟩
theorem dL_thing_230 : ml_d cL_thing 230 (.aload 5) 2 232 := ⟨by decide +kernel, rfl⟩
theorem dL_thing_232 : ml_d cL_thing 232 (.bipush 8) 2 234 := ⟨by decide +kernel, rfl⟩
theorem dL_thing_234 : ml_d cL_thing 234 (.iload 6) 2 236 := ⟨by decide +kernel, rfl⟩
theorem dL_thing_236 : ml_d cL_thing 236 (.imul) 1 237 := ⟨by decide +kernel, rfl⟩
theorem dL_thing_237 : ml_d cL_thing 237 (.iload 7) 2 239 := ⟨by decide +kernel, rfl⟩
theorem dL_thing_239 : ml_d cL_thing 239 (.iastore) 1 240 := ⟨by decide +kernel, rfl⟩
theorem dL_thing_240 : ml_d cL_thing 240 (.aload 5) 2 242 := ⟨by decide +kernel, rfl⟩
theorem dL_thing_242 : ml_d cL_thing 242 (.bipush 8) 2 244 := ⟨by decide +kernel, rfl⟩
theorem dL_thing_244 : ml_d cL_thing 244 (.iload 6) 2 246 := ⟨by decide +kernel, rfl⟩
theorem dL_thing_246 : ml_d cL_thing 246 (.imul) 1 247 := ⟨by decide +kernel, rfl⟩
theorem dL_thing_247 : ml_d cL_thing 247 (.iconst 1) 1 248 := ⟨by decide +kernel, rfl⟩
theorem dL_thing_248 : ml_d cL_thing 248 (.iadd) 1 249 := ⟨by decide +kernel, rfl⟩
theorem dL_thing_249 : ml_d cL_thing 249 (.iload 8) 2 251 := ⟨by decide +kernel, rfl⟩
theorem dL_thing_251 : ml_d cL_thing 251 (.iastore) 1 252 := ⟨by decide +kernel, rfl⟩
theorem dL_thing_252 : ml_d cL_thing 252 (.aload 5) 2 254 := ⟨by decide +kernel, rfl⟩
theorem dL_thing_254 : ml_d cL_thing 254 (.bipush 8) 2 256 := ⟨by decide +kernel, rfl⟩
theorem dL_thing_256 : ml_d cL_thing 256 (.iload 6) 2 258 := ⟨by decide +kernel, rfl⟩
theorem dL_thing_258 : ml_d cL_thing 258 (.imul) 1 259 := ⟨by decide +kernel, rfl⟩
theorem dL_thing_259 : ml_d cL_thing 259 (.iconst 2) 1 260 := ⟨by decide +kernel, rfl⟩
theorem dL_thing_260 : ml_d cL_thing 260 (.iadd) 1 261 := ⟨by decide +kernel, rfl⟩
theorem dL_thing_261 : ml_d cL_thing 261 (.iload 9) 2 263 := ⟨by decide +kernel, rfl⟩
theorem dL_thing_263 : ml_d cL_thing 263 (.iastore) 1 264 := ⟨by decide +kernel, rfl⟩
theorem dL_thing_264 : ml_d cL_thing 264 (.aload 5) 2 266 := ⟨by decide +kernel, rfl⟩
theorem dL_thing_266 : ml_d cL_thing 266 (.bipush 8) 2 268 := ⟨by decide +kernel, rfl⟩
theorem dL_thing_268 : ml_d cL_thing 268 (.iload 6) 2 270 := ⟨by decide +kernel, rfl⟩
theorem dL_thing_270 : ml_d cL_thing 270 (.imul) 1 271 := ⟨by decide +kernel, rfl⟩
theorem dL_thing_271 : ml_d cL_thing 271 (.iconst 3) 1 272 := ⟨by decide +kernel, rfl⟩
theorem dL_thing_272 : ml_d cL_thing 272 (.iadd) 1 273 := ⟨by decide +kernel, rfl⟩
theorem dL_thing_273 : ml_d cL_thing 273 (.iload 7) 2 275 := ⟨by decide +kernel, rfl⟩
theorem dL_thing_275 : ml_d cL_thing 275 (.iconst 2) 1 276 := ⟨by decide +kernel, rfl⟩
theorem dL_thing_276 : ml_j cL_thing 276 (.if_icmp .eq) 285 279 := ⟨9, by decide +kernel, by decide, rfl⟩
theorem dL_thing_279 : ml_d cL_thing 279 (.iload 7) 2 281 := ⟨by decide +kernel, rfl⟩
theorem dL_thing_281 : ml_d cL_thing 281 (.iconst 4) 1 282 := ⟨by decide +kernel, rfl⟩
theorem dL_thing_282 : ml_j cL_thing 282 (.if_icmp .ne) 296 285 := ⟨14, by decide +kernel, by decide, rfl⟩
theorem dL_thing_285 : ml_d cL_thing 285 (.bipush 10) 2 287 := ⟨by decide +kernel, rfl⟩
theorem dL_thing_287 : ml_d cL_thing 287 (.iload 11) 2 289 := ⟨by decide +kernel, rfl⟩
theorem dL_thing_289 : ml_d cL_thing 289 (.imul) 1 290 := ⟨by decide +kernel, rfl⟩
theorem dL_thing_290 : ml_d cL_thing 290 (.iload 12) 2 292 := ⟨by decide +kernel, rfl⟩
theorem dL_thing_292 : ml_d cL_thing 292 (.iadd) 1 293 := ⟨by decide +kernel, rfl⟩
theorem dL_thing_293 : ml_j cL_thing 293 .goto 298 296 := ⟨5, by decide +kernel, by decide, rfl⟩
theorem dL_thing_296 : ml_d cL_thing 296 (.iload 11) 2 298 := ⟨by decide +kernel, rfl⟩
theorem dL_thing_298 : ml_d cL_thing 298 (.iastore) 1 299 := ⟨by decide +kernel, rfl⟩
theorem dL_thing_299 : ml_d cL_thing 299 (.aload 5) 2 301 := ⟨by decide +kernel, rfl⟩
theorem dL_thing_301 : ml_d cL_thing 301 (.bipush 8) 2 303 := ⟨by decide +kernel, rfl⟩
theorem dL_thing_303 : ml_d cL_thing 303 (.iload 6) 2 305 := ⟨by decide +kernel, rfl⟩
theorem dL_thing_305 : ml_d cL_thing 305 (.imul) 1 306 := ⟨by decide +kernel, rfl⟩
theorem dL_thing_306 : ml_d cL_thing 306 (.iconst 4) 1 307 := ⟨by decide +kernel, rfl⟩
theorem dL_thing_307 : ml_d cL_thing 307 (.iadd) 1 308 := ⟨by decide +kernel, rfl⟩
theorem dL_thing_308 : ml_d cL_thing 308 (.iload 7) 2 310 := ⟨by decide +kernel, rfl⟩
theorem dL_thing_310 : ml_d cL_thing 310 (.iconst 3) 1 311 := ⟨by decide +kernel, rfl⟩
theorem dL_thing_311 : ml_j cL_thing 311 (.if_icmp .ne) 319 314 := ⟨8, by decide +kernel, by decide, rfl⟩
theorem dL_thing_314 : ml_d cL_thing 314 (.iload 12) 2 316 := ⟨by decide +kernel, rfl⟩
theorem dL_thing_316 : ml_j cL_thing 316 .goto 320 319 := ⟨4, by decide +kernel, by decide, rfl⟩
theorem dL_thing_319 : ml_d cL_thing 319 (.iconst 0) 1 320 := ⟨by decide +kernel, rfl⟩
theorem dL_thing_320 : ml_d cL_thing 320 (.iastore) 1 321 := ⟨by decide +kernel, rfl⟩
theorem dL_thing_321 : ml_d cL_thing 321 (.aload 5) 2 323 := ⟨by decide +kernel, rfl⟩
theorem dL_thing_323 : ml_d cL_thing 323 (.bipush 8) 2 325 := ⟨by decide +kernel, rfl⟩
theorem dL_thing_325 : ml_d cL_thing 325 (.iload 6) 2 327 := ⟨by decide +kernel, rfl⟩
theorem dL_thing_327 : ml_d cL_thing 327 (.imul) 1 328 := ⟨by decide +kernel, rfl⟩
theorem dL_thing_328 : ml_d cL_thing 328 (.iconst 5) 1 329 := ⟨by decide +kernel, rfl⟩
theorem dL_thing_329 : ml_d cL_thing 329 (.iadd) 1 330 := ⟨by decide +kernel, rfl⟩
theorem dL_thing_330 : ml_d cL_thing 330 (.iload 4) 2 332 := ⟨by decide +kernel, rfl⟩
theorem dL_thing_332 : ml_j cL_thing 332 (.ifCond .eq) 345 335 := ⟨13, by decide +kernel, by decide, rfl⟩
theorem dL_thing_335 : ml_d cL_thing 335 (.iload 10) 2 337 := ⟨by decide +kernel, rfl⟩
theorem dL_thing_337 : ml_d cL_thing 337 (.bipush 64) 2 339 := ⟨by decide +kernel, rfl⟩
theorem dL_thing_339 : ml_d cL_thing 339 (.idiv) 1 340 := ⟨by decide +kernel, rfl⟩
theorem dL_thing_340 : ml_d cL_thing 340 (.iconst 4) 1 341 := ⟨by decide +kernel, rfl⟩
theorem dL_thing_341 : ml_d cL_thing 341 (.irem) 1 342 := ⟨by decide +kernel, rfl⟩
theorem dL_thing_342 : ml_j cL_thing 342 (.ifCond .ne) 350 345 := ⟨8, by decide +kernel, by decide, rfl⟩
theorem dL_thing_345 : ml_d cL_thing 345 (.bipush (-9)) 2 347 := ⟨by decide +kernel, rfl⟩
theorem dL_thing_347 : ml_j cL_thing 347 .goto 359 350 := ⟨12, by decide +kernel, by decide, rfl⟩
theorem dL_thing_350 : ml_d cL_thing 350 (.iload 10) 2 352 := ⟨by decide +kernel, rfl⟩
theorem dL_thing_352 : ml_d cL_thing 352 (.sipush 256) 3 355 := ⟨by decide +kernel, rfl⟩
theorem dL_thing_355 : ml_d cL_thing 355 (.idiv) 1 356 := ⟨by decide +kernel, rfl⟩
theorem dL_thing_356 : ml_d cL_thing 356 (.iload 4) 2 358 := ⟨by decide +kernel, rfl⟩
theorem dL_thing_358 : ml_d cL_thing 358 (.irem) 1 359 := ⟨by decide +kernel, rfl⟩
theorem dL_thing_359 : ml_d cL_thing 359 (.iastore) 1 360 := ⟨by decide +kernel, rfl⟩
theorem dL_thing_360 : ml_d cL_thing 360 (.aload 5) 2 362 := ⟨by decide +kernel, rfl⟩
theorem dL_thing_362 : ml_d cL_thing 362 (.bipush 8) 2 364 := ⟨by decide +kernel, rfl⟩
theorem dL_thing_364 : ml_d cL_thing 364 (.iload 6) 2 366 := ⟨by decide +kernel, rfl⟩
theorem dL_thing_366 : ml_d cL_thing 366 (.imul) 1 367 := ⟨by decide +kernel, rfl⟩
theorem dL_thing_367 : ml_d cL_thing 367 (.bipush 6) 2 369 := ⟨by decide +kernel, rfl⟩
theorem dL_thing_369 : ml_d cL_thing 369 (.iadd) 1 370 := ⟨by decide +kernel, rfl⟩
theorem dL_thing_370 : ml_d cL_thing 370 (.iload 10) 2 372 := ⟨by decide +kernel, rfl⟩
theorem dL_thing_372 : ml_d cL_thing 372 (.bipush 32) 2 374 := ⟨by decide +kernel, rfl⟩
theorem dL_thing_374 : ml_d cL_thing 374 (.idiv) 1 375 := ⟨by decide +kernel, rfl⟩
theorem dL_thing_375 : ml_d cL_thing 375 (.iconst 3) 1 376 := ⟨by decide +kernel, rfl⟩
theorem dL_thing_376 : ml_d cL_thing 376 (.irem) 1 377 := ⟨by decide +kernel, rfl⟩
theorem dL_thing_377 : ml_j cL_thing 377 (.ifCond .ne) 384 380 := ⟨7, by decide +kernel, by decide, rfl⟩
theorem dL_thing_380 : ml_d cL_thing 380 (.iconst 1) 1 381 := ⟨by decide +kernel, rfl⟩
theorem dL_thing_381 : ml_j cL_thing 381 .goto 385 384 := ⟨4, by decide +kernel, by decide, rfl⟩
theorem dL_thing_384 : ml_d cL_thing 384 (.iconst 0) 1 385 := ⟨by decide +kernel, rfl⟩
theorem dL_thing_385 : ml_d cL_thing 385 (.iastore) 1 386 := ⟨by decide +kernel, rfl⟩
theorem dL_thing_386 : ml_d cL_thing 386 (.aload_n 0) 1 387 := ⟨by decide +kernel, rfl⟩
theorem dL_thing_387 : ml_d cL_thing 387 (.iload 7) 2 389 := ⟨by decide +kernel, rfl⟩
theorem dL_thing_389 : ml_d cL_thing 389 (.iload 8) 2 391 := ⟨by decide +kernel, rfl⟩
theorem dL_thing_391 : ml_d cL_thing 391 (.iload 9) 2 393 := ⟨by decide +kernel, rfl⟩
theorem dL_thing_393 : ml_d cL_thing 393 (.iload 11) 2 395 := ⟨by decide +kernel, rfl⟩
theorem dL_thing_395 : ml_d cL_thing 395 (.iload 12) 2 397 := ⟨by decide +kernel, rfl⟩
theorem dL_thing_397 : ml_d cL_thing 397 (.invokevirtual 37) 3 400 := ⟨by decide +kernel, rfl⟩
theorem dL_thing_400 : ml_d cL_thing 400 (.iload 6) 2 402 := ⟨by decide +kernel, rfl⟩
theorem dL_thing_402 : ml_j cL_thing 402 (.if_icmp .ne) 449 405 := ⟨47, by decide +kernel, by decide, rfl⟩
theorem dL_thing_405 : ml_d cL_thing 405 (.aload_n 0) 1 406 := ⟨by decide +kernel, rfl⟩
theorem dL_thing_406 : ml_d cL_thing 406 (.iload 6) 2 408 := ⟨by decide +kernel, rfl⟩
theorem dL_thing_408 : ml_d cL_thing 408 (.aload 5) 2 410 := ⟨by decide +kernel, rfl⟩
theorem dL_thing_410 : ml_d cL_thing 410 (.bipush 8) 2 412 := ⟨by decide +kernel, rfl⟩
theorem dL_thing_412 : ml_d cL_thing 412 (.iload 6) 2 414 := ⟨by decide +kernel, rfl⟩
theorem dL_thing_414 : ml_d cL_thing 414 (.imul) 1 415 := ⟨by decide +kernel, rfl⟩
theorem dL_thing_415 : ml_d cL_thing 415 (.iconst 5) 1 416 := ⟨by decide +kernel, rfl⟩
theorem dL_thing_416 : ml_d cL_thing 416 (.iadd) 1 417 := ⟨by decide +kernel, rfl⟩
theorem dL_thing_417 : ml_d cL_thing 417 (.iaload) 1 418 := ⟨by decide +kernel, rfl⟩
theorem dL_thing_418 : ml_d cL_thing 418 (.aload 5) 2 420 := ⟨by decide +kernel, rfl⟩
theorem dL_thing_420 : ml_d cL_thing 420 (.bipush 8) 2 422 := ⟨by decide +kernel, rfl⟩
theorem dL_thing_422 : ml_d cL_thing 422 (.iload 6) 2 424 := ⟨by decide +kernel, rfl⟩
theorem dL_thing_424 : ml_d cL_thing 424 (.imul) 1 425 := ⟨by decide +kernel, rfl⟩
theorem dL_thing_425 : ml_d cL_thing 425 (.bipush 6) 2 427 := ⟨by decide +kernel, rfl⟩
theorem dL_thing_427 : ml_d cL_thing 427 (.iadd) 1 428 := ⟨by decide +kernel, rfl⟩
theorem dL_thing_428 : ml_d cL_thing 428 (.iaload) 1 429 := ⟨by decide +kernel, rfl⟩
theorem dL_thing_429 : ml_d cL_thing 429 (.iconst 1) 1 430 := ⟨by decide +kernel, rfl⟩
theorem dL_thing_430 : ml_j cL_thing 430 (.if_icmp .ne) 437 433 := ⟨7, by decide +kernel, by decide, rfl⟩
theorem dL_thing_433 : ml_d cL_thing 433 (.iconst 1) 1 434 := ⟨by decide +kernel, rfl⟩
theorem dL_thing_434 : ml_j cL_thing 434 .goto 438 437 := ⟨4, by decide +kernel, by decide, rfl⟩
theorem dL_thing_437 : ml_d cL_thing 437 (.iconst 0) 1 438 := ⟨by decide +kernel, rfl⟩
theorem dL_thing_438 : ml_d cL_thing 438 (.invokevirtual 41) 3 441 := ⟨by decide +kernel, rfl⟩
theorem dL_thing_441 : ml_d cL_thing 441 (.iconst 1) 1 442 := ⟨by decide +kernel, rfl⟩
theorem dL_thing_442 : ml_j cL_thing 442 (.if_icmp .ne) 449 445 := ⟨7, by decide +kernel, by decide, rfl⟩
theorem dL_thing_445 : ml_d cL_thing 445 (.iconst 1) 1 446 := ⟨by decide +kernel, rfl⟩
theorem dL_thing_446 : ml_j cL_thing 446 .goto 450 449 := ⟨4, by decide +kernel, by decide, rfl⟩
theorem dL_thing_449 : ml_d cL_thing 449 (.iconst 0) 1 450 := ⟨by decide +kernel, rfl⟩
theorem dL_thing_450 : ml_d cL_thing 450 (.ireturn) 1 451 := ⟨by decide +kernel, rfl⟩
def fL_thing_438 (sl : Nat) (sx : Nat → Int32) (t0 : Int32) (t1 : Int32) (t2 : Int32) (t3 : Nat) (m : ml_M) : Option (Int32 × ml_M) :=
    if (ml_K m t3).1 = 10 then
    ml_b2 (fX10_lies t3 t2 t1 t0 m) fun r899 m900 =>
    if r899 = (1 : Int32) then
    some ((1 : Int32), m900)
    else
    some ((0 : Int32), m900)
    else none
theorem vL_thing_438 {E : ml_E} (hL : ml_eL E = 13) {rv : Int32} {rm : ml_M} (hr : ∀ (pc pc' : Nat) (lv : List (Nat × ml_X)), ml_d cL_thing pc .ireturn 1 pc' → (rv = 0 ∨ rv = 1) → ml_V E "LostRoomLaw" cL_thing 6 false rm pc lv [ml_i rv]) : ∀ (t0 : Int32) (t1 : Int32) (t2 : Int32) (t3 : Nat) (m : ml_M), fL_thing_438 (ml_sl (ml_eG E)) (ml_sx (ml_eG E)) t0 t1 t2 t3 m = some (rv, rm) → ml_V E "LostRoomLaw" cL_thing 6 false m 438 [(1, ml_q (ml_sb (ml_eG E)))] [ml_i t0, ml_i t1, ml_i t2, ml_r t3] := by
  intro t0 t1 t2 t3 m h
  unfold fL_thing_438 at h
  exact ml_ck_of h fun hc898 h => ml_b2_of h fun r899 m900 hv897 h => ml_callV dL_thing_438 wm_290 wb_174 hc898 (sX10_lies hv897) rfl (Nat.le_of_ble_eq_true rfl) (Nat.le_of_ble_eq_true rfl) rfl <| ml_iconst dL_thing_441 kc_i1 <| ml_icmp_ne dL_thing_442 h (fun _ h => ml_iconst dL_thing_449 kc_i0 <| ml_rI (mk := ml_i) hr dL_thing_450 (fun e => Or.inl e.symm) h) (fun _ h => ml_iconst dL_thing_445 kc_i1 <| ml_goto dL_thing_446 <| ml_rI (mk := ml_i) hr dL_thing_450 (fun e => Or.inr e.symm) h)
def fL_thing_385 (sl : Nat) (sx : Nat → Int32) (l0 : Nat) (l5 : Nat) (l6 : Int32) (l7 : Int32) (l8 : Int32) (l9 : Int32) (l11 : Int32) (l12 : Int32) (t0 : Int32) (t1 : Int32) (t2 : Nat) (m : ml_M) : Option (Int32 × ml_M) :=
    if ml_in m t2 20 t1 then
    ml_let (ml_sI m t2 t1.toNatClampNeg t0) fun m902 =>
    if (ml_K m902 l0).1 = 10 then
    ml_b2 (fX10_thing l0 l7 l8 l9 l11 l12 m902) fun r906 m907 =>
    if r906 = l6 then
    if ml_in m907 l5 20 (((8 : Int32) * l6) + (5 : Int32)) then
    if ml_in m907 l5 20 (((8 : Int32) * l6) + (6 : Int32)) then
    if (ml_I m907 l5 (((8 : Int32) * l6) + (6 : Int32)).toNatClampNeg) = (1 : Int32) then
    fL_thing_438 sl sx (1 : Int32) (ml_I m907 l5 (((8 : Int32) * l6) + (5 : Int32)).toNatClampNeg) l6 l0 m907
    else
    fL_thing_438 sl sx (0 : Int32) (ml_I m907 l5 (((8 : Int32) * l6) + (5 : Int32)).toNatClampNeg) l6 l0 m907
    else none
    else none
    else
    some ((0 : Int32), m907)
    else none
    else none
theorem vL_thing_385 {E : ml_E} (hL : ml_eL E = 13) {rv : Int32} {rm : ml_M} (hr : ∀ (pc pc' : Nat) (lv : List (Nat × ml_X)), ml_d cL_thing pc .ireturn 1 pc' → (rv = 0 ∨ rv = 1) → ml_V E "LostRoomLaw" cL_thing 6 false rm pc lv [ml_i rv]) : ∀ (l0 : Nat) (l5 : Nat) (l6 : Int32) (l7 : Int32) (l8 : Int32) (l9 : Int32) (l11 : Int32) (l12 : Int32) (t0 : Int32) (t1 : Int32) (t2 : Nat) (m : ml_M), fL_thing_385 (ml_sl (ml_eG E)) (ml_sx (ml_eG E)) l0 l5 l6 l7 l8 l9 l11 l12 t0 t1 t2 m = some (rv, rm) → ml_V E "LostRoomLaw" cL_thing 6 false m 385 [(0, ml_r l0), (1, ml_q (ml_sb (ml_eG E))), (5, ml_r l5), (6, ml_i l6), (7, ml_i l7), (8, ml_i l8), (9, ml_i l9), (11, ml_i l11), (12, ml_i l12)] [ml_i t0, ml_i t1, ml_r t2] := by
  intro l0 l5 l6 l7 l8 l9 l11 l12 t0 t1 t2 m h
  unfold fL_thing_385 at h
  exact ml_ck_of h fun hi901 h => ml_iast dL_thing_385 hi901 <| ml_lt (m := m) rfl h fun m902 em903 h => ml_aload_n dL_thing_386 0 rfl <| ml_iload dL_thing_387 4 rfl <| ml_iload dL_thing_389 5 rfl <| ml_iload dL_thing_391 6 rfl <| ml_iload dL_thing_393 7 rfl <| ml_iload dL_thing_395 8 rfl <| ml_ck_of h fun hc905 h => ml_b2_of h fun r906 m907 hv904 h => ml_callV dL_thing_397 wm_294 wb_175 hc905 (sX10_thing hv904) rfl (Nat.le_of_ble_eq_true rfl) (Nat.le_of_ble_eq_true rfl) rfl <| ml_iload dL_thing_400 3 rfl <| ml_icmp_ne dL_thing_402 h (fun _ h => ml_iconst dL_thing_449 kc_i0 <| ml_rI (mk := ml_i) hr dL_thing_450 (fun e => Or.inl e.symm) h) (fun _ h => ml_aload_n dL_thing_405 0 rfl <| ml_iload dL_thing_406 3 rfl <| ml_aload dL_thing_408 2 rfl <| ml_bipush dL_thing_410 kc_b8 <| ml_iload dL_thing_412 3 rfl <| ml_imul dL_thing_414 <| ml_iconst dL_thing_415 kc_i5 <| ml_iadd dL_thing_416 <| ml_ck_of h fun hi908 h => ml_iald dL_thing_417 hi908 <| ml_aload dL_thing_418 2 rfl <| ml_bipush dL_thing_420 kc_b8 <| ml_iload dL_thing_422 3 rfl <| ml_imul dL_thing_424 <| ml_bipush dL_thing_425 kc_b6 <| ml_iadd dL_thing_427 <| ml_ck_of h fun hi909 h => ml_iald dL_thing_428 hi909 <| ml_iconst dL_thing_429 kc_i1 <| ml_icmp_ne dL_thing_430 h (fun _ h => ml_iconst dL_thing_437 kc_i0 <| ml_V.sub [1] rfl (vL_thing_438 hL hr  _ _ _ _ _ h)) (fun _ h => ml_iconst dL_thing_433 kc_i1 <| ml_goto dL_thing_434 <| ml_V.sub [1] rfl (vL_thing_438 hL hr  _ _ _ _ _ h)))
def fL_thing_359 (sl : Nat) (sx : Nat → Int32) (l0 : Nat) (l5 : Nat) (l6 : Int32) (l7 : Int32) (l8 : Int32) (l9 : Int32) (l10 : Int32) (l11 : Int32) (l12 : Int32) (t0 : Int32) (t1 : Int32) (t2 : Nat) (m : ml_M) : Option (Int32 × ml_M) :=
    if ml_in m t2 20 t1 then
    ml_let (ml_sI m t2 t1.toNatClampNeg t0) fun m911 =>
    if ((l10 / (32 : Int32)) - (l10 / (32 : Int32)) / (3 : Int32) * (3 : Int32)) = 0 then
    fL_thing_385 sl sx l0 l5 l6 l7 l8 l9 l11 l12 (1 : Int32) (((8 : Int32) * l6) + (6 : Int32)) l5 m911
    else
    fL_thing_385 sl sx l0 l5 l6 l7 l8 l9 l11 l12 (0 : Int32) (((8 : Int32) * l6) + (6 : Int32)) l5 m911
    else none
theorem vL_thing_359 {E : ml_E} (hL : ml_eL E = 13) {rv : Int32} {rm : ml_M} (hr : ∀ (pc pc' : Nat) (lv : List (Nat × ml_X)), ml_d cL_thing pc .ireturn 1 pc' → (rv = 0 ∨ rv = 1) → ml_V E "LostRoomLaw" cL_thing 6 false rm pc lv [ml_i rv]) : ∀ (l0 : Nat) (l5 : Nat) (l6 : Int32) (l7 : Int32) (l8 : Int32) (l9 : Int32) (l10 : Int32) (l11 : Int32) (l12 : Int32) (t0 : Int32) (t1 : Int32) (t2 : Nat) (m : ml_M), fL_thing_359 (ml_sl (ml_eG E)) (ml_sx (ml_eG E)) l0 l5 l6 l7 l8 l9 l10 l11 l12 t0 t1 t2 m = some (rv, rm) → ml_V E "LostRoomLaw" cL_thing 6 false m 359 [(0, ml_r l0), (1, ml_q (ml_sb (ml_eG E))), (5, ml_r l5), (6, ml_i l6), (7, ml_i l7), (8, ml_i l8), (9, ml_i l9), (10, ml_i l10), (11, ml_i l11), (12, ml_i l12)] [ml_i t0, ml_i t1, ml_r t2] := by
  intro l0 l5 l6 l7 l8 l9 l10 l11 l12 t0 t1 t2 m h
  unfold fL_thing_359 at h
  exact ml_ck_of h fun hi910 h => ml_iast dL_thing_359 hi910 <| ml_lt (m := m) rfl h fun m911 em912 h => ml_aload dL_thing_360 2 rfl <| ml_bipush dL_thing_362 kc_b8 <| ml_iload dL_thing_364 3 rfl <| ml_imul dL_thing_366 <| ml_bipush dL_thing_367 kc_b6 <| ml_iadd dL_thing_369 <| ml_iload dL_thing_370 7 rfl <| ml_bipush dL_thing_372 kc_b32 <| ml_idiv dL_thing_374 (by decide) <| ml_iconst dL_thing_375 kc_i3 <| ml_irem dL_thing_376 (by decide) <| ml_if_ne dL_thing_377 h (fun _ h => ml_iconst dL_thing_384 kc_i0 <| ml_V.sub [0, 1, 2, 3, 4, 5, 6, 8, 9] rfl (vL_thing_385 hL hr  _ _ _ _ _ _ _ _ _ _ _ _ h)) (fun _ h => ml_iconst dL_thing_380 kc_i1 <| ml_goto dL_thing_381 <| ml_V.sub [0, 1, 2, 3, 4, 5, 6, 8, 9] rfl (vL_thing_385 hL hr  _ _ _ _ _ _ _ _ _ _ _ _ h))
def fL_thing_345 (sl : Nat) (sx : Nat → Int32) (l0 : Nat) (l5 : Nat) (l6 : Int32) (l7 : Int32) (l8 : Int32) (l9 : Int32) (l10 : Int32) (l11 : Int32) (l12 : Int32) (t0 : Int32) (t1 : Nat) (m : ml_M) : Option (Int32 × ml_M) :=
    fL_thing_359 sl sx l0 l5 l6 l7 l8 l9 l10 l11 l12 (-9 : Int32) t0 t1 m
theorem vL_thing_345 {E : ml_E} (hL : ml_eL E = 13) {rv : Int32} {rm : ml_M} (hr : ∀ (pc pc' : Nat) (lv : List (Nat × ml_X)), ml_d cL_thing pc .ireturn 1 pc' → (rv = 0 ∨ rv = 1) → ml_V E "LostRoomLaw" cL_thing 6 false rm pc lv [ml_i rv]) : ∀ (l0 : Nat) (l5 : Nat) (l6 : Int32) (l7 : Int32) (l8 : Int32) (l9 : Int32) (l10 : Int32) (l11 : Int32) (l12 : Int32) (t0 : Int32) (t1 : Nat) (m : ml_M), fL_thing_345 (ml_sl (ml_eG E)) (ml_sx (ml_eG E)) l0 l5 l6 l7 l8 l9 l10 l11 l12 t0 t1 m = some (rv, rm) → ml_V E "LostRoomLaw" cL_thing 6 false m 345 [(0, ml_r l0), (1, ml_q (ml_sb (ml_eG E))), (5, ml_r l5), (6, ml_i l6), (7, ml_i l7), (8, ml_i l8), (9, ml_i l9), (10, ml_i l10), (11, ml_i l11), (12, ml_i l12)] [ml_i t0, ml_r t1] := by
  intro l0 l5 l6 l7 l8 l9 l10 l11 l12 t0 t1 m h
  unfold fL_thing_345 at h
  exact ml_bipush dL_thing_345 kc_bm9 <| ml_goto dL_thing_347 <| ml_V.sub [0, 1, 2, 3, 4, 5, 6, 7, 8, 9] rfl (vL_thing_359 hL hr  _ _ _ _ _ _ _ _ _ _ _ _ _ h)
def fL_thing_320 (sl : Nat) (sx : Nat → Int32) (l0 : Nat) (l4 : Int32) (l5 : Nat) (l6 : Int32) (l7 : Int32) (l8 : Int32) (l9 : Int32) (l10 : Int32) (l11 : Int32) (l12 : Int32) (t0 : Int32) (t1 : Int32) (t2 : Nat) (m : ml_M) : Option (Int32 × ml_M) :=
    if ml_in m t2 20 t1 then
    ml_let (ml_sI m t2 t1.toNatClampNeg t0) fun m914 =>
    if l4 = 0 then
    fL_thing_345 sl sx l0 l5 l6 l7 l8 l9 l10 l11 l12 (((8 : Int32) * l6) + (5 : Int32)) l5 m914
    else
    if ((l10 / (64 : Int32)) - (l10 / (64 : Int32)) / (4 : Int32) * (4 : Int32)) = 0 then
    fL_thing_345 sl sx l0 l5 l6 l7 l8 l9 l10 l11 l12 (((8 : Int32) * l6) + (5 : Int32)) l5 m914
    else
    if ¬ l4 = 0 then
    fL_thing_359 sl sx l0 l5 l6 l7 l8 l9 l10 l11 l12 ((l10 / (256 : Int32)) - (l10 / (256 : Int32)) / l4 * l4) (((8 : Int32) * l6) + (5 : Int32)) l5 m914
    else none
    else none
theorem vL_thing_320 {E : ml_E} (hL : ml_eL E = 13) {rv : Int32} {rm : ml_M} (hr : ∀ (pc pc' : Nat) (lv : List (Nat × ml_X)), ml_d cL_thing pc .ireturn 1 pc' → (rv = 0 ∨ rv = 1) → ml_V E "LostRoomLaw" cL_thing 6 false rm pc lv [ml_i rv]) : ∀ (l0 : Nat) (l4 : Int32) (l5 : Nat) (l6 : Int32) (l7 : Int32) (l8 : Int32) (l9 : Int32) (l10 : Int32) (l11 : Int32) (l12 : Int32) (t0 : Int32) (t1 : Int32) (t2 : Nat) (m : ml_M), fL_thing_320 (ml_sl (ml_eG E)) (ml_sx (ml_eG E)) l0 l4 l5 l6 l7 l8 l9 l10 l11 l12 t0 t1 t2 m = some (rv, rm) → ml_V E "LostRoomLaw" cL_thing 6 false m 320 [(0, ml_r l0), (1, ml_q (ml_sb (ml_eG E))), (4, ml_i l4), (5, ml_r l5), (6, ml_i l6), (7, ml_i l7), (8, ml_i l8), (9, ml_i l9), (10, ml_i l10), (11, ml_i l11), (12, ml_i l12)] [ml_i t0, ml_i t1, ml_r t2] := by
  intro l0 l4 l5 l6 l7 l8 l9 l10 l11 l12 t0 t1 t2 m h
  unfold fL_thing_320 at h
  exact ml_ck_of h fun hi913 h => ml_iast dL_thing_320 hi913 <| ml_lt (m := m) rfl h fun m914 em915 h => ml_aload dL_thing_321 3 rfl <| ml_bipush dL_thing_323 kc_b8 <| ml_iload dL_thing_325 4 rfl <| ml_imul dL_thing_327 <| ml_iconst dL_thing_328 kc_i5 <| ml_iadd dL_thing_329 <| ml_iload dL_thing_330 2 rfl <| ml_if_eq dL_thing_332 h (fun _ h => ml_V.sub [0, 1, 3, 4, 5, 6, 7, 8, 9, 10] rfl (vL_thing_345 hL hr  _ _ _ _ _ _ _ _ _ _ _ _ h)) (fun _ h => ml_iload dL_thing_335 8 rfl <| ml_bipush dL_thing_337 kc_b64 <| ml_idiv dL_thing_339 (by decide) <| ml_iconst dL_thing_340 kc_i4 <| ml_irem dL_thing_341 (by decide) <| ml_if_ne dL_thing_342 h (fun _ h => ml_iload dL_thing_350 8 rfl <| ml_sipush dL_thing_352 kc_s256 <| ml_idiv dL_thing_355 (by decide) <| ml_iload dL_thing_356 2 rfl <| ml_ck_of h fun hz916 h => ml_irem dL_thing_358 hz916 <| ml_V.sub [0, 1, 3, 4, 5, 6, 7, 8, 9, 10] rfl (vL_thing_359 hL hr  _ _ _ _ _ _ _ _ _ _ _ _ _ h)) (fun _ h => ml_V.sub [0, 1, 3, 4, 5, 6, 7, 8, 9, 10] rfl (vL_thing_345 hL hr  _ _ _ _ _ _ _ _ _ _ _ _ h)))
def fL_thing_298 (sl : Nat) (sx : Nat → Int32) (l0 : Nat) (l4 : Int32) (l5 : Nat) (l6 : Int32) (l7 : Int32) (l8 : Int32) (l9 : Int32) (l10 : Int32) (l11 : Int32) (l12 : Int32) (t0 : Int32) (t1 : Int32) (t2 : Nat) (m : ml_M) : Option (Int32 × ml_M) :=
    if ml_in m t2 20 t1 then
    ml_let (ml_sI m t2 t1.toNatClampNeg t0) fun m918 =>
    if l7 = (3 : Int32) then
    fL_thing_320 sl sx l0 l4 l5 l6 l7 l8 l9 l10 l11 l12 l12 (((8 : Int32) * l6) + (4 : Int32)) l5 m918
    else
    fL_thing_320 sl sx l0 l4 l5 l6 l7 l8 l9 l10 l11 l12 (0 : Int32) (((8 : Int32) * l6) + (4 : Int32)) l5 m918
    else none
theorem vL_thing_298 {E : ml_E} (hL : ml_eL E = 13) {rv : Int32} {rm : ml_M} (hr : ∀ (pc pc' : Nat) (lv : List (Nat × ml_X)), ml_d cL_thing pc .ireturn 1 pc' → (rv = 0 ∨ rv = 1) → ml_V E "LostRoomLaw" cL_thing 6 false rm pc lv [ml_i rv]) : ∀ (l0 : Nat) (l4 : Int32) (l5 : Nat) (l6 : Int32) (l7 : Int32) (l8 : Int32) (l9 : Int32) (l10 : Int32) (l11 : Int32) (l12 : Int32) (t0 : Int32) (t1 : Int32) (t2 : Nat) (m : ml_M), fL_thing_298 (ml_sl (ml_eG E)) (ml_sx (ml_eG E)) l0 l4 l5 l6 l7 l8 l9 l10 l11 l12 t0 t1 t2 m = some (rv, rm) → ml_V E "LostRoomLaw" cL_thing 6 false m 298 [(0, ml_r l0), (1, ml_q (ml_sb (ml_eG E))), (4, ml_i l4), (5, ml_r l5), (6, ml_i l6), (7, ml_i l7), (8, ml_i l8), (9, ml_i l9), (10, ml_i l10), (11, ml_i l11), (12, ml_i l12)] [ml_i t0, ml_i t1, ml_r t2] := by
  intro l0 l4 l5 l6 l7 l8 l9 l10 l11 l12 t0 t1 t2 m h
  unfold fL_thing_298 at h
  exact ml_ck_of h fun hi917 h => ml_iast dL_thing_298 hi917 <| ml_lt (m := m) rfl h fun m918 em919 h => ml_aload dL_thing_299 3 rfl <| ml_bipush dL_thing_301 kc_b8 <| ml_iload dL_thing_303 4 rfl <| ml_imul dL_thing_305 <| ml_iconst dL_thing_306 kc_i4 <| ml_iadd dL_thing_307 <| ml_iload dL_thing_308 5 rfl <| ml_iconst dL_thing_310 kc_i3 <| ml_icmp_ne dL_thing_311 h (fun _ h => ml_iconst dL_thing_319 kc_i0 <| ml_V.sub [0, 1, 2, 3, 4, 5, 6, 7, 8, 9, 10] rfl (vL_thing_320 hL hr  _ _ _ _ _ _ _ _ _ _ _ _ _ _ h)) (fun _ h => ml_iload dL_thing_314 10 rfl <| ml_goto dL_thing_316 <| ml_V.sub [0, 1, 2, 3, 4, 5, 6, 7, 8, 9, 10] rfl (vL_thing_320 hL hr  _ _ _ _ _ _ _ _ _ _ _ _ _ _ h))
def fL_thing_285 (sl : Nat) (sx : Nat → Int32) (l0 : Nat) (l4 : Int32) (l5 : Nat) (l6 : Int32) (l7 : Int32) (l8 : Int32) (l9 : Int32) (l10 : Int32) (l11 : Int32) (l12 : Int32) (t0 : Int32) (t1 : Nat) (m : ml_M) : Option (Int32 × ml_M) :=
    fL_thing_298 sl sx l0 l4 l5 l6 l7 l8 l9 l10 l11 l12 (((10 : Int32) * l11) + l12) t0 t1 m
theorem vL_thing_285 {E : ml_E} (hL : ml_eL E = 13) {rv : Int32} {rm : ml_M} (hr : ∀ (pc pc' : Nat) (lv : List (Nat × ml_X)), ml_d cL_thing pc .ireturn 1 pc' → (rv = 0 ∨ rv = 1) → ml_V E "LostRoomLaw" cL_thing 6 false rm pc lv [ml_i rv]) : ∀ (l0 : Nat) (l4 : Int32) (l5 : Nat) (l6 : Int32) (l7 : Int32) (l8 : Int32) (l9 : Int32) (l10 : Int32) (l11 : Int32) (l12 : Int32) (t0 : Int32) (t1 : Nat) (m : ml_M), fL_thing_285 (ml_sl (ml_eG E)) (ml_sx (ml_eG E)) l0 l4 l5 l6 l7 l8 l9 l10 l11 l12 t0 t1 m = some (rv, rm) → ml_V E "LostRoomLaw" cL_thing 6 false m 285 [(0, ml_r l0), (1, ml_q (ml_sb (ml_eG E))), (4, ml_i l4), (5, ml_r l5), (6, ml_i l6), (7, ml_i l7), (8, ml_i l8), (9, ml_i l9), (10, ml_i l10), (11, ml_i l11), (12, ml_i l12)] [ml_i t0, ml_r t1] := by
  intro l0 l4 l5 l6 l7 l8 l9 l10 l11 l12 t0 t1 m h
  unfold fL_thing_285 at h
  exact ml_bipush dL_thing_285 kc_b10 <| ml_iload dL_thing_287 9 rfl <| ml_imul dL_thing_289 <| ml_iload dL_thing_290 10 rfl <| ml_iadd dL_thing_292 <| ml_goto dL_thing_293 <| ml_V.sub [0, 1, 2, 3, 4, 5, 6, 7, 8, 9, 10] rfl (vL_thing_298 hL hr  _ _ _ _ _ _ _ _ _ _ _ _ _ _ h)
def fL_thing_228 (sl : Nat) (sx : Nat → Int32) (l0 : Nat) (l4 : Int32) (l5 : Nat) (l6 : Int32) (l7 : Int32) (l8 : Int32) (l9 : Int32) (l10 : Int32) (l11 : Int32) (t0 : Int32) (m : ml_M) : Option (Int32 × ml_M) :=
    if ml_in m l5 20 ((8 : Int32) * l6) then
    ml_let (ml_sI m l5 ((8 : Int32) * l6).toNatClampNeg l7) fun m921 =>
    if ml_in m921 l5 20 (((8 : Int32) * l6) + (1 : Int32)) then
    ml_let (ml_sI m921 l5 (((8 : Int32) * l6) + (1 : Int32)).toNatClampNeg l8) fun m924 =>
    if ml_in m924 l5 20 (((8 : Int32) * l6) + (2 : Int32)) then
    ml_let (ml_sI m924 l5 (((8 : Int32) * l6) + (2 : Int32)).toNatClampNeg l9) fun m927 =>
    if l7 = (2 : Int32) then
    fL_thing_285 sl sx l0 l4 l5 l6 l7 l8 l9 l10 l11 t0 (((8 : Int32) * l6) + (3 : Int32)) l5 m927
    else
    if l7 = (4 : Int32) then
    fL_thing_285 sl sx l0 l4 l5 l6 l7 l8 l9 l10 l11 t0 (((8 : Int32) * l6) + (3 : Int32)) l5 m927
    else
    fL_thing_298 sl sx l0 l4 l5 l6 l7 l8 l9 l10 l11 t0 l11 (((8 : Int32) * l6) + (3 : Int32)) l5 m927
    else none
    else none
    else none
theorem vL_thing_228 {E : ml_E} (hL : ml_eL E = 13) {rv : Int32} {rm : ml_M} (hr : ∀ (pc pc' : Nat) (lv : List (Nat × ml_X)), ml_d cL_thing pc .ireturn 1 pc' → (rv = 0 ∨ rv = 1) → ml_V E "LostRoomLaw" cL_thing 6 false rm pc lv [ml_i rv]) : ∀ (l0 : Nat) (l4 : Int32) (l5 : Nat) (l6 : Int32) (l7 : Int32) (l8 : Int32) (l9 : Int32) (l10 : Int32) (l11 : Int32) (t0 : Int32) (m : ml_M), fL_thing_228 (ml_sl (ml_eG E)) (ml_sx (ml_eG E)) l0 l4 l5 l6 l7 l8 l9 l10 l11 t0 m = some (rv, rm) → ml_V E "LostRoomLaw" cL_thing 6 false m 228 [(0, ml_r l0), (1, ml_q (ml_sb (ml_eG E))), (4, ml_i l4), (5, ml_r l5), (6, ml_i l6), (7, ml_i l7), (8, ml_i l8), (9, ml_i l9), (10, ml_i l10), (11, ml_i l11)] [ml_i t0] := by
  intro l0 l4 l5 l6 l7 l8 l9 l10 l11 t0 m h
  unfold fL_thing_228 at h
  exact ml_istore (lv' := [(12, ml_i t0), (0, ml_r l0), (1, ml_q (ml_sb (ml_eG E))), (4, ml_i l4), (5, ml_r l5), (6, ml_i l6), (7, ml_i l7), (8, ml_i l8), (9, ml_i l9), (10, ml_i l10), (11, ml_i l11)]) dL_thing_228 (ml_hn hL rfl) rfl <| ml_aload dL_thing_230 4 rfl <| ml_bipush dL_thing_232 kc_b8 <| ml_iload dL_thing_234 5 rfl <| ml_imul dL_thing_236 <| ml_iload dL_thing_237 6 rfl <| ml_ck_of h fun hi920 h => ml_iast dL_thing_239 hi920 <| ml_lt (m := m) rfl h fun m921 em922 h => ml_aload dL_thing_240 4 rfl <| ml_bipush dL_thing_242 kc_b8 <| ml_iload dL_thing_244 5 rfl <| ml_imul dL_thing_246 <| ml_iconst dL_thing_247 kc_i1 <| ml_iadd dL_thing_248 <| ml_iload dL_thing_249 7 rfl <| ml_ck_of h fun hi923 h => ml_iast dL_thing_251 hi923 <| ml_lt (m := m921) rfl h fun m924 em925 h => ml_aload dL_thing_252 4 rfl <| ml_bipush dL_thing_254 kc_b8 <| ml_iload dL_thing_256 5 rfl <| ml_imul dL_thing_258 <| ml_iconst dL_thing_259 kc_i2 <| ml_iadd dL_thing_260 <| ml_iload dL_thing_261 8 rfl <| ml_ck_of h fun hi926 h => ml_iast dL_thing_263 hi926 <| ml_lt (m := m924) rfl h fun m927 em928 h => ml_aload dL_thing_264 4 rfl <| ml_bipush dL_thing_266 kc_b8 <| ml_iload dL_thing_268 5 rfl <| ml_imul dL_thing_270 <| ml_iconst dL_thing_271 kc_i3 <| ml_iadd dL_thing_272 <| ml_iload dL_thing_273 6 rfl <| ml_iconst dL_thing_275 kc_i2 <| ml_icmp_eq dL_thing_276 h (fun _ h => ml_V.sub [1, 2, 3, 4, 5, 6, 7, 8, 9, 10, 0] rfl (vL_thing_285 hL hr  _ _ _ _ _ _ _ _ _ _ _ _ _ h)) (fun _ h => ml_iload dL_thing_279 6 rfl <| ml_iconst dL_thing_281 kc_i4 <| ml_icmp_ne dL_thing_282 h (fun _ h => ml_iload dL_thing_296 10 rfl <| ml_V.sub [1, 2, 3, 4, 5, 6, 7, 8, 9, 10, 0] rfl (vL_thing_298 hL hr  _ _ _ _ _ _ _ _ _ _ _ _ _ _ h)) (fun _ h => ml_V.sub [1, 2, 3, 4, 5, 6, 7, 8, 9, 10, 0] rfl (vL_thing_285 hL hr  _ _ _ _ _ _ _ _ _ _ _ _ _ h)))
def fL_thing_170 (sl : Nat) (sx : Nat → Int32) (l0 : Nat) (l3 : Int32) (l4 : Int32) (l5 : Nat) (l6 : Int32) (l7 : Int32) (l8 : Int32) (l9 : Int32) (l10 : Int32) (t0 : Int32) (m : ml_M) : Option (Int32 × ml_M) :=
    if l7 = (2 : Int32) then
    fL_thing_228 sl sx l0 l4 l5 l6 l7 l8 l9 l10 t0 ((1 : Int32) + ((l10 / (4 : Int32)) - (l10 / (4 : Int32)) / (3 : Int32) * (3 : Int32))) m
    else
    if l7 = (3 : Int32) then
    if ¬ l3 = 0 then
    fL_thing_228 sl sx l0 l4 l5 l6 l7 l8 l9 l10 t0 ((l10 / (16 : Int32)) - (l10 / (16 : Int32)) / l3 * l3) m
    else none
    else
    if l7 = (4 : Int32) then
    fL_thing_228 sl sx l0 l4 l5 l6 l7 l8 l9 l10 t0 ((1 : Int32) + ((t0 + ((l10 / (4 : Int32)) - (l10 / (4 : Int32)) / (2 : Int32) * (2 : Int32))) - (t0 + ((l10 / (4 : Int32)) - (l10 / (4 : Int32)) / (2 : Int32) * (2 : Int32))) / (3 : Int32) * (3 : Int32))) m
    else
    fL_thing_228 sl sx l0 l4 l5 l6 l7 l8 l9 l10 t0 (0 : Int32) m
theorem vL_thing_170 {E : ml_E} (hL : ml_eL E = 13) {rv : Int32} {rm : ml_M} (hr : ∀ (pc pc' : Nat) (lv : List (Nat × ml_X)), ml_d cL_thing pc .ireturn 1 pc' → (rv = 0 ∨ rv = 1) → ml_V E "LostRoomLaw" cL_thing 6 false rm pc lv [ml_i rv]) : ∀ (l0 : Nat) (l3 : Int32) (l4 : Int32) (l5 : Nat) (l6 : Int32) (l7 : Int32) (l8 : Int32) (l9 : Int32) (l10 : Int32) (t0 : Int32) (m : ml_M), fL_thing_170 (ml_sl (ml_eG E)) (ml_sx (ml_eG E)) l0 l3 l4 l5 l6 l7 l8 l9 l10 t0 m = some (rv, rm) → ml_V E "LostRoomLaw" cL_thing 6 false m 170 [(0, ml_r l0), (1, ml_q (ml_sb (ml_eG E))), (3, ml_i l3), (4, ml_i l4), (5, ml_r l5), (6, ml_i l6), (7, ml_i l7), (8, ml_i l8), (9, ml_i l9), (10, ml_i l10)] [ml_i t0] := by
  intro l0 l3 l4 l5 l6 l7 l8 l9 l10 t0 m h
  unfold fL_thing_170 at h
  exact ml_istore (lv' := [(11, ml_i t0), (0, ml_r l0), (1, ml_q (ml_sb (ml_eG E))), (3, ml_i l3), (4, ml_i l4), (5, ml_r l5), (6, ml_i l6), (7, ml_i l7), (8, ml_i l8), (9, ml_i l9), (10, ml_i l10)]) dL_thing_170 (ml_hn hL rfl) rfl <| ml_iload dL_thing_172 7 rfl <| ml_iconst dL_thing_174 kc_i2 <| ml_icmp_ne dL_thing_175 h (fun _ h => ml_iload dL_thing_189 7 rfl <| ml_iconst dL_thing_191 kc_i3 <| ml_icmp_ne dL_thing_192 h (fun _ h => ml_iload dL_thing_205 7 rfl <| ml_iconst dL_thing_207 kc_i4 <| ml_icmp_ne dL_thing_208 h (fun _ h => ml_iconst dL_thing_227 kc_i0 <| ml_V.sub [1, 2, 4, 5, 6, 7, 8, 9, 10, 0] rfl (vL_thing_228 hL hr  _ _ _ _ _ _ _ _ _ _ _ h)) (fun _ h => ml_iconst dL_thing_211 kc_i1 <| ml_iload dL_thing_212 0 rfl <| ml_iload dL_thing_214 10 rfl <| ml_iconst dL_thing_216 kc_i4 <| ml_idiv dL_thing_217 (by decide) <| ml_iconst dL_thing_218 kc_i2 <| ml_irem dL_thing_219 (by decide) <| ml_iadd dL_thing_220 <| ml_iconst dL_thing_221 kc_i3 <| ml_irem dL_thing_222 (by decide) <| ml_iadd dL_thing_223 <| ml_goto dL_thing_224 <| ml_V.sub [1, 2, 4, 5, 6, 7, 8, 9, 10, 0] rfl (vL_thing_228 hL hr  _ _ _ _ _ _ _ _ _ _ _ h))) (fun _ h => ml_iload dL_thing_195 10 rfl <| ml_bipush dL_thing_197 kc_b16 <| ml_idiv dL_thing_199 (by decide) <| ml_iload_n dL_thing_200 3 rfl <| ml_ck_of h fun hz929 h => ml_irem dL_thing_201 hz929 <| ml_goto dL_thing_202 <| ml_V.sub [1, 2, 4, 5, 6, 7, 8, 9, 10, 0] rfl (vL_thing_228 hL hr  _ _ _ _ _ _ _ _ _ _ _ h))) (fun _ h => ml_iconst dL_thing_178 kc_i1 <| ml_iload dL_thing_179 10 rfl <| ml_iconst dL_thing_181 kc_i4 <| ml_idiv dL_thing_182 (by decide) <| ml_iconst dL_thing_183 kc_i3 <| ml_irem dL_thing_184 (by decide) <| ml_iadd dL_thing_185 <| ml_goto dL_thing_186 <| ml_V.sub [1, 2, 4, 5, 6, 7, 8, 9, 10, 0] rfl (vL_thing_228 hL hr  _ _ _ _ _ _ _ _ _ _ _ h))
def fL_thing_24 (sl : Nat) (sx : Nat → Int32) (l0 : Nat) (l2 : Int32) (l3 : Int32) (l4 : Int32) (l5 : Nat) (l6 : Int32) (l7 : Int32) (m : ml_M) : Option (Int32 × ml_M) :=
    ml_b1 (fL_cell sl sx (l2 + (1 : Int32)) m) fun r931 =>
    ml_let (r931 - r931 / (40 : Int32) * (40 : Int32)) fun x932 =>
    ml_b1 (fL_cell sl sx (l2 + (2 : Int32)) m) fun r934 =>
    ml_let (x932 + (r934 - r934 / (15 : Int32) * (15 : Int32))) fun x935 =>
    ml_b1 (fL_cell sl sx (l2 + (3 : Int32)) m) fun r937 =>
    if l7 = (1 : Int32) then
    fL_thing_170 sl sx l0 l3 l4 l5 l6 l7 x932 x935 r937 ((1 : Int32) + (r937 - r937 / (6 : Int32) * (6 : Int32))) m
    else
    if l7 = (2 : Int32) then
    fL_thing_170 sl sx l0 l3 l4 l5 l6 l7 x932 x935 r937 (r937 - r937 / (4 : Int32) * (4 : Int32)) m
    else
    if l7 = (3 : Int32) then
    fL_thing_170 sl sx l0 l3 l4 l5 l6 l7 x932 x935 r937 ((((10 : Int32) * (r937 - r937 / (4 : Int32) * (4 : Int32))) + (1 : Int32)) + ((r937 / (4 : Int32)) - (r937 / (4 : Int32)) / (3 : Int32) * (3 : Int32))) m
    else
    if l7 = (4 : Int32) then
    fL_thing_170 sl sx l0 l3 l4 l5 l6 l7 x932 x935 r937 ((1 : Int32) + (r937 - r937 / (3 : Int32) * (3 : Int32))) m
    else
    fL_thing_170 sl sx l0 l3 l4 l5 l6 l7 x932 x935 r937 (((((1111 : Int32) + (r937 - r937 / (5 : Int32) * (5 : Int32))) + ((10 : Int32) * ((r937 / (5 : Int32)) - (r937 / (5 : Int32)) / (5 : Int32) * (5 : Int32)))) + ((100 : Int32) * ((r937 / (25 : Int32)) - (r937 / (25 : Int32)) / (2 : Int32) * (2 : Int32)))) + ((1000 : Int32) * ((r937 / (50 : Int32)) - (r937 / (50 : Int32)) / (2 : Int32) * (2 : Int32)))) m
theorem vL_thing_24 {E : ml_E} (hL : ml_eL E = 13) {rv : Int32} {rm : ml_M} (hr : ∀ (pc pc' : Nat) (lv : List (Nat × ml_X)), ml_d cL_thing pc .ireturn 1 pc' → (rv = 0 ∨ rv = 1) → ml_V E "LostRoomLaw" cL_thing 6 false rm pc lv [ml_i rv]) : ∀ (l0 : Nat) (l2 : Int32) (l3 : Int32) (l4 : Int32) (l5 : Nat) (l6 : Int32) (l7 : Int32) (m : ml_M), fL_thing_24 (ml_sl (ml_eG E)) (ml_sx (ml_eG E)) l0 l2 l3 l4 l5 l6 l7 m = some (rv, rm) → ml_V E "LostRoomLaw" cL_thing 6 false m 24 [(0, ml_r l0), (1, ml_q (ml_sb (ml_eG E))), (2, ml_i l2), (3, ml_i l3), (4, ml_i l4), (5, ml_r l5), (6, ml_i l6), (7, ml_i l7)] [] := by
  intro l0 l2 l3 l4 l5 l6 l7 m h
  unfold fL_thing_24 at h
  exact ml_sload dL_thing_24 1 rfl <| ml_iload_n dL_thing_25 2 rfl <| ml_iconst dL_thing_26 kc_i1 <| ml_iadd dL_thing_27 <| ml_b1_of h fun r931 hv930 h => ml_callSg dL_thing_28 wm_234 wb_141 (sL_cell hv930) rfl (Nat.le_of_ble_eq_true rfl) (Nat.le_of_ble_eq_true rfl) rfl <| ml_bipush dL_thing_31 kc_b40 <| ml_irem dL_thing_33 (by decide) <| ml_lx (mk := ml_i) h fun x932 h => ml_istore (lv' := [(8, ml_i x932), (0, ml_r l0), (1, ml_q (ml_sb (ml_eG E))), (2, ml_i l2), (3, ml_i l3), (4, ml_i l4), (5, ml_r l5), (6, ml_i l6), (7, ml_i l7)]) dL_thing_34 (ml_hn hL rfl) rfl <| ml_iload dL_thing_36 0 rfl <| ml_sload dL_thing_38 2 rfl <| ml_iload_n dL_thing_39 3 rfl <| ml_iconst dL_thing_40 kc_i2 <| ml_iadd dL_thing_41 <| ml_b1_of h fun r934 hv933 h => ml_callSg dL_thing_42 wm_234 wb_141 (sL_cell hv933) rfl (Nat.le_of_ble_eq_true rfl) (Nat.le_of_ble_eq_true rfl) rfl <| ml_bipush dL_thing_45 kc_b15 <| ml_irem dL_thing_47 (by decide) <| ml_iadd dL_thing_48 <| ml_lx (mk := ml_i) h fun x935 h => ml_istore (lv' := [(9, ml_i x935), (8, ml_i x932), (0, ml_r l0), (1, ml_q (ml_sb (ml_eG E))), (2, ml_i l2), (3, ml_i l3), (4, ml_i l4), (5, ml_r l5), (6, ml_i l6), (7, ml_i l7)]) dL_thing_49 (ml_hn hL rfl) rfl <| ml_sload dL_thing_51 3 rfl <| ml_iload_n dL_thing_52 4 rfl <| ml_iconst dL_thing_53 kc_i3 <| ml_iadd dL_thing_54 <| ml_b1_of h fun r937 hv936 h => ml_callSg dL_thing_55 wm_234 wb_141 (sL_cell hv936) rfl (Nat.le_of_ble_eq_true rfl) (Nat.le_of_ble_eq_true rfl) rfl <| ml_istore (lv' := [(10, ml_i r937), (9, ml_i x935), (8, ml_i x932), (0, ml_r l0), (1, ml_q (ml_sb (ml_eG E))), (2, ml_i l2), (3, ml_i l3), (4, ml_i l4), (5, ml_r l5), (6, ml_i l6), (7, ml_i l7)]) dL_thing_58 (ml_hn hL rfl) rfl <| ml_iload dL_thing_60 10 rfl <| ml_iconst dL_thing_62 kc_i1 <| ml_icmp_ne dL_thing_63 h (fun _ h => ml_iload dL_thing_76 10 rfl <| ml_iconst dL_thing_78 kc_i2 <| ml_icmp_ne dL_thing_79 h (fun _ h => ml_iload dL_thing_89 10 rfl <| ml_iconst dL_thing_91 kc_i3 <| ml_icmp_ne dL_thing_92 h (fun _ h => ml_iload dL_thing_114 10 rfl <| ml_iconst dL_thing_116 kc_i4 <| ml_icmp_ne dL_thing_117 h (fun _ h => ml_sipush dL_thing_129 kc_s1111 <| ml_iload dL_thing_132 0 rfl <| ml_iconst dL_thing_134 kc_i5 <| ml_irem dL_thing_135 (by decide) <| ml_iadd dL_thing_136 <| ml_bipush dL_thing_137 kc_b10 <| ml_iload dL_thing_139 0 rfl <| ml_iconst dL_thing_141 kc_i5 <| ml_idiv dL_thing_142 (by decide) <| ml_iconst dL_thing_143 kc_i5 <| ml_irem dL_thing_144 (by decide) <| ml_imul dL_thing_145 <| ml_iadd dL_thing_146 <| ml_bipush dL_thing_147 kc_b100 <| ml_iload dL_thing_149 0 rfl <| ml_bipush dL_thing_151 kc_b25 <| ml_idiv dL_thing_153 (by decide) <| ml_iconst dL_thing_154 kc_i2 <| ml_irem dL_thing_155 (by decide) <| ml_imul dL_thing_156 <| ml_iadd dL_thing_157 <| ml_sipush dL_thing_158 kc_s1000 <| ml_iload dL_thing_161 0 rfl <| ml_bipush dL_thing_163 kc_b50 <| ml_idiv dL_thing_165 (by decide) <| ml_iconst dL_thing_166 kc_i2 <| ml_irem dL_thing_167 (by decide) <| ml_imul dL_thing_168 <| ml_iadd dL_thing_169 <| ml_V.sub [3, 4, 6, 7, 8, 9, 10, 2, 1, 0] rfl (vL_thing_170 hL hr  _ _ _ _ _ _ _ _ _ _ _ h)) (fun _ h => ml_iconst dL_thing_120 kc_i1 <| ml_iload dL_thing_121 0 rfl <| ml_iconst dL_thing_123 kc_i3 <| ml_irem dL_thing_124 (by decide) <| ml_iadd dL_thing_125 <| ml_goto dL_thing_126 <| ml_V.sub [3, 4, 6, 7, 8, 9, 10, 2, 1, 0] rfl (vL_thing_170 hL hr  _ _ _ _ _ _ _ _ _ _ _ h))) (fun _ h => ml_bipush dL_thing_95 kc_b10 <| ml_iload dL_thing_97 0 rfl <| ml_iconst dL_thing_99 kc_i4 <| ml_irem dL_thing_100 (by decide) <| ml_imul dL_thing_101 <| ml_iconst dL_thing_102 kc_i1 <| ml_iadd dL_thing_103 <| ml_iload dL_thing_104 0 rfl <| ml_iconst dL_thing_106 kc_i4 <| ml_idiv dL_thing_107 (by decide) <| ml_iconst dL_thing_108 kc_i3 <| ml_irem dL_thing_109 (by decide) <| ml_iadd dL_thing_110 <| ml_goto dL_thing_111 <| ml_V.sub [3, 4, 6, 7, 8, 9, 10, 2, 1, 0] rfl (vL_thing_170 hL hr  _ _ _ _ _ _ _ _ _ _ _ h))) (fun _ h => ml_iload dL_thing_82 0 rfl <| ml_iconst dL_thing_84 kc_i4 <| ml_irem dL_thing_85 (by decide) <| ml_goto dL_thing_86 <| ml_V.sub [3, 4, 6, 7, 8, 9, 10, 2, 1, 0] rfl (vL_thing_170 hL hr  _ _ _ _ _ _ _ _ _ _ _ h))) (fun _ h => ml_iconst dL_thing_66 kc_i1 <| ml_iload dL_thing_67 0 rfl <| ml_bipush dL_thing_69 kc_b6 <| ml_irem dL_thing_71 (by decide) <| ml_iadd dL_thing_72 <| ml_goto dL_thing_73 <| ml_V.sub [3, 4, 6, 7, 8, 9, 10, 2, 1, 0] rfl (vL_thing_170 hL hr  _ _ _ _ _ _ _ _ _ _ _ h))
def fL_thing (sl : Nat) (sx : Nat → Int32) (l0 : Nat) (l2 : Int32) (l3 : Int32) (l4 : Int32) (l5 : Nat) (l6 : Int32) (m : ml_M) : Option (Int32 × ml_M) :=
    ml_b1 (fL_cell sl sx l2 m) fun r939 =>
    ml_let ((1 : Int32) + (r939 - r939 / (5 : Int32) * (5 : Int32))) fun x940 =>
    if x940 = (3 : Int32) then
    if l3 = 0 then
    fL_thing_24 sl sx l0 l2 l3 l4 l5 l6 (1 : Int32) m
    else
    fL_thing_24 sl sx l0 l2 l3 l4 l5 l6 x940 m
    else
    fL_thing_24 sl sx l0 l2 l3 l4 l5 l6 x940 m
theorem wL_thing_0 {E : ml_E} (hL : ml_eL E = 13) {rv : Int32} {rm : ml_M} (hr : ∀ (pc pc' : Nat) (lv : List (Nat × ml_X)), ml_d cL_thing pc .ireturn 1 pc' → (rv = 0 ∨ rv = 1) → ml_V E "LostRoomLaw" cL_thing 6 false rm pc lv [ml_i rv]) : ∀ (l0 : Nat) (l2 : Int32) (l3 : Int32) (l4 : Int32) (l5 : Nat) (l6 : Int32) (m : ml_M), fL_thing (ml_sl (ml_eG E)) (ml_sx (ml_eG E)) l0 l2 l3 l4 l5 l6 m = some (rv, rm) → ml_V E "LostRoomLaw" cL_thing 6 false m 0 [(0, ml_r l0), (1, ml_q (ml_sb (ml_eG E))), (2, ml_i l2), (3, ml_i l3), (4, ml_i l4), (5, ml_r l5), (6, ml_i l6)] [] := by
  intro l0 l2 l3 l4 l5 l6 m h
  unfold fL_thing at h
  exact ml_iconst dL_thing_0 kc_i1 <| ml_sload dL_thing_1 1 rfl <| ml_iload_n dL_thing_2 2 rfl <| ml_b1_of h fun r939 hv938 h => ml_callSg dL_thing_3 wm_234 wb_141 (sL_cell hv938) rfl (Nat.le_of_ble_eq_true rfl) (Nat.le_of_ble_eq_true rfl) rfl <| ml_iconst dL_thing_6 kc_i5 <| ml_irem dL_thing_7 (by decide) <| ml_iadd dL_thing_8 <| ml_lx (mk := ml_i) h fun x940 h => ml_istore (lv' := [(7, ml_i x940), (0, ml_r l0), (1, ml_q (ml_sb (ml_eG E))), (2, ml_i l2), (3, ml_i l3), (4, ml_i l4), (5, ml_r l5), (6, ml_i l6)]) dL_thing_9 (ml_hn hL rfl) rfl <| ml_iload dL_thing_11 0 rfl <| ml_iconst dL_thing_13 kc_i3 <| ml_icmp_ne dL_thing_14 h (fun _ h => ml_V.sub [1, 2, 3, 4, 5, 6, 7, 0] rfl (vL_thing_24 hL hr  _ _ _ _ _ _ _ _ h)) (fun _ h => ml_iload_n dL_thing_17 4 rfl <| ml_if_ne dL_thing_18 h (fun _ h => ml_V.sub [1, 2, 3, 4, 5, 6, 7, 0] rfl (vL_thing_24 hL hr  _ _ _ _ _ _ _ _ h)) (fun _ h => ml_iconst dL_thing_21 kc_i1 <| ml_istore (lv' := [(7, ml_i (1 : Int32)), (0, ml_r l0), (1, ml_q (ml_sb (ml_eG E))), (2, ml_i l2), (3, ml_i l3), (4, ml_i l4), (5, ml_r l5), (6, ml_i l6)]) dL_thing_22 (ml_hn hL rfl) rfl <| ml_V.sub [1, 2, 3, 4, 5, 6, 7, 0] rfl (vL_thing_24 hL hr  _ _ _ _ _ _ _ _ h)))
theorem sL_thing {G : ml_G} {l0 : Nat} {l2 : Int32} {l3 : Int32} {l4 : Int32} {l5 : Nat} {l6 : Int32} {m : ml_M} {rv : Int32} {rm : ml_M} (h : fL_thing (ml_sl G) (ml_sx G) l0 l2 l3 l4 l5 l6 m = some (rv, rm)) : ml_SnG G yL_thing cL_thing 13 (some .boolean) 6 [ml_r l0, ml_q (ml_sb G), ml_i l2, ml_i l3, ml_i l4, ml_r l5, ml_i l6] m (some (ml_i rv)) rm :=
  ml_SnG_of (P := (rv = 0 ∨ rv = 1)) (ini := false) (by decide +kernel) (Nat.le_of_ble_eq_true rfl) (fun h => by cases h) (fun hz => ml_RkZ rv hz) fun E hG hL hr => by subst hG; exact wL_thing_0 hL hr _ _ _ _ _ _ _ h
theorem dX10_wear_0 : ml_d cX10_wear 0 (.iload_n 1) 1 1 := ⟨by decide +kernel, rfl⟩
theorem dX10_wear_1 : ml_d cX10_wear 1 (.iconst 0) 1 2 := ⟨by decide +kernel, rfl⟩
theorem dX10_wear_2 : ml_d cX10_wear 2 (.iconst 4) 1 3 := ⟨by decide +kernel, rfl⟩
theorem dX10_wear_3 : ml_d cX10_wear 3 (.invokestatic 138) 3 6 := ⟨by decide +kernel, rfl⟩
theorem dX10_wear_6 : ml_j cX10_wear 6 (.ifCond .ne) 11 9 := ⟨5, by decide +kernel, by decide, rfl⟩
theorem dX10_wear_9 : ml_d cX10_wear 9 (.iconst (-1)) 1 10 := ⟨by decide +kernel, rfl⟩
theorem dX10_wear_10 : ml_d cX10_wear 10 (.ireturn) 1 11 := ⟨by decide +kernel, rfl⟩
theorem dX10_wear_11 : ml_d cX10_wear 11 (.aload_n 0) 1 12 := ⟨by decide +kernel, rfl⟩
theorem dX10_wear_12 : ml_d cX10_wear 12 (.getfield 30) 3 15 := ⟨by decide +kernel, rfl⟩
theorem dX10_wear_15 : ml_d cX10_wear 15 (.istore_n 2) 1 16 := ⟨by decide +kernel, rfl⟩
theorem dX10_wear_16 : ml_d cX10_wear 16 (.aload_n 0) 1 17 := ⟨by decide +kernel, rfl⟩
theorem dX10_wear_17 : ml_d cX10_wear 17 (.iload_n 1) 1 18 := ⟨by decide +kernel, rfl⟩
theorem dX10_wear_18 : ml_d cX10_wear 18 (.putfield 30) 3 21 := ⟨by decide +kernel, rfl⟩
theorem dX10_wear_21 : ml_d cX10_wear 21 (.iload_n 2) 1 22 := ⟨by decide +kernel, rfl⟩
theorem dX10_wear_22 : ml_d cX10_wear 22 (.ireturn) 1 23 := ⟨by decide +kernel, rfl⟩
def fX10_wear (l0 : Nat) (l1 : Int32) (m : ml_M) : Option (Int32 × ml_M) :=
    ml_b1 (fX10_within l1 (0 : Int32) (4 : Int32) m) fun r942 =>
    if r942 = 0 then
    some ((-1 : Int32), m)
    else
    if (ml_K m l0).1 = 10 then
    ml_let (ml_I m l0 3) fun x944 =>
    ml_let (ml_sI m l0 3 l1) fun m945 =>
    some (x944, m945)
    else none
theorem wX10_wear_0 {E : ml_E} (hL : ml_eL E = 3) {rv : Int32} {rm : ml_M} (hr : ∀ (pc pc' : Nat) (lv : List (Nat × ml_X)), ml_d cX10_wear pc .ireturn 1 pc' → True → ml_V E "LostRoom" cX10_wear 3 false rm pc lv [ml_i rv]) : ∀ (l0 : Nat) (l1 : Int32) (m : ml_M), fX10_wear l0 l1 m = some (rv, rm) → ml_V E "LostRoom" cX10_wear 3 false m 0 [(0, ml_r l0), (1, ml_i l1)] [] := by
  intro l0 l1 m h
  unfold fX10_wear at h
  exact ml_iload_n dX10_wear_0 1 rfl <| ml_iconst dX10_wear_1 kc_i0 <| ml_iconst dX10_wear_2 kc_i4 <| ml_b1_of h fun r942 hv941 h => ml_callS dX10_wear_3 wm_21 wb_4 (sX10_within hv941) rfl (Nat.le_of_ble_eq_true rfl) (Nat.le_of_ble_eq_true rfl) rfl <| ml_if_ne dX10_wear_6 h (fun _ h => ml_aload_n dX10_wear_11 0 rfl <| ml_ck_of h fun hc943 h => ml_getI dX10_wear_12 wb_176 hc943 <| ml_lx (mk := ml_i) h fun x944 h => ml_istore_n (lv' := [(2, ml_i x944), (0, ml_r l0), (1, ml_i l1)]) dX10_wear_15 (ml_hn hL rfl) rfl <| ml_aload_n dX10_wear_16 1 rfl <| ml_iload_n dX10_wear_17 2 rfl <| ml_putI dX10_wear_18 wb_177 hc943 <| ml_lt (m := m) rfl h fun m945 em946 h => ml_iload_n dX10_wear_21 0 rfl <| ml_rI (mk := ml_i) hr dX10_wear_22 (fun _ => trivial) h) (fun _ h => ml_iconst dX10_wear_9 kc_im1 <| ml_rI (mk := ml_i) hr dX10_wear_10 (fun _ => trivial) h)
theorem sX10_wear {l0 : Nat} {l1 : Int32} {m : ml_M} {rv : Int32} {rm : ml_M} (h : fX10_wear l0 l1 m = some (rv, rm)) : ml_Sn yX10_wear cX10_wear 3 (some .int) 3 [ml_r l0, ml_i l1] m (some (ml_i rv)) rm :=
  ml_Sn_of (P := True) (ini := false) (by decide +kernel) (Nat.le_of_ble_eq_true rfl) (fun h => by cases h) (fun _ => ml_RkI rv) fun E hL hr => wX10_wear_0 hL hr _ _ _ h
theorem dX10_turns_0 : ml_d cX10_turns 0 (.iconst 0) 1 1 := ⟨by decide +kernel, rfl⟩
theorem dX10_turns_1 : ml_d cX10_turns 1 (.istore_n 3) 1 2 := ⟨by decide +kernel, rfl⟩
theorem dX10_turns_2 : ml_d cX10_turns 2 (.iconst 1) 1 3 := ⟨by decide +kernel, rfl⟩
theorem dX10_turns_3 : ml_d cX10_turns 3 (.istore 4) 2 5 := ⟨by decide +kernel, rfl⟩
theorem dX10_turns_5 : ml_d cX10_turns 5 (.iload 4) 2 7 := ⟨by decide +kernel, rfl⟩
theorem dX10_turns_7 : ml_d cX10_turns 7 (.sipush 1000) 3 10 := ⟨by decide +kernel, rfl⟩
theorem dX10_turns_10 : ml_j cX10_turns 10 (.if_icmp .gt) 56 13 := ⟨46, by decide +kernel, by decide, rfl⟩
theorem dX10_turns_13 : ml_d cX10_turns 13 (.iload_n 1) 1 14 := ⟨by decide +kernel, rfl⟩
theorem dX10_turns_14 : ml_d cX10_turns 14 (.iload 4) 2 16 := ⟨by decide +kernel, rfl⟩
theorem dX10_turns_16 : ml_d cX10_turns 16 (.idiv) 1 17 := ⟨by decide +kernel, rfl⟩
theorem dX10_turns_17 : ml_d cX10_turns 17 (.bipush 10) 2 19 := ⟨by decide +kernel, rfl⟩
theorem dX10_turns_19 : ml_d cX10_turns 19 (.irem) 1 20 := ⟨by decide +kernel, rfl⟩
theorem dX10_turns_20 : ml_d cX10_turns 20 (.iload_n 2) 1 21 := ⟨by decide +kernel, rfl⟩
theorem dX10_turns_21 : ml_d cX10_turns 21 (.iload 4) 2 23 := ⟨by decide +kernel, rfl⟩
theorem dX10_turns_23 : ml_d cX10_turns 23 (.idiv) 1 24 := ⟨by decide +kernel, rfl⟩
theorem dX10_turns_24 : ml_d cX10_turns 24 (.bipush 10) 2 26 := ⟨by decide +kernel, rfl⟩
theorem dX10_turns_26 : ml_d cX10_turns 26 (.irem) 1 27 := ⟨by decide +kernel, rfl⟩
theorem dX10_turns_27 : ml_d cX10_turns 27 (.isub) 1 28 := ⟨by decide +kernel, rfl⟩
theorem dX10_turns_28 : ml_d cX10_turns 28 (.invokestatic 405) 3 31 := ⟨by decide +kernel, rfl⟩
theorem dX10_turns_31 : ml_d cX10_turns 31 (.istore 5) 2 33 := ⟨by decide +kernel, rfl⟩
theorem dX10_turns_33 : ml_d cX10_turns 33 (.iload 5) 2 35 := ⟨by decide +kernel, rfl⟩
theorem dX10_turns_35 : ml_d cX10_turns 35 (.iconst 1) 1 36 := ⟨by decide +kernel, rfl⟩
theorem dX10_turns_36 : ml_j cX10_turns 36 (.if_icmp .le) 41 39 := ⟨5, by decide +kernel, by decide, rfl⟩
theorem dX10_turns_39 : ml_d cX10_turns 39 (.iconst 0) 1 40 := ⟨by decide +kernel, rfl⟩
theorem dX10_turns_40 : ml_d cX10_turns 40 (.ireturn) 1 41 := ⟨by decide +kernel, rfl⟩
theorem dX10_turns_41 : ml_d cX10_turns 41 (.iload_n 3) 1 42 := ⟨by decide +kernel, rfl⟩
theorem dX10_turns_42 : ml_d cX10_turns 42 (.iload 5) 2 44 := ⟨by decide +kernel, rfl⟩
theorem dX10_turns_44 : ml_d cX10_turns 44 (.iadd) 1 45 := ⟨by decide +kernel, rfl⟩
theorem dX10_turns_45 : ml_d cX10_turns 45 (.istore_n 3) 1 46 := ⟨by decide +kernel, rfl⟩
theorem dX10_turns_46 : ml_d cX10_turns 46 (.iload 4) 2 48 := ⟨by decide +kernel, rfl⟩
theorem dX10_turns_48 : ml_d cX10_turns 48 (.bipush 10) 2 50 := ⟨by decide +kernel, rfl⟩
theorem dX10_turns_50 : ml_d cX10_turns 50 (.imul) 1 51 := ⟨by decide +kernel, rfl⟩
theorem dX10_turns_51 : ml_d cX10_turns 51 (.istore 4) 2 53 := ⟨by decide +kernel, rfl⟩
theorem dX10_turns_53 : ml_j cX10_turns 53 .goto 5 56 := ⟨(-48), by decide +kernel, by decide, rfl⟩
theorem dX10_turns_56 : ml_d cX10_turns 56 (.iload_n 3) 1 57 := ⟨by decide +kernel, rfl⟩
theorem dX10_turns_57 : ml_d cX10_turns 57 (.aload_n 0) 1 58 := ⟨by decide +kernel, rfl⟩
theorem dX10_turns_58 : ml_d cX10_turns 58 (.getfield 30) 3 61 := ⟨by decide +kernel, rfl⟩
theorem dX10_turns_61 : ml_j cX10_turns 61 (.if_icmp .gt) 68 64 := ⟨7, by decide +kernel, by decide, rfl⟩
theorem dX10_turns_64 : ml_d cX10_turns 64 (.iconst 1) 1 65 := ⟨by decide +kernel, rfl⟩
theorem dX10_turns_65 : ml_j cX10_turns 65 .goto 69 68 := ⟨4, by decide +kernel, by decide, rfl⟩
theorem dX10_turns_68 : ml_d cX10_turns 68 (.iconst 0) 1 69 := ⟨by decide +kernel, rfl⟩
theorem dX10_turns_69 : ml_d cX10_turns 69 (.ireturn) 1 70 := ⟨by decide +kernel, rfl⟩
def fX10_turns_56 (l0 : Nat) (l3 : Int32) (m : ml_M) : Option Int32 :=
    if (ml_K m l0).1 = 10 then
    if (ml_I m l0 3) < l3 then
    some (0 : Int32)
    else
    some (1 : Int32)
    else none
theorem vX10_turns_56 {E : ml_E} (hL : ml_eL E = 6) {rv : Int32} {m : ml_M} (hr : ∀ (pc pc' : Nat) (lv : List (Nat × ml_X)), ml_d cX10_turns pc .ireturn 1 pc' → (rv = 0 ∨ rv = 1) → ml_V E "LostRoom" cX10_turns 2 false m pc lv [ml_i rv]) : ∀ (l0 : Nat) (l3 : Int32), fX10_turns_56 l0 l3 m = some rv → ml_V E "LostRoom" cX10_turns 2 false m 56 [(0, ml_r l0), (3, ml_i l3)] [] := by
  intro l0 l3 h
  unfold fX10_turns_56 at h
  exact ml_iload_n dX10_turns_56 1 rfl <| ml_aload_n dX10_turns_57 0 rfl <| ml_ck_of h fun hc947 h => ml_getI dX10_turns_58 wb_176 hc947 <| ml_icmp_gt dX10_turns_61 h (fun _ h => ml_iconst dX10_turns_68 kc_i0 <| ml_rp (mk := ml_i) hr dX10_turns_69 (fun e => Or.inl e.symm) h) (fun _ h => ml_iconst dX10_turns_64 kc_i1 <| ml_goto dX10_turns_65 <| ml_rp (mk := ml_i) hr dX10_turns_69 (fun e => Or.inr e.symm) h)
def fX10_turns_5 : Nat → Nat → Int32 → Int32 → Int32 → Int32 → ml_M → Option Int32
  | 0, _, _, _, _, _, _ => none
  | fu + 1, l0, l1, l2, l3, l4, m =>
    if (1000 : Int32) < l4 then
    fX10_turns_56 l0 l3 m
    else
    if ¬ l4 = 0 then
    if ¬ l4 = 0 then
    ml_let (if 0 ≤ (((l1 / l4) - (l1 / l4) / (10 : Int32) * (10 : Int32)) - ((l2 / l4) - (l2 / l4) / (10 : Int32) * (10 : Int32))) then (((l1 / l4) - (l1 / l4) / (10 : Int32) * (10 : Int32)) - ((l2 / l4) - (l2 / l4) / (10 : Int32) * (10 : Int32))) else 0 - (((l1 / l4) - (l1 / l4) / (10 : Int32) * (10 : Int32)) - ((l2 / l4) - (l2 / l4) / (10 : Int32) * (10 : Int32)))) fun x950 =>
    if x950 ≤ (1 : Int32) then
    ml_let (l3 + x950) fun x951 =>
    ml_let (l4 * (10 : Int32)) fun x952 =>
    (fX10_turns_5 fu) l0 l1 l2 x951 x952 m
    else
    some (0 : Int32)
    else none
    else none
theorem vX10_turns_5 {E : ml_E} (hL : ml_eL E = 6) {rv : Int32} {m : ml_M} (hr : ∀ (pc pc' : Nat) (lv : List (Nat × ml_X)), ml_d cX10_turns pc .ireturn 1 pc' → (rv = 0 ∨ rv = 1) → ml_V E "LostRoom" cX10_turns 2 false m pc lv [ml_i rv]) : ∀ (fu : Nat) (l0 : Nat) (l1 : Int32) (l2 : Int32) (l3 : Int32) (l4 : Int32), fX10_turns_5 fu l0 l1 l2 l3 l4 m = some rv → ml_V E "LostRoom" cX10_turns 2 false m 5 [(0, ml_r l0), (1, ml_i l1), (2, ml_i l2), (3, ml_i l3), (4, ml_i l4)] [] := by
  intro fu
  induction fu with
  | zero => intro l0 l1 l2 l3 l4 h; exact ml_none h
  | succ fu ih =>
    intro l0 l1 l2 l3 l4 h
    have hk5 := ih
    unfold fX10_turns_5 at h
    exact ml_iload dX10_turns_5 4 rfl <| ml_sipush dX10_turns_7 kc_s1000 <| ml_icmp_gt dX10_turns_10 h (fun _ h => ml_V.sub [0, 3] rfl (vX10_turns_56 hL hr  _ _ h)) (fun _ h => ml_iload_n dX10_turns_13 1 rfl <| ml_iload dX10_turns_14 4 rfl <| ml_ck_of h fun hz948 h => ml_idiv dX10_turns_16 hz948 <| ml_bipush dX10_turns_17 kc_b10 <| ml_irem dX10_turns_19 (by decide) <| ml_iload_n dX10_turns_20 2 rfl <| ml_iload dX10_turns_21 4 rfl <| ml_ck_of h fun hz949 h => ml_idiv dX10_turns_23 hz949 <| ml_bipush dX10_turns_24 kc_b10 <| ml_irem dX10_turns_26 (by decide) <| ml_isub dX10_turns_27 <| ml_mabs dX10_turns_28 wb_178 (Nat.le_of_ble_eq_true rfl) (Nat.le_of_ble_eq_true rfl) <| ml_lx (mk := ml_i) h fun x950 h => ml_istore (lv' := [(5, ml_i x950), (0, ml_r l0), (1, ml_i l1), (2, ml_i l2), (3, ml_i l3), (4, ml_i l4)]) dX10_turns_31 (ml_hn hL rfl) rfl <| ml_iload dX10_turns_33 0 rfl <| ml_iconst dX10_turns_35 kc_i1 <| ml_icmp_le dX10_turns_36 h (fun _ h => ml_iload_n dX10_turns_41 4 rfl <| ml_iload dX10_turns_42 0 rfl <| ml_iadd dX10_turns_44 <| ml_lx (mk := ml_i) h fun x951 h => ml_istore_n (lv' := [(3, ml_i x951), (5, ml_i x950), (0, ml_r l0), (1, ml_i l1), (2, ml_i l2), (4, ml_i l4)]) dX10_turns_45 (ml_hn hL rfl) rfl <| ml_iload dX10_turns_46 5 rfl <| ml_bipush dX10_turns_48 kc_b10 <| ml_imul dX10_turns_50 <| ml_lx (mk := ml_i) h fun x952 h => ml_istore (lv' := [(4, ml_i x952), (3, ml_i x951), (5, ml_i x950), (0, ml_r l0), (1, ml_i l1), (2, ml_i l2)]) dX10_turns_51 (ml_hn hL rfl) rfl <| ml_goto dX10_turns_53 <| ml_V.sub [3, 4, 5, 1, 0] rfl (hk5 _ _ _ _ _ h)) (fun _ h => ml_iconst dX10_turns_39 kc_i0 <| ml_rp (mk := ml_i) hr dX10_turns_40 (fun e => Or.inl e.symm) h))
def fX10_turns (l0 : Nat) (l1 : Int32) (l2 : Int32) (m : ml_M) : Option Int32 :=
    fX10_turns_5 ml_fu l0 l1 l2 (0 : Int32) (1 : Int32) m
theorem wX10_turns_0 {E : ml_E} (hL : ml_eL E = 6) {rv : Int32} {m : ml_M} (hr : ∀ (pc pc' : Nat) (lv : List (Nat × ml_X)), ml_d cX10_turns pc .ireturn 1 pc' → (rv = 0 ∨ rv = 1) → ml_V E "LostRoom" cX10_turns 2 false m pc lv [ml_i rv]) : ∀ (l0 : Nat) (l1 : Int32) (l2 : Int32), fX10_turns l0 l1 l2 m = some rv → ml_V E "LostRoom" cX10_turns 2 false m 0 [(0, ml_r l0), (1, ml_i l1), (2, ml_i l2)] [] := by
  intro l0 l1 l2 h
  unfold fX10_turns at h
  exact ml_iconst dX10_turns_0 kc_i0 <| ml_istore_n (lv' := [(3, ml_i (0 : Int32)), (0, ml_r l0), (1, ml_i l1), (2, ml_i l2)]) dX10_turns_1 (ml_hn hL rfl) rfl <| ml_iconst dX10_turns_2 kc_i1 <| ml_istore (lv' := [(4, ml_i (1 : Int32)), (3, ml_i (0 : Int32)), (0, ml_r l0), (1, ml_i l1), (2, ml_i l2)]) dX10_turns_3 (ml_hn hL rfl) rfl <| ml_V.sub [2, 3, 4, 1, 0] rfl (vX10_turns_5 hL hr  ml_fu _ _ _ _ _ h)
theorem sX10_turns {l0 : Nat} {l1 : Int32} {l2 : Int32} {m : ml_M} {rv : Int32} (h : fX10_turns l0 l1 l2 m = some rv) : ml_Sn yX10_turns cX10_turns 6 (some .boolean) 2 [ml_r l0, ml_i l1, ml_i l2] m (some (ml_i rv)) m :=
  ml_Sn_of (P := (rv = 0 ∨ rv = 1)) (ini := false) (by decide +kernel) (Nat.le_of_ble_eq_true rfl) (fun h => by cases h) (fun hz => ml_RkZ rv hz) fun E hL hr => wX10_turns_0 hL hr _ _ _ h
theorem dX10_opened_0 : ml_d cX10_opened 0 (.iconst 0) 1 1 := ⟨by decide +kernel, rfl⟩
theorem dX10_opened_1 : ml_d cX10_opened 1 (.istore_n 2) 1 2 := ⟨by decide +kernel, rfl⟩
theorem dX10_opened_2 : ml_d cX10_opened 2 (.iconst 0) 1 3 := ⟨by decide +kernel, rfl⟩
theorem dX10_opened_3 : ml_d cX10_opened 3 (.istore_n 3) 1 4 := ⟨by decide +kernel, rfl⟩
theorem dX10_opened_4 : ml_d cX10_opened 4 (.iload_n 3) 1 5 := ⟨by decide +kernel, rfl⟩
theorem dX10_opened_5 : ml_d cX10_opened 5 (.aload_n 0) 1 6 := ⟨by decide +kernel, rfl⟩
theorem dX10_opened_6 : ml_d cX10_opened 6 (.getfield 26) 3 9 := ⟨by decide +kernel, rfl⟩
theorem dX10_opened_9 : ml_d cX10_opened 9 (.getfield 135) 3 12 := ⟨by decide +kernel, rfl⟩
theorem dX10_opened_12 : ml_j cX10_opened 12 (.if_icmp .ge) 50 15 := ⟨38, by decide +kernel, by decide, rfl⟩
theorem dX10_opened_15 : ml_d cX10_opened 15 (.aload_n 0) 1 16 := ⟨by decide +kernel, rfl⟩
theorem dX10_opened_16 : ml_d cX10_opened 16 (.aload_n 1) 1 17 := ⟨by decide +kernel, rfl⟩
theorem dX10_opened_17 : ml_d cX10_opened 17 (.getfield 399) 3 20 := ⟨by decide +kernel, rfl⟩
theorem dX10_opened_20 : ml_d cX10_opened 20 (.aload_n 0) 1 21 := ⟨by decide +kernel, rfl⟩
theorem dX10_opened_21 : ml_d cX10_opened 21 (.getfield 26) 3 24 := ⟨by decide +kernel, rfl⟩
theorem dX10_opened_24 : ml_d cX10_opened 24 (.getfield 219) 3 27 := ⟨by decide +kernel, rfl⟩
theorem dX10_opened_27 : ml_d cX10_opened 27 (.iload_n 3) 1 28 := ⟨by decide +kernel, rfl⟩
theorem dX10_opened_28 : ml_d cX10_opened 28 (.aaload) 1 29 := ⟨by decide +kernel, rfl⟩
theorem dX10_opened_29 : ml_d cX10_opened 29 (.getfield 381) 3 32 := ⟨by decide +kernel, rfl⟩
theorem dX10_opened_32 : ml_d cX10_opened 32 (.invokevirtual 402) 3 35 := ⟨by decide +kernel, rfl⟩
theorem dX10_opened_35 : ml_j cX10_opened 35 (.ifCond .eq) 44 38 := ⟨9, by decide +kernel, by decide, rfl⟩
theorem dX10_opened_38 : ml_d cX10_opened 38 (.iload_n 2) 1 39 := ⟨by decide +kernel, rfl⟩
theorem dX10_opened_39 : ml_d cX10_opened 39 (.iconst 1) 1 40 := ⟨by decide +kernel, rfl⟩
theorem dX10_opened_40 : ml_d cX10_opened 40 (.iload_n 3) 1 41 := ⟨by decide +kernel, rfl⟩
theorem dX10_opened_41 : ml_d cX10_opened 41 (.ishl) 1 42 := ⟨by decide +kernel, rfl⟩
theorem dX10_opened_42 : ml_d cX10_opened 42 (.ior) 1 43 := ⟨by decide +kernel, rfl⟩
theorem dX10_opened_43 : ml_d cX10_opened 43 (.istore_n 2) 1 44 := ⟨by decide +kernel, rfl⟩
theorem dX10_opened_44 : ml_d cX10_opened 44 (.iinc 3 1) 3 47 := ⟨by decide +kernel, rfl⟩
theorem dX10_opened_47 : ml_j cX10_opened 47 .goto 4 50 := ⟨(-43), by decide +kernel, by decide, rfl⟩
theorem dX10_opened_50 : ml_d cX10_opened 50 (.iload_n 2) 1 51 := ⟨by decide +kernel, rfl⟩
theorem dX10_opened_51 : ml_d cX10_opened 51 (.ireturn) 1 52 := ⟨by decide +kernel, rfl⟩
def fX10_opened_44 (k4 : Nat → Nat → Int32 → Int32 → ml_M → Option Int32) (l0 : Nat) (l1 : Nat) (l2 : Int32) (l3 : Int32) (m : ml_M) : Option Int32 :=
    k4 l0 l1 l2 (l3 + (1 : Int32)) m
theorem vX10_opened_44 {E : ml_E} (hL : ml_eL E = 4) {rv : Int32} {m : ml_M} (hr : ∀ (pc pc' : Nat) (lv : List (Nat × ml_X)), ml_d cX10_opened pc .ireturn 1 pc' → True → ml_V E "LostRoom" cX10_opened 3 false m pc lv [ml_i rv]) {k4 : Nat → Nat → Int32 → Int32 → ml_M → Option Int32} (hk4 : ∀ (l0 : Nat) (l1 : Nat) (l2 : Int32) (l3 : Int32), k4 l0 l1 l2 l3 m = some rv → ml_V E "LostRoom" cX10_opened 3 false m 4 [(0, ml_r l0), (1, ml_r l1), (2, ml_i l2), (3, ml_i l3)] []) : ∀ (l0 : Nat) (l1 : Nat) (l2 : Int32) (l3 : Int32), fX10_opened_44 k4 l0 l1 l2 l3 m = some rv → ml_V E "LostRoom" cX10_opened 3 false m 44 [(0, ml_r l0), (1, ml_r l1), (2, ml_i l2), (3, ml_i l3)] [] := by
  intro l0 l1 l2 l3 h
  unfold fX10_opened_44 at h
  exact ml_iinc (lv' := [(3, ml_i (l3 + (1 : Int32))), (0, ml_r l0), (1, ml_r l1), (2, ml_i l2)]) dX10_opened_44 3 rfl (congrArg (l3 + ·) kc_i1) (ml_hn hL rfl) rfl <| ml_goto dX10_opened_47 <| ml_V.sub [1, 2, 3, 0] rfl (hk4 _ _ _ _ h)
def fX10_opened_4 : Nat → Nat → Nat → Int32 → Int32 → ml_M → Option Int32
  | 0, _, _, _, _, _ => none
  | fu + 1, l0, l1, l2, l3, m =>
    if (ml_K m l0).1 = 10 then
    ml_let (ml_R m l0 2) fun a954 =>
    if (ml_K m a954).1 = 1 then
    if (ml_I m a954 3) ≤ l3 then
    some l2
    else
    if (ml_K m l1).1 = 8 then
    ml_let (ml_R m l0 2) fun a957 =>
    if (ml_K m a957).1 = 1 then
    ml_let (ml_R m a957 1) fun a959 =>
    if ml_in m a959 30 l3 then
    ml_let (ml_R m a959 l3.toNatClampNeg) fun a961 =>
    if (ml_K m a961).1 = 9 then
    ml_b1 (fX10_turns l0 (ml_I m l1 3) (ml_I m a961 0) m) fun r964 =>
    if r964 = 0 then
    fX10_opened_44 (fX10_opened_4 fu) l0 l1 l2 l3 m
    else
    ml_let (l2 ||| ((1 : Int32) <<< (l3 &&& 31))) fun x965 =>
    fX10_opened_44 (fX10_opened_4 fu) l0 l1 x965 l3 m
    else none
    else none
    else none
    else none
    else none
    else none
theorem vX10_opened_4 {E : ml_E} (hL : ml_eL E = 4) {rv : Int32} {m : ml_M} (hr : ∀ (pc pc' : Nat) (lv : List (Nat × ml_X)), ml_d cX10_opened pc .ireturn 1 pc' → True → ml_V E "LostRoom" cX10_opened 3 false m pc lv [ml_i rv]) : ∀ (fu : Nat) (l0 : Nat) (l1 : Nat) (l2 : Int32) (l3 : Int32), fX10_opened_4 fu l0 l1 l2 l3 m = some rv → ml_V E "LostRoom" cX10_opened 3 false m 4 [(0, ml_r l0), (1, ml_r l1), (2, ml_i l2), (3, ml_i l3)] [] := by
  intro fu
  induction fu with
  | zero => intro l0 l1 l2 l3 h; exact ml_none h
  | succ fu ih =>
    intro l0 l1 l2 l3 h
    have hk4 := ih
    unfold fX10_opened_4 at h
    exact ml_iload_n dX10_opened_4 3 rfl <| ml_aload_n dX10_opened_5 0 rfl <| ml_ck_of h fun hc953 h => ml_getR dX10_opened_6 wb_71 hc953 <| ml_lx (mk := ml_r) h fun a954 h => ml_ck_of h fun hc955 h => ml_getI dX10_opened_9 wb_72 hc955 <| ml_icmp_ge dX10_opened_12 h (fun _ h => ml_iload_n dX10_opened_50 2 rfl <| ml_rp (mk := ml_i) hr dX10_opened_51 (fun _ => trivial) h) (fun _ h => ml_aload_n dX10_opened_15 0 rfl <| ml_aload_n dX10_opened_16 1 rfl <| ml_ck_of h fun hc956 h => ml_getI dX10_opened_17 wb_179 hc956 <| ml_aload_n dX10_opened_20 0 rfl <| ml_getR dX10_opened_21 wb_71 hc953 <| ml_lx (mk := ml_r) h fun a957 h => ml_ck_of h fun hc958 h => ml_getR dX10_opened_24 wb_180 hc958 <| ml_lx (mk := ml_r) h fun a959 h => ml_iload_n dX10_opened_27 3 rfl <| ml_ck_of h fun hi960 h => ml_aald (kd := 30) dX10_opened_28 (by decide) hi960 <| ml_lx (mk := ml_r) h fun a961 h => ml_ck_of h fun hc962 h => ml_getI dX10_opened_29 wb_181 hc962 <| ml_b1_of h fun r964 hv963 h => ml_callV dX10_opened_32 wm_302 wb_182 hc953 (sX10_turns hv963) rfl (Nat.le_of_ble_eq_true rfl) (Nat.le_of_ble_eq_true rfl) rfl <| ml_if_eq dX10_opened_35 h (fun _ h => ml_V.sub [0, 1, 2, 3] rfl (vX10_opened_44 hL hr hk4 _ _ _ _ h)) (fun _ h => ml_iload_n dX10_opened_38 2 rfl <| ml_iconst dX10_opened_39 kc_i1 <| ml_iload_n dX10_opened_40 3 rfl <| ml_ishl dX10_opened_41 <| ml_ior dX10_opened_42 <| ml_lx (mk := ml_i) h fun x965 h => ml_istore_n (lv' := [(2, ml_i x965), (0, ml_r l0), (1, ml_r l1), (3, ml_i l3)]) dX10_opened_43 (ml_hn hL rfl) rfl <| ml_V.sub [1, 2, 0, 3] rfl (vX10_opened_44 hL hr hk4 _ _ _ _ h)))
def fX10_opened (l0 : Nat) (l1 : Nat) (m : ml_M) : Option Int32 :=
    fX10_opened_4 ml_fu l0 l1 (0 : Int32) (0 : Int32) m
theorem wX10_opened_0 {E : ml_E} (hL : ml_eL E = 4) {rv : Int32} {m : ml_M} (hr : ∀ (pc pc' : Nat) (lv : List (Nat × ml_X)), ml_d cX10_opened pc .ireturn 1 pc' → True → ml_V E "LostRoom" cX10_opened 3 false m pc lv [ml_i rv]) : ∀ (l0 : Nat) (l1 : Nat), fX10_opened l0 l1 m = some rv → ml_V E "LostRoom" cX10_opened 3 false m 0 [(0, ml_r l0), (1, ml_r l1)] [] := by
  intro l0 l1 h
  unfold fX10_opened at h
  exact ml_iconst dX10_opened_0 kc_i0 <| ml_istore_n (lv' := [(2, ml_i (0 : Int32)), (0, ml_r l0), (1, ml_r l1)]) dX10_opened_1 (ml_hn hL rfl) rfl <| ml_iconst dX10_opened_2 kc_i0 <| ml_istore_n (lv' := [(3, ml_i (0 : Int32)), (2, ml_i (0 : Int32)), (0, ml_r l0), (1, ml_r l1)]) dX10_opened_3 (ml_hn hL rfl) rfl <| ml_V.sub [2, 3, 1, 0] rfl (vX10_opened_4 hL hr  ml_fu _ _ _ _ h)
theorem sX10_opened {l0 : Nat} {l1 : Nat} {m : ml_M} {rv : Int32} (h : fX10_opened l0 l1 m = some rv) : ml_Sn yX10_opened cX10_opened 4 (some .int) 3 [ml_r l0, ml_r l1] m (some (ml_i rv)) m :=
  ml_Sn_of (P := True) (ini := false) (by decide +kernel) (Nat.le_of_ble_eq_true rfl) (fun h => by cases h) (fun _ => ml_RkI rv) fun E hL hr => wX10_opened_0 hL hr _ _ h

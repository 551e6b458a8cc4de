/-! printed by wip/whole/emit.py out of the claim's own listing -/
theorem dX10_firstTrunkFor_0 : ml_d cX10_firstTrunkFor 0 (.iconst 0) 1 1 := ⟨by decide +kernel, rfl⟩
theorem dX10_firstTrunkFor_1 : ml_d cX10_firstTrunkFor 1 (.istore_n 3) 1 2 := ⟨by decide +kernel, rfl⟩
theorem dX10_firstTrunkFor_2 : ml_d cX10_firstTrunkFor 2 (.iload_n 3) 1 3 := ⟨by decide +kernel, rfl⟩
theorem dX10_firstTrunkFor_3 : ml_d cX10_firstTrunkFor 3 (.aload_n 2) 1 4 := ⟨by decide +kernel, rfl⟩
theorem dX10_firstTrunkFor_4 : ml_d cX10_firstTrunkFor 4 (.arraylength) 1 5 := ⟨by decide +kernel, rfl⟩
theorem dX10_firstTrunkFor_5 : ml_j cX10_firstTrunkFor 5 (.if_icmp .ge) 29 8 := ⟨24, by decide +kernel, by decide, rfl⟩
theorem dX10_firstTrunkFor_8 : ml_d cX10_firstTrunkFor 8 (.aload_n 1) 1 9 := ⟨by decide +kernel, rfl⟩
theorem dX10_firstTrunkFor_9 : ml_d cX10_firstTrunkFor 9 (.getfield 169) 3 12 := ⟨by decide +kernel, rfl⟩
theorem dX10_firstTrunkFor_12 : ml_d cX10_firstTrunkFor 12 (.aload_n 2) 1 13 := ⟨by decide +kernel, rfl⟩
theorem dX10_firstTrunkFor_13 : ml_d cX10_firstTrunkFor 13 (.iload_n 3) 1 14 := ⟨by decide +kernel, rfl⟩
theorem dX10_firstTrunkFor_14 : ml_d cX10_firstTrunkFor 14 (.iaload) 1 15 := ⟨by decide +kernel, rfl⟩
theorem dX10_firstTrunkFor_15 : ml_d cX10_firstTrunkFor 15 (.invokestatic 216) 3 18 := ⟨by decide +kernel, rfl⟩
theorem dX10_firstTrunkFor_18 : ml_j cX10_firstTrunkFor 18 (.ifCond .eq) 23 21 := ⟨5, by decide +kernel, by decide, rfl⟩
theorem dX10_firstTrunkFor_21 : ml_d cX10_firstTrunkFor 21 (.iload_n 3) 1 22 := ⟨by decide +kernel, rfl⟩
theorem dX10_firstTrunkFor_22 : ml_d cX10_firstTrunkFor 22 (.ireturn) 1 23 := ⟨by decide +kernel, rfl⟩
theorem dX10_firstTrunkFor_23 : ml_d cX10_firstTrunkFor 23 (.iinc 3 1) 3 26 := ⟨by decide +kernel, rfl⟩
theorem dX10_firstTrunkFor_26 : ml_j cX10_firstTrunkFor 26 .goto 2 29 := ⟨(-24), by decide +kernel, by decide, rfl⟩
theorem dX10_firstTrunkFor_29 : ml_d cX10_firstTrunkFor 29 (.bipush (-9)) 2 31 := ⟨by decide +kernel, rfl⟩
theorem dX10_firstTrunkFor_31 : ml_d cX10_firstTrunkFor 31 (.ireturn) 1 32 := ⟨by decide +kernel, rfl⟩
def fX10_firstTrunkFor_2 : Nat → Nat → Nat → Int32 → ml_M → Option Int32
  | 0, _, _, _, _ => none
  | fu + 1, l1, l2, l3, m =>
    if (ml_K m l2).1 = 20 then
    if (Int32.ofNat (ml_K m l2).2) ≤ l3 then
    some (-9 : Int32)
    else
    if (ml_K m l1).1 = 8 then
    if ml_in m l2 20 l3 then
    ml_b1 (fX10_has (ml_I m l1 5) (ml_I m l2 l3.toNatClampNeg) m) fun r2675 =>
    if r2675 = 0 then
    (fX10_firstTrunkFor_2 fu) l1 l2 (l3 + (1 : Int32)) m
    else
    some l3
    else none
    else none
    else none
theorem vX10_firstTrunkFor_2 {E : ml_E} (hL : ml_eL E = 4) {rv : Int32} {m : ml_M} (hr : ∀ (pc pc' : Nat) (lv : List (Nat × ml_X)), ml_d cX10_firstTrunkFor pc .ireturn 1 pc' → True → ml_V E "LostRoom" cX10_firstTrunkFor 3 false m pc lv [ml_i rv]) : ∀ (fu : Nat) (l1 : Nat) (l2 : Nat) (l3 : Int32), fX10_firstTrunkFor_2 fu l1 l2 l3 m = some rv → ml_V E "LostRoom" cX10_firstTrunkFor 3 false m 2 [(1, ml_r l1), (2, ml_r l2), (3, ml_i l3)] [] := by
  intro fu
  induction fu with
  | zero => intro l1 l2 l3 h; exact ml_none h
  | succ fu ih =>
    intro l1 l2 l3 h
    have hk2 := ih
    unfold fX10_firstTrunkFor_2 at h
    exact ml_iload_n dX10_firstTrunkFor_2 2 rfl <| ml_aload_n dX10_firstTrunkFor_3 1 rfl <| ml_ck_of h fun hc2671 h => ml_alen (kd := 20) dX10_firstTrunkFor_4 (by decide) hc2671 <| ml_icmp_ge dX10_firstTrunkFor_5 h (fun _ h => ml_bipush dX10_firstTrunkFor_29 kc_bm9 <| ml_rp (mk := ml_i) hr dX10_firstTrunkFor_31 (fun _ => trivial) h) (fun _ h => ml_aload_n dX10_firstTrunkFor_8 0 rfl <| ml_ck_of h fun hc2672 h => ml_getI dX10_firstTrunkFor_9 wb_281 hc2672 <| ml_aload_n dX10_firstTrunkFor_12 1 rfl <| ml_iload_n dX10_firstTrunkFor_13 2 rfl <| ml_ck_of h fun hi2673 h => ml_iald dX10_firstTrunkFor_14 hi2673 <| ml_b1_of h fun r2675 hv2674 h => ml_callS dX10_firstTrunkFor_15 wm_489 wb_299 (sX10_has hv2674) rfl (Nat.le_of_ble_eq_true rfl) (Nat.le_of_ble_eq_true rfl) rfl <| ml_if_eq dX10_firstTrunkFor_18 h (fun _ h => ml_iinc (lv' := [(3, ml_i (l3 + (1 : Int32))), (1, ml_r l1), (2, ml_r l2)]) dX10_firstTrunkFor_23 2 rfl (congrArg (l3 + ·) kc_i1) (ml_hn hL rfl) rfl <| ml_goto dX10_firstTrunkFor_26 <| ml_V.sub [1, 2, 0] rfl (hk2 _ _ _ h)) (fun _ h => ml_iload_n dX10_firstTrunkFor_21 2 rfl <| ml_rp (mk := ml_i) hr dX10_firstTrunkFor_22 (fun _ => trivial) h))
def fX10_firstTrunkFor (l0 : Nat) (l1 : Nat) (l2 : Nat) (m : ml_M) : Option Int32 :=
    fX10_firstTrunkFor_2 ml_fu l1 l2 (0 : Int32) m
theorem wX10_firstTrunkFor_0 {E : ml_E} (hL : ml_eL E = 4) {rv : Int32} {m : ml_M} (hr : ∀ (pc pc' : Nat) (lv : List (Nat × ml_X)), ml_d cX10_firstTrunkFor pc .ireturn 1 pc' → True → ml_V E "LostRoom" cX10_firstTrunkFor 3 false m pc lv [ml_i rv]) : ∀ (l0 : Nat) (l1 : Nat) (l2 : Nat), fX10_firstTrunkFor l0 l1 l2 m = some rv → ml_V E "LostRoom" cX10_firstTrunkFor 3 false m 0 [(0, ml_r l0), (1, ml_r l1), (2, ml_r l2)] [] := by
  intro l0 l1 l2 h
  unfold fX10_firstTrunkFor at h
  exact ml_iconst dX10_firstTrunkFor_0 kc_i0 <| ml_istore_n (lv' := [(3, ml_i (0 : Int32)), (0, ml_r l0), (1, ml_r l1), (2, ml_r l2)]) dX10_firstTrunkFor_1 (ml_hn hL rfl) rfl <| ml_V.sub [2, 3, 0] rfl (vX10_firstTrunkFor_2 hL hr  ml_fu _ _ _ h)
theorem sX10_firstTrunkFor {l0 : Nat} {l1 : Nat} {l2 : Nat} {m : ml_M} {rv : Int32} (h : fX10_firstTrunkFor l0 l1 l2 m = some rv) : ml_Sn yX10_firstTrunkFor cX10_firstTrunkFor 4 (some .int) 3 [ml_r l0, ml_r l1, ml_r l2] m (some (ml_i rv)) m :=
  ml_Sn_of (P := True) (ini := false) (by decide +kernel) (Nat.le_of_ble_eq_true rfl) (fun h => by cases h) (fun _ => ml_RkI rv) fun E hL hr => wX10_firstTrunkFor_0 hL hr _ _ _ h
theorem dX10_moves_0 : ml_d cX10_moves 0 (.iload_n 1) 1 1 := ⟨by decide +kernel, rfl⟩
theorem dX10_moves_1 : ml_d cX10_moves 1 (.invokestatic 82) 3 4 := ⟨by decide +kernel, rfl⟩
theorem dX10_moves_4 : ml_j cX10_moves 4 (.ifCond .eq) 14 7 := ⟨10, by decide +kernel, by decide, rfl⟩
theorem dX10_moves_7 : ml_d cX10_moves 7 (.iload_n 2) 1 8 := ⟨by decide +kernel, rfl⟩
theorem dX10_moves_8 : ml_d cX10_moves 8 (.invokestatic 82) 3 11 := ⟨by decide +kernel, rfl⟩
theorem dX10_moves_11 : ml_j cX10_moves 11 (.ifCond .ne) 16 14 := ⟨5, by decide +kernel, by decide, rfl⟩
theorem dX10_moves_14 : ml_d cX10_moves 14 (.iconst (-1)) 1 15 := ⟨by decide +kernel, rfl⟩
theorem dX10_moves_15 : ml_d cX10_moves 15 (.ireturn) 1 16 := ⟨by decide +kernel, rfl⟩
theorem dX10_moves_16 : ml_d cX10_moves 16 (.aload_n 0) 1 17 := ⟨by decide +kernel, rfl⟩
theorem dX10_moves_17 : ml_d cX10_moves 17 (.getfield 11) 3 20 := ⟨by decide +kernel, rfl⟩
theorem dX10_moves_20 : ml_d cX10_moves 20 (.iload_n 1) 1 21 := ⟨by decide +kernel, rfl⟩
theorem dX10_moves_21 : ml_d cX10_moves 21 (.aaload) 1 22 := ⟨by decide +kernel, rfl⟩
theorem dX10_moves_22 : ml_d cX10_moves 22 (.astore_n 3) 1 23 := ⟨by decide +kernel, rfl⟩
theorem dX10_moves_23 : ml_d cX10_moves 23 (.aload_n 3) 1 24 := ⟨by decide +kernel, rfl⟩
theorem dX10_moves_24 : ml_j cX10_moves 24 .ifnonnull 33 27 := ⟨9, by decide +kernel, by decide, rfl⟩
theorem dX10_moves_27 : ml_d cX10_moves 27 (.aload_n 0) 1 28 := ⟨by decide +kernel, rfl⟩
theorem dX10_moves_28 : ml_d cX10_moves 28 (.iconst 1) 1 29 := ⟨by decide +kernel, rfl⟩
theorem dX10_moves_29 : ml_d cX10_moves 29 (.invokevirtual 86) 3 32 := ⟨by decide +kernel, rfl⟩
theorem dX10_moves_32 : ml_d cX10_moves 32 (.ireturn) 1 33 := ⟨by decide +kernel, rfl⟩
theorem dX10_moves_33 : ml_d cX10_moves 33 (.aload_n 3) 1 34 := ⟨by decide +kernel, rfl⟩
theorem dX10_moves_34 : ml_d cX10_moves 34 (.arraylength) 1 35 := ⟨by decide +kernel, rfl⟩
theorem dX10_moves_35 : ml_d cX10_moves 35 (.aload_n 0) 1 36 := ⟨by decide +kernel, rfl⟩
theorem dX10_moves_36 : ml_d cX10_moves 36 (.getfield 26) 3 39 := ⟨by decide +kernel, rfl⟩
theorem dX10_moves_39 : ml_d cX10_moves 39 (.getfield 135) 3 42 := ⟨by decide +kernel, rfl⟩
theorem dX10_moves_42 : ml_j cX10_moves 42 (.if_icmp .eq) 51 45 := ⟨9, by decide +kernel, by decide, rfl⟩
theorem dX10_moves_45 : ml_d cX10_moves 45 (.aload_n 0) 1 46 := ⟨by decide +kernel, rfl⟩
theorem dX10_moves_46 : ml_d cX10_moves 46 (.iconst 5) 1 47 := ⟨by decide +kernel, rfl⟩
theorem dX10_moves_47 : ml_d cX10_moves 47 (.invokevirtual 86) 3 50 := ⟨by decide +kernel, rfl⟩
theorem dX10_moves_50 : ml_d cX10_moves 50 (.ireturn) 1 51 := ⟨by decide +kernel, rfl⟩
theorem dX10_moves_51 : ml_d cX10_moves 51 (.aload_n 0) 1 52 := ⟨by decide +kernel, rfl⟩
theorem dX10_moves_52 : ml_d cX10_moves 52 (.invokevirtual 243) 3 55 := ⟨by decide +kernel, rfl⟩
theorem dX10_moves_55 : ml_d cX10_moves 55 (.aload_n 0) 1 56 := ⟨by decide +kernel, rfl⟩
theorem dX10_moves_56 : ml_d cX10_moves 56 (.getfield 61) 3 59 := ⟨by decide +kernel, rfl⟩
theorem dX10_moves_59 : ml_d cX10_moves 59 (.aload_n 3) 1 60 := ⟨by decide +kernel, rfl⟩
theorem dX10_moves_60 : ml_d cX10_moves 60 (.invokevirtual 262) 3 63 := ⟨by decide +kernel, rfl⟩
theorem dX10_moves_63 : ml_j cX10_moves 63 (.ifCond .ne) 72 66 := ⟨9, by decide +kernel, by decide, rfl⟩
theorem dX10_moves_66 : ml_d cX10_moves 66 (.aload_n 0) 1 67 := ⟨by decide +kernel, rfl⟩
theorem dX10_moves_67 : ml_d cX10_moves 67 (.iconst 3) 1 68 := ⟨by decide +kernel, rfl⟩
theorem dX10_moves_68 : ml_d cX10_moves 68 (.invokevirtual 86) 3 71 := ⟨by decide +kernel, rfl⟩
theorem dX10_moves_71 : ml_d cX10_moves 71 (.ireturn) 1 72 := ⟨by decide +kernel, rfl⟩
theorem dX10_moves_72 : ml_d cX10_moves 72 (.iconst 2) 1 73 := ⟨by decide +kernel, rfl⟩
theorem dX10_moves_73 : ml_d cX10_moves 73 (.aload_n 0) 1 74 := ⟨by decide +kernel, rfl⟩
theorem dX10_moves_74 : ml_d cX10_moves 74 (.getfield 118) 3 77 := ⟨by decide +kernel, rfl⟩
theorem dX10_moves_77 : ml_d cX10_moves 77 (.imul) 1 78 := ⟨by decide +kernel, rfl⟩
theorem dX10_moves_78 : ml_d cX10_moves 78 (.newarray .int) 2 80 := ⟨by decide +kernel, rfl⟩
theorem dX10_moves_80 : ml_d cX10_moves 80 (.astore 4) 2 82 := ⟨by decide +kernel, rfl⟩
theorem dX10_moves_82 : ml_d cX10_moves 82 (.iconst 0) 1 83 := ⟨by decide +kernel, rfl⟩
theorem dX10_moves_83 : ml_d cX10_moves 83 (.istore 5) 2 85 := ⟨by decide +kernel, rfl⟩
theorem dX10_moves_85 : ml_d cX10_moves 85 (.iconst 0) 1 86 := ⟨by decide +kernel, rfl⟩
theorem dX10_moves_86 : ml_d cX10_moves 86 (.istore 6) 2 88 := ⟨by decide +kernel, rfl⟩
theorem dX10_moves_88 : ml_d cX10_moves 88 (.iload 6) 2 90 := ⟨by decide +kernel, rfl⟩
theorem dX10_moves_90 : ml_d cX10_moves 90 (.aload_n 0) 1 91 := ⟨by decide +kernel, rfl⟩
theorem dX10_moves_91 : ml_d cX10_moves 91 (.getfield 118) 3 94 := ⟨by decide +kernel, rfl⟩
theorem dX10_moves_94 : ml_j cX10_moves 94 (.if_icmp .ge) 169 97 := ⟨75, by decide +kernel, by decide, rfl⟩
theorem dX10_moves_97 : ml_d cX10_moves 97 (.aload_n 0) 1 98 := ⟨by decide +kernel, rfl⟩
theorem dX10_moves_98 : ml_d cX10_moves 98 (.getfield 36) 3 101 := ⟨by decide +kernel, rfl⟩
theorem dX10_moves_101 : ml_d cX10_moves 101 (.iload 6) 2 103 := ⟨by decide +kernel, rfl⟩
theorem dX10_moves_103 : ml_d cX10_moves 103 (.aaload) 1 104 := ⟨by decide +kernel, rfl⟩
theorem dX10_moves_104 : ml_d cX10_moves 104 (.astore 7) 2 106 := ⟨by decide +kernel, rfl⟩
theorem dX10_moves_106 : ml_d cX10_moves 106 (.aload_n 0) 1 107 := ⟨by decide +kernel, rfl⟩
theorem dX10_moves_107 : ml_d cX10_moves 107 (.aload 7) 2 109 := ⟨by decide +kernel, rfl⟩
theorem dX10_moves_109 : ml_d cX10_moves 109 (.getfield 175) 3 112 := ⟨by decide +kernel, rfl⟩
theorem dX10_moves_112 : ml_d cX10_moves 112 (.invokevirtual 148) 3 115 := ⟨by decide +kernel, rfl⟩
theorem dX10_moves_115 : ml_j cX10_moves 115 (.ifCond .eq) 163 118 := ⟨48, by decide +kernel, by decide, rfl⟩
theorem dX10_moves_118 : ml_d cX10_moves 118 (.aload 7) 2 120 := ⟨by decide +kernel, rfl⟩
theorem dX10_moves_120 : ml_d cX10_moves 120 (.getfield 169) 3 123 := ⟨by decide +kernel, rfl⟩
theorem dX10_moves_123 : ml_d cX10_moves 123 (.aload_n 3) 1 124 := ⟨by decide +kernel, rfl⟩
theorem dX10_moves_124 : ml_d cX10_moves 124 (.aload 7) 2 126 := ⟨by decide +kernel, rfl⟩
theorem dX10_moves_126 : ml_d cX10_moves 126 (.getfield 175) 3 129 := ⟨by decide +kernel, rfl⟩
theorem dX10_moves_129 : ml_d cX10_moves 129 (.iaload) 1 130 := ⟨by decide +kernel, rfl⟩
theorem dX10_moves_130 : ml_d cX10_moves 130 (.invokestatic 216) 3 133 := ⟨by decide +kernel, rfl⟩
theorem dX10_moves_133 : ml_j cX10_moves 133 (.ifCond .eq) 139 136 := ⟨6, by decide +kernel, by decide, rfl⟩
theorem dX10_moves_136 : ml_j cX10_moves 136 .goto 163 139 := ⟨27, by decide +kernel, by decide, rfl⟩
theorem dX10_moves_139 : ml_d cX10_moves 139 (.aload 4) 2 141 := ⟨by decide +kernel, rfl⟩
theorem dX10_moves_141 : ml_d cX10_moves 141 (.iload 5) 2 143 := ⟨by decide +kernel, rfl⟩
theorem dX10_moves_143 : ml_d cX10_moves 143 (.iload 6) 2 145 := ⟨by decide +kernel, rfl⟩
theorem dX10_moves_145 : ml_d cX10_moves 145 (.iastore) 1 146 := ⟨by decide +kernel, rfl⟩
theorem dX10_moves_146 : ml_d cX10_moves 146 (.aload 4) 2 148 := ⟨by decide +kernel, rfl⟩
theorem dX10_moves_148 : ml_d cX10_moves 148 (.iload 5) 2 150 := ⟨by decide +kernel, rfl⟩
theorem dX10_moves_150 : ml_d cX10_moves 150 (.iconst 1) 1 151 := ⟨by decide +kernel, rfl⟩
theorem dX10_moves_151 : ml_d cX10_moves 151 (.iadd) 1 152 := ⟨by decide +kernel, rfl⟩
theorem dX10_moves_152 : ml_d cX10_moves 152 (.aload_n 0) 1 153 := ⟨by decide +kernel, rfl⟩
theorem dX10_moves_153 : ml_d cX10_moves 153 (.aload 7) 2 155 := ⟨by decide +kernel, rfl⟩
theorem dX10_moves_155 : ml_d cX10_moves 155 (.aload_n 3) 1 156 := ⟨by decide +kernel, rfl⟩
theorem dX10_moves_156 : ml_d cX10_moves 156 (.invokevirtual 266) 3 159 := ⟨by decide +kernel, rfl⟩
theorem dX10_moves_159 : ml_d cX10_moves 159 (.iastore) 1 160 := ⟨by decide +kernel, rfl⟩
theorem dX10_moves_160 : ml_d cX10_moves 160 (.iinc 5 2) 3 163 := ⟨by decide +kernel, rfl⟩
theorem dX10_moves_163 : ml_d cX10_moves 163 (.iinc 6 1) 3 166 := ⟨by decide +kernel, rfl⟩
theorem dX10_moves_166 : ml_j cX10_moves 166 .goto 88 169 := ⟨(-78), by decide +kernel, by decide, rfl⟩
theorem dX10_moves_169 : ml_d cX10_moves 169 (.aload_n 0) 1 170 := ⟨by decide +kernel, rfl⟩
theorem dX10_moves_170 : ml_d cX10_moves 170 (.getfield 11) 3 173 := ⟨by decide +kernel, rfl⟩
theorem dX10_moves_173 : ml_d cX10_moves 173 (.iload_n 2) 1 174 := ⟨by decide +kernel, rfl⟩
theorem dX10_moves_174 : ml_d cX10_moves 174 (.aload 4) 2 176 := ⟨by decide +kernel, rfl⟩
theorem dX10_moves_176 : ml_d cX10_moves 176 (.iload 5) 2 178 := ⟨by decide +kernel, rfl⟩
theorem dX10_moves_178 : ml_d cX10_moves 178 (.invokestatic 252) 3 181 := ⟨by decide +kernel, rfl⟩
theorem dX10_moves_181 : ml_d cX10_moves 181 (.aastore) 1 182 := ⟨by decide +kernel, rfl⟩
theorem dX10_moves_182 : ml_d cX10_moves 182 (.iload 5) 2 184 := ⟨by decide +kernel, rfl⟩
theorem dX10_moves_184 : ml_d cX10_moves 184 (.iconst 2) 1 185 := ⟨by decide +kernel, rfl⟩
theorem dX10_moves_185 : ml_d cX10_moves 185 (.idiv) 1 186 := ⟨by decide +kernel, rfl⟩
theorem dX10_moves_186 : ml_d cX10_moves 186 (.ireturn) 1 187 := ⟨by decide +kernel, rfl⟩
def fX10_moves_163 (k88 : Nat → Int32 → Nat → Nat → Int32 → Int32 → ml_M → Option (Int32 × ml_M)) (l0 : Nat) (l2 : Int32) (l3 : Nat) (l4 : Nat) (l5 : Int32) (l6 : Int32) (m : ml_M) : Option (Int32 × ml_M) :=
    k88 l0 l2 l3 l4 l5 (l6 + (1 : Int32)) m
theorem vX10_moves_163 {E : ml_E} (hL : ml_eL E = 8) {rv : Int32} {rm : ml_M} (hr : ∀ (pc pc' : Nat) (lv : List (Nat × ml_X)), ml_d cX10_moves pc .ireturn 1 pc' → True → ml_V E "LostRoom" cX10_moves 19 false rm pc lv [ml_i rv]) {k88 : Nat → Int32 → Nat → Nat → Int32 → Int32 → ml_M → Option (Int32 × ml_M)} (hk88 : ∀ (l0 : Nat) (l2 : Int32) (l3 : Nat) (l4 : Nat) (l5 : Int32) (l6 : Int32) (m : ml_M), k88 l0 l2 l3 l4 l5 l6 m = some (rv, rm) → ml_V E "LostRoom" cX10_moves 19 false m 88 [(0, ml_r l0), (2, ml_i l2), (3, ml_r l3), (4, ml_r l4), (5, ml_i l5), (6, ml_i l6)] []) : ∀ (l0 : Nat) (l2 : Int32) (l3 : Nat) (l4 : Nat) (l5 : Int32) (l6 : Int32) (m : ml_M), fX10_moves_163 k88 l0 l2 l3 l4 l5 l6 m = some (rv, rm) → ml_V E "LostRoom" cX10_moves 19 false m 163 [(0, ml_r l0), (2, ml_i l2), (3, ml_r l3), (4, ml_r l4), (5, ml_i l5), (6, ml_i l6)] [] := by
  intro l0 l2 l3 l4 l5 l6 m h
  unfold fX10_moves_163 at h
  exact ml_iinc (lv' := [(6, ml_i (l6 + (1 : Int32))), (0, ml_r l0), (2, ml_i l2), (3, ml_r l3), (4, ml_r l4), (5, ml_i l5)]) dX10_moves_163 5 rfl (congrArg (l6 + ·) kc_i1) (ml_hn hL rfl) rfl <| ml_goto dX10_moves_166 <| ml_V.sub [1, 2, 3, 4, 5, 0] rfl (hk88 _ _ _ _ _ _ _ h)
def fX10_moves_169 (l0 : Nat) (l2 : Int32) (l4 : Nat) (l5 : Int32) (m : ml_M) : Option (Int32 × ml_M) :=
    if (ml_K m l0).1 = 10 then
    ml_let (ml_R m l0 0) fun a2677 =>
    ml_b2 (fJ7_copyOf_59c91 l4 l5 m) fun a2679 m2680 =>
    if (ml_K m2680 a2679).1 = 20 then
    if ml_in m2680 a2677 23 l2 then
    ml_let (ml_sR m2680 a2677 l2.toNatClampNeg a2679) fun m2683 =>
    some ((l5 / (2 : Int32)), m2683)
    else none
    else none
    else none
theorem vX10_moves_169 {E : ml_E} (hL : ml_eL E = 8) {rv : Int32} {rm : ml_M} (hr : ∀ (pc pc' : Nat) (lv : List (Nat × ml_X)), ml_d cX10_moves pc .ireturn 1 pc' → True → ml_V E "LostRoom" cX10_moves 19 false rm pc lv [ml_i rv]) : ∀ (l0 : Nat) (l2 : Int32) (l4 : Nat) (l5 : Int32) (m : ml_M), fX10_moves_169 l0 l2 l4 l5 m = some (rv, rm) → ml_V E "LostRoom" cX10_moves 19 false m 169 [(0, ml_r l0), (2, ml_i l2), (4, ml_r l4), (5, ml_i l5)] [] := by
  intro l0 l2 l4 l5 m h
  unfold fX10_moves_169 at h
  exact ml_aload_n dX10_moves_169 0 rfl <| ml_ck_of h fun hc2676 h => ml_getR dX10_moves_170 wb_98 hc2676 <| ml_lx (mk := ml_r) h fun a2677 h => ml_iload_n dX10_moves_173 1 rfl <| ml_aload dX10_moves_174 2 rfl <| ml_iload dX10_moves_176 3 rfl <| ml_b2_of h fun a2679 m2680 hv2678 h => ml_callS dX10_moves_178 wm_578 wb_351 (sJ7_copyOf_59c91 hv2678) rfl (Nat.le_of_ble_eq_true rfl) (Nat.le_of_ble_eq_true rfl) rfl <| ml_ck_of h fun hc2682 h => ml_ck_of h fun hi2681 h => ml_aastA (kd := 23) (ka := 20) dX10_moves_181 (by decide) hi2681 hc2682 <| ml_lt (m := m2680) rfl h fun m2683 em2684 h => ml_iload dX10_moves_182 3 rfl <| ml_iconst dX10_moves_184 kc_i2 <| ml_idiv dX10_moves_185 (by decide) <| ml_rI (mk := ml_i) hr dX10_moves_186 (fun _ => trivial) h
def fX10_moves_88 : Nat → Nat → Int32 → Nat → Nat → Int32 → Int32 → ml_M → Option (Int32 × ml_M)
  | 0, _, _, _, _, _, _, _ => none
  | fu + 1, l0, l2, l3, l4, l5, l6, m =>
    if (ml_K m l0).1 = 10 then
    if (ml_I m l0 5) ≤ l6 then
    fX10_moves_169 l0 l2 l4 l5 m
    else
    ml_let (ml_R m l0 4) fun a2686 =>
    if ml_in m a2686 29 l6 then
    ml_let (ml_R m a2686 l6.toNatClampNeg) fun a2688 =>
    if (ml_K m a2688).1 = 8 then
    ml_b1 (fX10_isTrunk l0 (ml_I m a2688 6) m) fun r2691 =>
    if r2691 = 0 then
    fX10_moves_163 (fX10_moves_88 fu) l0 l2 l3 l4 l5 l6 m
    else
    if ml_in m l3 20 (ml_I m a2688 6) then
    ml_b1 (fX10_has (ml_I m a2688 5) (ml_I m l3 (ml_I m a2688 6).toNatClampNeg) m) fun r2694 =>
    if r2694 = 0 then
    if ml_in m l4 20 l5 then
    ml_let (ml_sI m l4 l5.toNatClampNeg l6) fun m2696 =>
    ml_b1 (fX10_firstTrunkFor l0 a2688 l3 m2696) fun r2699 =>
    if ml_in m2696 l4 20 (l5 + (1 : Int32)) then
    ml_let (ml_sI m2696 l4 (l5 + (1 : Int32)).toNatClampNeg r2699) fun m2701 =>
    fX10_moves_163 (fX10_moves_88 fu) l0 l2 l3 l4 (l5 + (2 : Int32)) l6 m2701
    else none
    else none
    else
    fX10_moves_163 (fX10_moves_88 fu) l0 l2 l3 l4 l5 l6 m
    else none
    else none
    else none
    else none
theorem vX10_moves_88 {E : ml_E} (hL : ml_eL E = 8) {rv : Int32} {rm : ml_M} (hr : ∀ (pc pc' : Nat) (lv : List (Nat × ml_X)), ml_d cX10_moves pc .ireturn 1 pc' → True → ml_V E "LostRoom" cX10_moves 19 false rm pc lv [ml_i rv]) : ∀ (fu : Nat) (l0 : Nat) (l2 : Int32) (l3 : Nat) (l4 : Nat) (l5 : Int32) (l6 : Int32) (m : ml_M), fX10_moves_88 fu l0 l2 l3 l4 l5 l6 m = some (rv, rm) → ml_V E "LostRoom" cX10_moves 19 false m 88 [(0, ml_r l0), (2, ml_i l2), (3, ml_r l3), (4, ml_r l4), (5, ml_i l5), (6, ml_i l6)] [] := by
  intro fu
  induction fu with
  | zero => intro l0 l2 l3 l4 l5 l6 m h; exact ml_none h
  | succ fu ih =>
    intro l0 l2 l3 l4 l5 l6 m h
    have hk88 := ih
    unfold fX10_moves_88 at h
    exact ml_iload dX10_moves_88 5 rfl <| ml_aload_n dX10_moves_90 0 rfl <| ml_ck_of h fun hc2685 h => ml_getI dX10_moves_91 wb_217 hc2685 <| ml_icmp_ge dX10_moves_94 h (fun _ h => ml_V.sub [0, 1, 3, 4] rfl (vX10_moves_169 hL hr  _ _ _ _ _ h)) (fun _ h => ml_aload_n dX10_moves_97 0 rfl <| ml_getR dX10_moves_98 wb_218 hc2685 <| ml_lx (mk := ml_r) h fun a2686 h => ml_iload dX10_moves_101 5 rfl <| ml_ck_of h fun hi2687 h => ml_aald (kd := 29) dX10_moves_103 (by decide) hi2687 <| ml_lx (mk := ml_r) h fun a2688 h => ml_astore (lv' := [(7, ml_r a2688), (0, ml_r l0), (2, ml_i l2), (3, ml_r l3), (4, ml_r l4), (5, ml_i l5), (6, ml_i l6)]) dX10_moves_104 (ml_hn hL rfl) rfl <| ml_aload_n dX10_moves_106 1 rfl <| ml_aload dX10_moves_107 0 rfl <| ml_ck_of h fun hc2689 h => ml_getI dX10_moves_109 wb_219 hc2689 <| ml_b1_of h fun r2691 hv2690 h => ml_callV dX10_moves_112 wm_317 wb_225 hc2685 (sX10_isTrunk hv2690) rfl (Nat.le_of_ble_eq_true rfl) (Nat.le_of_ble_eq_true rfl) rfl <| ml_if_eq dX10_moves_115 h (fun _ h => ml_V.sub [1, 2, 3, 4, 5, 6] rfl (vX10_moves_163 hL hr hk88 _ _ _ _ _ _ _ h)) (fun _ h => ml_aload dX10_moves_118 0 rfl <| ml_getI dX10_moves_120 wb_281 hc2689 <| ml_aload_n dX10_moves_123 3 rfl <| ml_aload dX10_moves_124 0 rfl <| ml_getI dX10_moves_126 wb_219 hc2689 <| ml_ck_of h fun hi2692 h => ml_iald dX10_moves_129 hi2692 <| ml_b1_of h fun r2694 hv2693 h => ml_callS dX10_moves_130 wm_489 wb_299 (sX10_has hv2693) rfl (Nat.le_of_ble_eq_true rfl) (Nat.le_of_ble_eq_true rfl) rfl <| ml_if_eq dX10_moves_133 h (fun _ h => ml_aload dX10_moves_139 4 rfl <| ml_iload dX10_moves_141 5 rfl <| ml_iload dX10_moves_143 6 rfl <| ml_ck_of h fun hi2695 h => ml_iast dX10_moves_145 hi2695 <| ml_lt (m := m) rfl h fun m2696 em2697 h => ml_aload dX10_moves_146 4 rfl <| ml_iload dX10_moves_148 5 rfl <| ml_iconst dX10_moves_150 kc_i1 <| ml_iadd dX10_moves_151 <| ml_aload_n dX10_moves_152 1 rfl <| ml_aload dX10_moves_153 0 rfl <| ml_aload_n dX10_moves_155 3 rfl <| ml_b1_of h fun r2699 hv2698 h => ml_callV dX10_moves_156 wm_626 wb_374 (ml_kk em2697 hc2685) (sX10_firstTrunkFor hv2698) rfl (Nat.le_of_ble_eq_true rfl) (Nat.le_of_ble_eq_true rfl) rfl <| ml_ck_of h fun hi2700 h => ml_iast dX10_moves_159 hi2700 <| ml_lt (m := m2696) rfl h fun m2701 em2702 h => ml_iinc (lv' := [(5, ml_i (l5 + (2 : Int32))), (7, ml_r a2688), (0, ml_r l0), (2, ml_i l2), (3, ml_r l3), (4, ml_r l4), (6, ml_i l6)]) dX10_moves_160 5 rfl (congrArg (l5 + ·) kc_i2) (ml_hn hL rfl) rfl <| ml_V.sub [2, 3, 4, 5, 0, 6] rfl (vX10_moves_163 hL hr hk88 _ _ _ _ _ _ _ h)) (fun _ h => ml_goto dX10_moves_136 <| ml_V.sub [1, 2, 3, 4, 5, 6] rfl (vX10_moves_163 hL hr hk88 _ _ _ _ _ _ _ h))))
def fX10_moves (l0 : Nat) (l1 : Int32) (l2 : Int32) (m : ml_M) : Option (Int32 × ml_M) :=
    ml_b1 (fX10_isRow l1 m) fun r2704 =>
    if r2704 = 0 then
    some ((-1 : Int32), m)
    else
    ml_b1 (fX10_isRow l2 m) fun r2706 =>
    if r2706 = 0 then
    some ((-1 : Int32), m)
    else
    if (ml_K m l0).1 = 10 then
    ml_let (ml_R m l0 0) fun a2708 =>
    if ml_in m a2708 23 l1 then
    ml_let (ml_R m a2708 l1.toNatClampNeg) fun a2710 =>
    if a2710 = 0 then
    ml_b2 (fX10_found l0 (1 : Int32) m) fun r2736 m2737 =>
    some (r2736, m2737)
    else
    if (ml_K m a2710).1 = 20 then
    ml_let (ml_R m l0 2) fun a2712 =>
    if (ml_K m a2712).1 = 1 then
    if (Int32.ofNat (ml_K m a2710).2) = (ml_I m a2712 3) then
    ml_b1 (fX10_refreshSharings l0 m) fun m2715 =>
    if (ml_K m2715 l0).1 = 10 then
    ml_let (ml_R m2715 l0 12) fun a2717 =>
    if (ml_K m2715 a2717).1 = 7 then
    ml_b2 (fX7_isSharing a2717 a2710 m2715) fun r2720 m2721 =>
    if r2720 = 0 then
    if (ml_K m2721 l0).1 = 10 then
    ml_b2 (fX10_found l0 (3 : Int32) m2721) fun r2730 m2731 =>
    some (r2730, m2731)
    else none
    else
    if (ml_K m2721 l0).1 = 10 then
    if ml_len ((2 : Int32) * (ml_I m2721 l0 5)) then
    ml_let (ml_n m2721 + 1) fun a2724 =>
    ml_let (ml_al m2721 20 ((2 : Int32) * (ml_I m2721 l0 5)).toNatClampNeg ((2 : Int32) * (ml_I m2721 l0 5)).toNatClampNeg) fun m2725 =>
    fX10_moves_88 ml_fu l0 l2 a2710 a2724 (0 : Int32) (0 : Int32) m2725
    else none
    else none
    else none
    else none
    else
    ml_b2 (fX10_found l0 (5 : Int32) m) fun r2733 m2734 =>
    some (r2733, m2734)
    else none
    else none
    else none
    else none
theorem wX10_moves_0 {E : ml_E} (hL : ml_eL E = 8) {rv : Int32} {rm : ml_M} (hr : ∀ (pc pc' : Nat) (lv : List (Nat × ml_X)), ml_d cX10_moves pc .ireturn 1 pc' → True → ml_V E "LostRoom" cX10_moves 19 false rm pc lv [ml_i rv]) : ∀ (l0 : Nat) (l1 : Int32) (l2 : Int32) (m : ml_M), fX10_moves l0 l1 l2 m = some (rv, rm) → ml_V E "LostRoom" cX10_moves 19 false m 0 [(0, ml_r l0), (1, ml_i l1), (2, ml_i l2)] [] := by
  intro l0 l1 l2 m h
  unfold fX10_moves at h
  exact ml_iload_n dX10_moves_0 1 rfl <| ml_b1_of h fun r2704 hv2703 h => ml_callS dX10_moves_1 wm_128 wb_97 (sX10_isRow hv2703) rfl (Nat.le_of_ble_eq_true rfl) (Nat.le_of_ble_eq_true rfl) rfl <| ml_if_eq dX10_moves_4 h (fun _ h => ml_iconst dX10_moves_14 kc_im1 <| ml_rI (mk := ml_i) hr dX10_moves_15 (fun _ => trivial) h) (fun _ h => ml_iload_n dX10_moves_7 2 rfl <| ml_b1_of h fun r2706 hv2705 h => ml_callS dX10_moves_8 wm_128 wb_97 (sX10_isRow hv2705) rfl (Nat.le_of_ble_eq_true rfl) (Nat.le_of_ble_eq_true rfl) rfl <| ml_if_ne dX10_moves_11 h (fun _ h => ml_aload_n dX10_moves_16 0 rfl <| ml_ck_of h fun hc2707 h => ml_getR dX10_moves_17 wb_98 hc2707 <| ml_lx (mk := ml_r) h fun a2708 h => ml_iload_n dX10_moves_20 1 rfl <| ml_ck_of h fun hi2709 h => ml_aald (kd := 23) dX10_moves_21 (by decide) hi2709 <| ml_lx (mk := ml_r) h fun a2710 h => ml_astore_n (lv' := [(3, ml_r a2710), (0, ml_r l0), (1, ml_i l1), (2, ml_i l2)]) dX10_moves_22 (ml_hn hL rfl) rfl <| ml_aload_n dX10_moves_23 0 rfl <| ml_ifnonnull dX10_moves_24 h (fun _ h => ml_aload_n dX10_moves_33 0 rfl <| ml_ck_of h fun hc2711 h => ml_alen (kd := 20) dX10_moves_34 (by decide) hc2711 <| ml_aload_n dX10_moves_35 1 rfl <| ml_getR dX10_moves_36 wb_189 hc2707 <| ml_lx (mk := ml_r) h fun a2712 h => ml_ck_of h fun hc2713 h => ml_getI dX10_moves_39 wb_190 hc2713 <| ml_icmp_eq dX10_moves_42 h (fun _ h => ml_aload_n dX10_moves_51 1 rfl <| ml_b1_of h fun m2715 hv2714 h => ml_callV dX10_moves_52 wm_573 wb_348 hc2707 (sX10_refreshSharings hv2714) rfl (Nat.le_of_ble_eq_true rfl) (Nat.le_of_ble_eq_true rfl) rfl <| ml_aload_n dX10_moves_55 1 rfl <| ml_ck_of h fun hc2716 h => ml_getR dX10_moves_56 wb_185 hc2716 <| ml_lx (mk := ml_r) h fun a2717 h => ml_aload_n dX10_moves_59 0 rfl <| ml_ck_of h fun hc2719 h => ml_b2_of h fun r2720 m2721 hv2718 h => ml_callV dX10_moves_60 wm_630 wb_375 hc2719 (sX7_isSharing hv2718) rfl (Nat.le_of_ble_eq_true rfl) (Nat.le_of_ble_eq_true rfl) rfl <| ml_if_ne dX10_moves_63 h (fun _ h => ml_iconst dX10_moves_72 kc_i2 <| ml_aload_n dX10_moves_73 1 rfl <| ml_ck_of h fun hc2722 h => ml_getI dX10_moves_74 wb_217 hc2722 <| ml_imul dX10_moves_77 <| ml_ck_of h fun hl2723 h => ml_newAs (kd := 20) dX10_moves_78 wb_0 hl2723 h fun a2724 m2725 hn2726 hc2727 h => ml_astore (lv' := [(4, ml_r a2724), (3, ml_r a2710), (0, ml_r l0), (1, ml_i l1), (2, ml_i l2)]) dX10_moves_80 (ml_hn hL rfl) rfl <| ml_iconst dX10_moves_82 kc_i0 <| ml_istore (lv' := [(5, ml_i (0 : Int32)), (4, ml_r a2724), (3, ml_r a2710), (0, ml_r l0), (1, ml_i l1), (2, ml_i l2)]) dX10_moves_83 (ml_hn hL rfl) rfl <| ml_iconst dX10_moves_85 kc_i0 <| ml_istore (lv' := [(6, ml_i (0 : Int32)), (5, ml_i (0 : Int32)), (4, ml_r a2724), (3, ml_r a2710), (0, ml_r l0), (1, ml_i l1), (2, ml_i l2)]) dX10_moves_86 (ml_hn hL rfl) rfl <| ml_V.sub [4, 6, 3, 2, 1, 0] rfl (vX10_moves_88 hL hr  ml_fu _ _ _ _ _ _ _ h)) (fun _ h => ml_aload_n dX10_moves_66 1 rfl <| ml_iconst dX10_moves_67 kc_i3 <| ml_ck_of h fun hc2729 h => ml_b2_of h fun r2730 m2731 hv2728 h => ml_callV dX10_moves_68 wm_132 wb_99 hc2729 (sX10_found hv2728) rfl (Nat.le_of_ble_eq_true rfl) (Nat.le_of_ble_eq_true rfl) rfl <| ml_rI (mk := ml_i) hr dX10_moves_71 (fun _ => trivial) h)) (fun _ h => ml_aload_n dX10_moves_45 1 rfl <| ml_iconst dX10_moves_46 kc_i5 <| ml_b2_of h fun r2733 m2734 hv2732 h => ml_callV dX10_moves_47 wm_132 wb_99 hc2707 (sX10_found hv2732) rfl (Nat.le_of_ble_eq_true rfl) (Nat.le_of_ble_eq_true rfl) rfl <| ml_rI (mk := ml_i) hr dX10_moves_50 (fun _ => trivial) h)) (fun _ h => ml_aload_n dX10_moves_27 1 rfl <| ml_iconst dX10_moves_28 kc_i1 <| ml_b2_of h fun r2736 m2737 hv2735 h => ml_callV dX10_moves_29 wm_132 wb_99 hc2707 (sX10_found hv2735) rfl (Nat.le_of_ble_eq_true rfl) (Nat.le_of_ble_eq_true rfl) rfl <| ml_rI (mk := ml_i) hr dX10_moves_32 (fun _ => trivial) h)) (fun _ h => ml_iconst dX10_moves_14 kc_im1 <| ml_rI (mk := ml_i) hr dX10_moves_15 (fun _ => trivial) h))
theorem sX10_moves {l0 : Nat} {l1 : Int32} {l2 : Int32} {m : ml_M} {rv : Int32} {rm : ml_M} (h : fX10_moves l0 l1 l2 m = some (rv, rm)) : ml_Sn yX10_moves cX10_moves 8 (some .int) 19 [ml_r l0, ml_i l1, ml_i l2] m (some (ml_i rv)) rm :=
  ml_Sn_of (P := True) (ini := false) (by decide +kernel) (Nat.le_of_ble_eq_true rfl) (fun h => by cases h) (fun _ => ml_RkI rv) fun E hL hr => wX10_moves_0 hL hr _ _ _ _ h
theorem dX11_moves_0 : ml_d cX11_moves 0 (.iload_n 1) 1 1 := ⟨by decide +kernel, rfl⟩
theorem dX11_moves_1 : ml_d cX11_moves 1 (.invokestatic 111) 3 4 := ⟨by decide +kernel, rfl⟩
theorem dX11_moves_4 : ml_j cX11_moves 4 (.ifCond .eq) 14 7 := ⟨10, by decide +kernel, by decide, rfl⟩
theorem dX11_moves_7 : ml_d cX11_moves 7 (.iload_n 2) 1 8 := ⟨by decide +kernel, rfl⟩
theorem dX11_moves_8 : ml_d cX11_moves 8 (.invokestatic 111) 3 11 := ⟨by decide +kernel, rfl⟩
theorem dX11_moves_11 : ml_j cX11_moves 11 (.ifCond .ne) 16 14 := ⟨5, by decide +kernel, by decide, rfl⟩
theorem dX11_moves_14 : ml_d cX11_moves 14 (.iconst (-1)) 1 15 := ⟨by decide +kernel, rfl⟩
theorem dX11_moves_15 : ml_d cX11_moves 15 (.ireturn) 1 16 := ⟨by decide +kernel, rfl⟩
theorem dX11_moves_16 : ml_d cX11_moves 16 (.aload_n 0) 1 17 := ⟨by decide +kernel, rfl⟩
theorem dX11_moves_17 : ml_d cX11_moves 17 (.getfield 13) 3 20 := ⟨by decide +kernel, rfl⟩
theorem dX11_moves_20 : ml_d cX11_moves 20 (.iload_n 1) 1 21 := ⟨by decide +kernel, rfl⟩
theorem dX11_moves_21 : ml_d cX11_moves 21 (.iaload) 1 22 := ⟨by decide +kernel, rfl⟩
theorem dX11_moves_22 : ml_j cX11_moves 22 (.ifCond .ge) 31 25 := ⟨9, by decide +kernel, by decide, rfl⟩
theorem dX11_moves_25 : ml_d cX11_moves 25 (.aload_n 0) 1 26 := ⟨by decide +kernel, rfl⟩
theorem dX11_moves_26 : ml_d cX11_moves 26 (.iconst 1) 1 27 := ⟨by decide +kernel, rfl⟩
theorem dX11_moves_27 : ml_d cX11_moves 27 (.invokevirtual 115) 3 30 := ⟨by decide +kernel, rfl⟩
theorem dX11_moves_30 : ml_d cX11_moves 30 (.ireturn) 1 31 := ⟨by decide +kernel, rfl⟩
theorem dX11_moves_31 : ml_d cX11_moves 31 (.aload_n 0) 1 32 := ⟨by decide +kernel, rfl⟩
theorem dX11_moves_32 : ml_d cX11_moves 32 (.getfield 13) 3 35 := ⟨by decide +kernel, rfl⟩
theorem dX11_moves_35 : ml_d cX11_moves 35 (.iload_n 1) 1 36 := ⟨by decide +kernel, rfl⟩
theorem dX11_moves_36 : ml_d cX11_moves 36 (.iaload) 1 37 := ⟨by decide +kernel, rfl⟩
theorem dX11_moves_37 : ml_d cX11_moves 37 (.aload_n 0) 1 38 := ⟨by decide +kernel, rfl⟩
theorem dX11_moves_38 : ml_d cX11_moves 38 (.getfield 175) 3 41 := ⟨by decide +kernel, rfl⟩
theorem dX11_moves_41 : ml_j cX11_moves 41 (.if_icmp .eq) 50 44 := ⟨9, by decide +kernel, by decide, rfl⟩
theorem dX11_moves_44 : ml_d cX11_moves 44 (.aload_n 0) 1 45 := ⟨by decide +kernel, rfl⟩
theorem dX11_moves_45 : ml_d cX11_moves 45 (.iconst 5) 1 46 := ⟨by decide +kernel, rfl⟩
theorem dX11_moves_46 : ml_d cX11_moves 46 (.invokevirtual 115) 3 49 := ⟨by decide +kernel, rfl⟩
theorem dX11_moves_49 : ml_d cX11_moves 49 (.ireturn) 1 50 := ⟨by decide +kernel, rfl⟩
theorem dX11_moves_50 : ml_d cX11_moves 50 (.iconst 1) 1 51 := ⟨by decide +kernel, rfl⟩
theorem dX11_moves_51 : ml_d cX11_moves 51 (.istore_n 3) 1 52 := ⟨by decide +kernel, rfl⟩
theorem dX11_moves_52 : ml_d cX11_moves 52 (.iconst 0) 1 53 := ⟨by decide +kernel, rfl⟩
theorem dX11_moves_53 : ml_d cX11_moves 53 (.istore 4) 2 55 := ⟨by decide +kernel, rfl⟩
theorem dX11_moves_55 : ml_d cX11_moves 55 (.iload 4) 2 57 := ⟨by decide +kernel, rfl⟩
theorem dX11_moves_57 : ml_d cX11_moves 57 (.aload_n 0) 1 58 := ⟨by decide +kernel, rfl⟩
theorem dX11_moves_58 : ml_d cX11_moves 58 (.getfield 175) 3 61 := ⟨by decide +kernel, rfl⟩
theorem dX11_moves_61 : ml_j cX11_moves 61 (.if_icmp .ge) 124 64 := ⟨63, by decide +kernel, by decide, rfl⟩
theorem dX11_moves_64 : ml_d cX11_moves 64 (.iload_n 3) 1 65 := ⟨by decide +kernel, rfl⟩
theorem dX11_moves_65 : ml_j cX11_moves 65 (.ifCond .eq) 124 68 := ⟨59, by decide +kernel, by decide, rfl⟩
theorem dX11_moves_68 : ml_d cX11_moves 68 (.aload_n 0) 1 69 := ⟨by decide +kernel, rfl⟩
theorem dX11_moves_69 : ml_d cX11_moves 69 (.getfield 53) 3 72 := ⟨by decide +kernel, rfl⟩
theorem dX11_moves_72 : ml_d cX11_moves 72 (.iload 4) 2 74 := ⟨by decide +kernel, rfl⟩
theorem dX11_moves_74 : ml_d cX11_moves 74 (.aload_n 0) 1 75 := ⟨by decide +kernel, rfl⟩
theorem dX11_moves_75 : ml_d cX11_moves 75 (.iload_n 1) 1 76 := ⟨by decide +kernel, rfl⟩
theorem dX11_moves_76 : ml_d cX11_moves 76 (.iload 4) 2 78 := ⟨by decide +kernel, rfl⟩
theorem dX11_moves_78 : ml_d cX11_moves 78 (.invokevirtual 119) 3 81 := ⟨by decide +kernel, rfl⟩
theorem dX11_moves_81 : ml_d cX11_moves 81 (.iastore) 1 82 := ⟨by decide +kernel, rfl⟩
theorem dX11_moves_82 : ml_d cX11_moves 82 (.aload_n 0) 1 83 := ⟨by decide +kernel, rfl⟩
theorem dX11_moves_83 : ml_d cX11_moves 83 (.aload_n 0) 1 84 := ⟨by decide +kernel, rfl⟩
theorem dX11_moves_84 : ml_d cX11_moves 84 (.getfield 53) 3 87 := ⟨by decide +kernel, rfl⟩
theorem dX11_moves_87 : ml_d cX11_moves 87 (.iload 4) 2 89 := ⟨by decide +kernel, rfl⟩
theorem dX11_moves_89 : ml_d cX11_moves 89 (.iaload) 1 90 := ⟨by decide +kernel, rfl⟩
theorem dX11_moves_90 : ml_d cX11_moves 90 (.invokevirtual 193) 3 93 := ⟨by decide +kernel, rfl⟩
theorem dX11_moves_93 : ml_j cX11_moves 93 (.ifCond .eq) 116 96 := ⟨23, by decide +kernel, by decide, rfl⟩
theorem dX11_moves_96 : ml_d cX11_moves 96 (.aload_n 0) 1 97 := ⟨by decide +kernel, rfl⟩
theorem dX11_moves_97 : ml_d cX11_moves 97 (.aload_n 0) 1 98 := ⟨by decide +kernel, rfl⟩
theorem dX11_moves_98 : ml_d cX11_moves 98 (.getfield 53) 3 101 := ⟨by decide +kernel, rfl⟩
theorem dX11_moves_101 : ml_d cX11_moves 101 (.iload 4) 2 103 := ⟨by decide +kernel, rfl⟩
theorem dX11_moves_103 : ml_d cX11_moves 103 (.iaload) 1 104 := ⟨by decide +kernel, rfl⟩
theorem dX11_moves_104 : ml_d cX11_moves 104 (.iload 4) 2 106 := ⟨by decide +kernel, rfl⟩
theorem dX11_moves_106 : ml_d cX11_moves 106 (.invokevirtual 280) 3 109 := ⟨by decide +kernel, rfl⟩
theorem dX11_moves_109 : ml_j cX11_moves 109 (.ifCond .ne) 116 112 := ⟨7, by decide +kernel, by decide, rfl⟩
theorem dX11_moves_112 : ml_d cX11_moves 112 (.iconst 1) 1 113 := ⟨by decide +kernel, rfl⟩
theorem dX11_moves_113 : ml_j cX11_moves 113 .goto 117 116 := ⟨4, by decide +kernel, by decide, rfl⟩
theorem dX11_moves_116 : ml_d cX11_moves 116 (.iconst 0) 1 117 := ⟨by decide +kernel, rfl⟩
theorem dX11_moves_117 : ml_d cX11_moves 117 (.istore_n 3) 1 118 := ⟨by decide +kernel, rfl⟩
theorem dX11_moves_118 : ml_d cX11_moves 118 (.iinc 4 1) 3 121 := ⟨by decide +kernel, rfl⟩
theorem dX11_moves_121 : ml_j cX11_moves 121 .goto 55 124 := ⟨(-66), by decide +kernel, by decide, rfl⟩
theorem dX11_moves_124 : ml_d cX11_moves 124 (.iload_n 3) 1 125 := ⟨by decide +kernel, rfl⟩
theorem dX11_moves_125 : ml_j cX11_moves 125 (.ifCond .eq) 135 128 := ⟨10, by decide +kernel, by decide, rfl⟩
theorem dX11_moves_128 : ml_d cX11_moves 128 (.aload_n 0) 1 129 := ⟨by decide +kernel, rfl⟩
theorem dX11_moves_129 : ml_d cX11_moves 129 (.invokevirtual 290) 3 132 := ⟨by decide +kernel, rfl⟩
theorem dX11_moves_132 : ml_j cX11_moves 132 (.ifCond .ne) 141 135 := ⟨9, by decide +kernel, by decide, rfl⟩
theorem dX11_moves_135 : ml_d cX11_moves 135 (.aload_n 0) 1 136 := ⟨by decide +kernel, rfl⟩
theorem dX11_moves_136 : ml_d cX11_moves 136 (.iconst 3) 1 137 := ⟨by decide +kernel, rfl⟩
theorem dX11_moves_137 : ml_d cX11_moves 137 (.invokevirtual 115) 3 140 := ⟨by decide +kernel, rfl⟩
theorem dX11_moves_140 : ml_d cX11_moves 140 (.ireturn) 1 141 := ⟨by decide +kernel, rfl⟩
theorem dX11_moves_141 : ml_d cX11_moves 141 (.iconst 0) 1 142 := ⟨by decide +kernel, rfl⟩
theorem dX11_moves_142 : ml_d cX11_moves 142 (.istore 4) 2 144 := ⟨by decide +kernel, rfl⟩
theorem dX11_moves_144 : ml_d cX11_moves 144 (.aload_n 0) 1 145 := ⟨by decide +kernel, rfl⟩
theorem dX11_moves_145 : ml_d cX11_moves 145 (.iload_n 2) 1 146 := ⟨by decide +kernel, rfl⟩
theorem dX11_moves_146 : ml_d cX11_moves 146 (.iconst 0) 1 147 := ⟨by decide +kernel, rfl⟩
theorem dX11_moves_147 : ml_d cX11_moves 147 (.invokevirtual 272) 3 150 := ⟨by decide +kernel, rfl⟩
theorem dX11_moves_150 : ml_d cX11_moves 150 (.iconst 0) 1 151 := ⟨by decide +kernel, rfl⟩
theorem dX11_moves_151 : ml_d cX11_moves 151 (.istore 5) 2 153 := ⟨by decide +kernel, rfl⟩
theorem dX11_moves_153 : ml_d cX11_moves 153 (.iload 5) 2 155 := ⟨by decide +kernel, rfl⟩
theorem dX11_moves_155 : ml_d cX11_moves 155 (.aload_n 0) 1 156 := ⟨by decide +kernel, rfl⟩
theorem dX11_moves_156 : ml_d cX11_moves 156 (.getfield 181) 3 159 := ⟨by decide +kernel, rfl⟩
theorem dX11_moves_159 : ml_j cX11_moves 159 (.if_icmp .ge) 239 162 := ⟨80, by decide +kernel, by decide, rfl⟩
theorem dX11_moves_162 : ml_d cX11_moves 162 (.aload_n 0) 1 163 := ⟨by decide +kernel, rfl⟩
theorem dX11_moves_163 : ml_d cX11_moves 163 (.iload 5) 2 165 := ⟨by decide +kernel, rfl⟩
theorem dX11_moves_165 : ml_d cX11_moves 165 (.invokevirtual 283) 3 168 := ⟨by decide +kernel, rfl⟩
theorem dX11_moves_168 : ml_j cX11_moves 168 (.ifCond .eq) 233 171 := ⟨65, by decide +kernel, by decide, rfl⟩
theorem dX11_moves_171 : ml_d cX11_moves 171 (.iconst 0) 1 172 := ⟨by decide +kernel, rfl⟩
theorem dX11_moves_172 : ml_d cX11_moves 172 (.istore 6) 2 174 := ⟨by decide +kernel, rfl⟩
theorem dX11_moves_174 : ml_d cX11_moves 174 (.aload_n 0) 1 175 := ⟨by decide +kernel, rfl⟩
theorem dX11_moves_175 : ml_d cX11_moves 175 (.aload_n 0) 1 176 := ⟨by decide +kernel, rfl⟩
theorem dX11_moves_176 : ml_d cX11_moves 176 (.getfield 53) 3 179 := ⟨by decide +kernel, rfl⟩
theorem dX11_moves_179 : ml_d cX11_moves 179 (.iload 6) 2 181 := ⟨by decide +kernel, rfl⟩
theorem dX11_moves_181 : ml_d cX11_moves 181 (.iaload) 1 182 := ⟨by decide +kernel, rfl⟩
theorem dX11_moves_182 : ml_d cX11_moves 182 (.iload 5) 2 184 := ⟨by decide +kernel, rfl⟩
theorem dX11_moves_184 : ml_d cX11_moves 184 (.invokevirtual 242) 3 187 := ⟨by decide +kernel, rfl⟩
theorem dX11_moves_187 : ml_j cX11_moves 187 (.ifCond .ne) 196 190 := ⟨9, by decide +kernel, by decide, rfl⟩
theorem dX11_moves_190 : ml_d cX11_moves 190 (.iinc 6 1) 3 193 := ⟨by decide +kernel, rfl⟩
theorem dX11_moves_193 : ml_j cX11_moves 193 .goto 174 196 := ⟨(-19), by decide +kernel, by decide, rfl⟩
theorem dX11_moves_196 : ml_d cX11_moves 196 (.aload_n 0) 1 197 := ⟨by decide +kernel, rfl⟩
theorem dX11_moves_197 : ml_d cX11_moves 197 (.getfield 16) 3 200 := ⟨by decide +kernel, rfl⟩
theorem dX11_moves_200 : ml_d cX11_moves 200 (.bipush 48) 2 202 := ⟨by decide +kernel, rfl⟩
theorem dX11_moves_202 : ml_d cX11_moves 202 (.iload_n 2) 1 203 := ⟨by decide +kernel, rfl⟩
theorem dX11_moves_203 : ml_d cX11_moves 203 (.imul) 1 204 := ⟨by decide +kernel, rfl⟩
theorem dX11_moves_204 : ml_d cX11_moves 204 (.iconst 2) 1 205 := ⟨by decide +kernel, rfl⟩
theorem dX11_moves_205 : ml_d cX11_moves 205 (.iload 4) 2 207 := ⟨by decide +kernel, rfl⟩
theorem dX11_moves_207 : ml_d cX11_moves 207 (.imul) 1 208 := ⟨by decide +kernel, rfl⟩
theorem dX11_moves_208 : ml_d cX11_moves 208 (.iadd) 1 209 := ⟨by decide +kernel, rfl⟩
theorem dX11_moves_209 : ml_d cX11_moves 209 (.iload 5) 2 211 := ⟨by decide +kernel, rfl⟩
theorem dX11_moves_211 : ml_d cX11_moves 211 (.iastore) 1 212 := ⟨by decide +kernel, rfl⟩
theorem dX11_moves_212 : ml_d cX11_moves 212 (.aload_n 0) 1 213 := ⟨by decide +kernel, rfl⟩
theorem dX11_moves_213 : ml_d cX11_moves 213 (.getfield 16) 3 216 := ⟨by decide +kernel, rfl⟩
theorem dX11_moves_216 : ml_d cX11_moves 216 (.bipush 48) 2 218 := ⟨by decide +kernel, rfl⟩
theorem dX11_moves_218 : ml_d cX11_moves 218 (.iload_n 2) 1 219 := ⟨by decide +kernel, rfl⟩
theorem dX11_moves_219 : ml_d cX11_moves 219 (.imul) 1 220 := ⟨by decide +kernel, rfl⟩
theorem dX11_moves_220 : ml_d cX11_moves 220 (.iconst 2) 1 221 := ⟨by decide +kernel, rfl⟩
theorem dX11_moves_221 : ml_d cX11_moves 221 (.iload 4) 2 223 := ⟨by decide +kernel, rfl⟩
theorem dX11_moves_223 : ml_d cX11_moves 223 (.imul) 1 224 := ⟨by decide +kernel, rfl⟩
theorem dX11_moves_224 : ml_d cX11_moves 224 (.iadd) 1 225 := ⟨by decide +kernel, rfl⟩
theorem dX11_moves_225 : ml_d cX11_moves 225 (.iconst 1) 1 226 := ⟨by decide +kernel, rfl⟩
theorem dX11_moves_226 : ml_d cX11_moves 226 (.iadd) 1 227 := ⟨by decide +kernel, rfl⟩
theorem dX11_moves_227 : ml_d cX11_moves 227 (.iload 6) 2 229 := ⟨by decide +kernel, rfl⟩
theorem dX11_moves_229 : ml_d cX11_moves 229 (.iastore) 1 230 := ⟨by decide +kernel, rfl⟩
theorem dX11_moves_230 : ml_d cX11_moves 230 (.iinc 4 1) 3 233 := ⟨by decide +kernel, rfl⟩
theorem dX11_moves_233 : ml_d cX11_moves 233 (.iinc 5 1) 3 236 := ⟨by decide +kernel, rfl⟩
theorem dX11_moves_236 : ml_j cX11_moves 236 .goto 153 239 := ⟨(-83), by decide +kernel, by decide, rfl⟩
theorem dX11_moves_239 : ml_d cX11_moves 239 (.aload_n 0) 1 240 := ⟨by decide +kernel, rfl⟩
theorem dX11_moves_240 : ml_d cX11_moves 240 (.getfield 13) 3 243 := ⟨by decide +kernel, rfl⟩
theorem dX11_moves_243 : ml_d cX11_moves 243 (.iload_n 2) 1 244 := ⟨by decide +kernel, rfl⟩
theorem dX11_moves_244 : ml_d cX11_moves 244 (.iconst 2) 1 245 := ⟨by decide +kernel, rfl⟩
theorem dX11_moves_245 : ml_d cX11_moves 245 (.iload 4) 2 247 := ⟨by decide +kernel, rfl⟩
theorem dX11_moves_247 : ml_d cX11_moves 247 (.imul) 1 248 := ⟨by decide +kernel, rfl⟩
theorem dX11_moves_248 : ml_d cX11_moves 248 (.iastore) 1 249 := ⟨by decide +kernel, rfl⟩
theorem dX11_moves_249 : ml_d cX11_moves 249 (.iload 4) 2 251 := ⟨by decide +kernel, rfl⟩
theorem dX11_moves_251 : ml_d cX11_moves 251 (.ireturn) 1 252 := ⟨by decide +kernel, rfl⟩
def fX11_moves_117 (k55 : Nat → Int32 → Int32 → Int32 → Int32 → ml_M → Option (Int32 × ml_M)) (l0 : Nat) (l1 : Int32) (l2 : Int32) (l4 : Int32) (t0 : Int32) (m : ml_M) : Option (Int32 × ml_M) :=
    k55 l0 l1 l2 t0 (l4 + (1 : Int32)) m
theorem vX11_moves_117 {E : ml_E} (hL : ml_eL E = 7) {rv : Int32} {rm : ml_M} (hr : ∀ (pc pc' : Nat) (lv : List (Nat × ml_X)), ml_d cX11_moves pc .ireturn 1 pc' → True → ml_V E "LostRoomModel" cX11_moves 7 false rm pc lv [ml_i rv]) {k55 : Nat → Int32 → Int32 → Int32 → Int32 → ml_M → Option (Int32 × ml_M)} (hk55 : ∀ (l0 : Nat) (l1 : Int32) (l2 : Int32) (l3 : Int32) (l4 : Int32) (m : ml_M), k55 l0 l1 l2 l3 l4 m = some (rv, rm) → ml_V E "LostRoomModel" cX11_moves 7 false m 55 [(0, ml_r l0), (1, ml_i l1), (2, ml_i l2), (3, ml_i l3), (4, ml_i l4)] []) : ∀ (l0 : Nat) (l1 : Int32) (l2 : Int32) (l4 : Int32) (t0 : Int32) (m : ml_M), fX11_moves_117 k55 l0 l1 l2 l4 t0 m = some (rv, rm) → ml_V E "LostRoomModel" cX11_moves 7 false m 117 [(0, ml_r l0), (1, ml_i l1), (2, ml_i l2), (4, ml_i l4)] [ml_i t0] := by
  intro l0 l1 l2 l4 t0 m h
  unfold fX11_moves_117 at h
  exact ml_istore_n (lv' := [(3, ml_i t0), (0, ml_r l0), (1, ml_i l1), (2, ml_i l2), (4, ml_i l4)]) dX11_moves_117 (ml_hn hL rfl) rfl <| ml_iinc (lv' := [(4, ml_i (l4 + (1 : Int32))), (3, ml_i t0), (0, ml_r l0), (1, ml_i l1), (2, ml_i l2)]) dX11_moves_118 4 rfl (congrArg (l4 + ·) kc_i1) (ml_hn hL rfl) rfl <| ml_goto dX11_moves_121 <| ml_V.sub [2, 3, 4, 1, 0] rfl (hk55 _ _ _ _ _ _ h)
def fX11_moves_116 (k55 : Nat → Int32 → Int32 → Int32 → Int32 → ml_M → Option (Int32 × ml_M)) (l0 : Nat) (l1 : Int32) (l2 : Int32) (l4 : Int32) (m : ml_M) : Option (Int32 × ml_M) :=
    fX11_moves_117 k55 l0 l1 l2 l4 (0 : Int32) m
theorem vX11_moves_116 {E : ml_E} (hL : ml_eL E = 7) {rv : Int32} {rm : ml_M} (hr : ∀ (pc pc' : Nat) (lv : List (Nat × ml_X)), ml_d cX11_moves pc .ireturn 1 pc' → True → ml_V E "LostRoomModel" cX11_moves 7 false rm pc lv [ml_i rv]) {k55 : Nat → Int32 → Int32 → Int32 → Int32 → ml_M → Option (Int32 × ml_M)} (hk55 : ∀ (l0 : Nat) (l1 : Int32) (l2 : Int32) (l3 : Int32) (l4 : Int32) (m : ml_M), k55 l0 l1 l2 l3 l4 m = some (rv, rm) → ml_V E "LostRoomModel" cX11_moves 7 false m 55 [(0, ml_r l0), (1, ml_i l1), (2, ml_i l2), (3, ml_i l3), (4, ml_i l4)] []) : ∀ (l0 : Nat) (l1 : Int32) (l2 : Int32) (l4 : Int32) (m : ml_M), fX11_moves_116 k55 l0 l1 l2 l4 m = some (rv, rm) → ml_V E "LostRoomModel" cX11_moves 7 false m 116 [(0, ml_r l0), (1, ml_i l1), (2, ml_i l2), (4, ml_i l4)] [] := by
  intro l0 l1 l2 l4 m h
  unfold fX11_moves_116 at h
  exact ml_iconst dX11_moves_116 kc_i0 <| ml_V.sub [0, 1, 2, 3] rfl (vX11_moves_117 hL hr hk55 _ _ _ _ _ _ h)
def fX11_moves_135 (l0 : Nat) (m : ml_M) : Option (Int32 × ml_M) :=
    if (ml_K m l0).1 = 11 then
    ml_b2 (fX11_meets l0 (3 : Int32) m) fun r2740 m2741 =>
    some (r2740, m2741)
    else none
theorem vX11_moves_135 {E : ml_E} (hL : ml_eL E = 7) {rv : Int32} {rm : ml_M} (hr : ∀ (pc pc' : Nat) (lv : List (Nat × ml_X)), ml_d cX11_moves pc .ireturn 1 pc' → True → ml_V E "LostRoomModel" cX11_moves 7 false rm pc lv [ml_i rv]) : ∀ (l0 : Nat) (m : ml_M), fX11_moves_135 l0 m = some (rv, rm) → ml_V E "LostRoomModel" cX11_moves 7 false m 135 [(0, ml_r l0)] [] := by
  intro l0 m h
  unfold fX11_moves_135 at h
  exact ml_aload_n dX11_moves_135 0 rfl <| ml_iconst dX11_moves_136 kc_i3 <| ml_ck_of h fun hc2739 h => ml_b2_of h fun r2740 m2741 hv2738 h => ml_callV dX11_moves_137 wm_144 wb_105 hc2739 (sX11_meets hv2738) rfl (Nat.le_of_ble_eq_true rfl) (Nat.le_of_ble_eq_true rfl) rfl <| ml_rI (mk := ml_i) hr dX11_moves_140 (fun _ => trivial) h
def fX11_moves_233 (k153 : Nat → Int32 → Int32 → Int32 → ml_M → Option (Int32 × ml_M)) (l0 : Nat) (l2 : Int32) (l4 : Int32) (l5 : Int32) (m : ml_M) : Option (Int32 × ml_M) :=
    k153 l0 l2 l4 (l5 + (1 : Int32)) m
theorem vX11_moves_233 {E : ml_E} (hL : ml_eL E = 7) {rv : Int32} {rm : ml_M} (hr : ∀ (pc pc' : Nat) (lv : List (Nat × ml_X)), ml_d cX11_moves pc .ireturn 1 pc' → True → ml_V E "LostRoomModel" cX11_moves 7 false rm pc lv [ml_i rv]) {k153 : Nat → Int32 → Int32 → Int32 → ml_M → Option (Int32 × ml_M)} (hk153 : ∀ (l0 : Nat) (l2 : Int32) (l4 : Int32) (l5 : Int32) (m : ml_M), k153 l0 l2 l4 l5 m = some (rv, rm) → ml_V E "LostRoomModel" cX11_moves 7 false m 153 [(0, ml_r l0), (2, ml_i l2), (4, ml_i l4), (5, ml_i l5)] []) : ∀ (l0 : Nat) (l2 : Int32) (l4 : Int32) (l5 : Int32) (m : ml_M), fX11_moves_233 k153 l0 l2 l4 l5 m = some (rv, rm) → ml_V E "LostRoomModel" cX11_moves 7 false m 233 [(0, ml_r l0), (2, ml_i l2), (4, ml_i l4), (5, ml_i l5)] [] := by
  intro l0 l2 l4 l5 m h
  unfold fX11_moves_233 at h
  exact ml_iinc (lv' := [(5, ml_i (l5 + (1 : Int32))), (0, ml_r l0), (2, ml_i l2), (4, ml_i l4)]) dX11_moves_233 3 rfl (congrArg (l5 + ·) kc_i1) (ml_hn hL rfl) rfl <| ml_goto dX11_moves_236 <| ml_V.sub [1, 2, 3, 0] rfl (hk153 _ _ _ _ _ h)
def fX11_moves_196 (k153 : Nat → Int32 → Int32 → Int32 → ml_M → Option (Int32 × ml_M)) (l0 : Nat) (l2 : Int32) (l4 : Int32) (l5 : Int32) (l6 : Int32) (m : ml_M) : Option (Int32 × ml_M) :=
    if (ml_K m l0).1 = 11 then
    ml_let (ml_R m l0 5) fun a2743 =>
    if ml_in m a2743 20 (((48 : Int32) * l2) + ((2 : Int32) * l4)) then
    ml_let (ml_sI m a2743 (((48 : Int32) * l2) + ((2 : Int32) * l4)).toNatClampNeg l5) fun m2745 =>
    ml_let (ml_R m2745 l0 5) fun a2747 =>
    if ml_in m2745 a2747 20 ((((48 : Int32) * l2) + ((2 : Int32) * l4)) + (1 : Int32)) then
    ml_let (ml_sI m2745 a2747 ((((48 : Int32) * l2) + ((2 : Int32) * l4)) + (1 : Int32)).toNatClampNeg l6) fun m2749 =>
    fX11_moves_233 k153 l0 l2 (l4 + (1 : Int32)) l5 m2749
    else none
    else none
    else none
theorem vX11_moves_196 {E : ml_E} (hL : ml_eL E = 7) {rv : Int32} {rm : ml_M} (hr : ∀ (pc pc' : Nat) (lv : List (Nat × ml_X)), ml_d cX11_moves pc .ireturn 1 pc' → True → ml_V E "LostRoomModel" cX11_moves 7 false rm pc lv [ml_i rv]) {k153 : Nat → Int32 → Int32 → Int32 → ml_M → Option (Int32 × ml_M)} (hk153 : ∀ (l0 : Nat) (l2 : Int32) (l4 : Int32) (l5 : Int32) (m : ml_M), k153 l0 l2 l4 l5 m = some (rv, rm) → ml_V E "LostRoomModel" cX11_moves 7 false m 153 [(0, ml_r l0), (2, ml_i l2), (4, ml_i l4), (5, ml_i l5)] []) : ∀ (l0 : Nat) (l2 : Int32) (l4 : Int32) (l5 : Int32) (l6 : Int32) (m : ml_M), fX11_moves_196 k153 l0 l2 l4 l5 l6 m = some (rv, rm) → ml_V E "LostRoomModel" cX11_moves 7 false m 196 [(0, ml_r l0), (2, ml_i l2), (4, ml_i l4), (5, ml_i l5), (6, ml_i l6)] [] := by
  intro l0 l2 l4 l5 l6 m h
  unfold fX11_moves_196 at h
  exact ml_aload_n dX11_moves_196 0 rfl <| ml_ck_of h fun hc2742 h => ml_getR dX11_moves_197 wb_103 hc2742 <| ml_lx (mk := ml_r) h fun a2743 h => ml_bipush dX11_moves_200 kc_b48 <| ml_iload_n dX11_moves_202 1 rfl <| ml_imul dX11_moves_203 <| ml_iconst dX11_moves_204 kc_i2 <| ml_iload dX11_moves_205 2 rfl <| ml_imul dX11_moves_207 <| ml_iadd dX11_moves_208 <| ml_iload dX11_moves_209 3 rfl <| ml_ck_of h fun hi2744 h => ml_iast dX11_moves_211 hi2744 <| ml_lt (m := m) rfl h fun m2745 em2746 h => ml_aload_n dX11_moves_212 0 rfl <| ml_getR dX11_moves_213 wb_103 (ml_kk em2746 hc2742) <| ml_lx (mk := ml_r) h fun a2747 h => ml_bipush dX11_moves_216 kc_b48 <| ml_iload_n dX11_moves_218 1 rfl <| ml_imul dX11_moves_219 <| ml_iconst dX11_moves_220 kc_i2 <| ml_iload dX11_moves_221 2 rfl <| ml_imul dX11_moves_223 <| ml_iadd dX11_moves_224 <| ml_iconst dX11_moves_225 kc_i1 <| ml_iadd dX11_moves_226 <| ml_iload dX11_moves_227 4 rfl <| ml_ck_of h fun hi2748 h => ml_iast dX11_moves_229 hi2748 <| ml_lt (m := m2745) rfl h fun m2749 em2750 h => ml_iinc (lv' := [(4, ml_i (l4 + (1 : Int32))), (0, ml_r l0), (2, ml_i l2), (5, ml_i l5), (6, ml_i l6)]) dX11_moves_230 2 rfl (congrArg (l4 + ·) kc_i1) (ml_hn hL rfl) rfl <| ml_V.sub [1, 2, 0, 3] rfl (vX11_moves_233 hL hr hk153 _ _ _ _ _ h)
def fX11_moves_174 (k153 : Nat → Int32 → Int32 → Int32 → ml_M → Option (Int32 × ml_M)) : Nat → Nat → Int32 → Int32 → Int32 → Int32 → ml_M → Option (Int32 × ml_M)
  | 0, _, _, _, _, _, _ => none
  | fu + 1, l0, l2, l4, l5, l6, m =>
    if (ml_K m l0).1 = 11 then
    ml_let (ml_R m l0 27) fun a2752 =>
    if ml_in m a2752 20 l6 then
    ml_b1 (fX11_mayHave l0 (ml_I m a2752 l6.toNatClampNeg) l5 m) fun r2755 =>
    if r2755 = 0 then
    (fX11_moves_174 k153 fu) l0 l2 l4 l5 (l6 + (1 : Int32)) m
    else
    fX11_moves_196 k153 l0 l2 l4 l5 l6 m
    else none
    else none
theorem vX11_moves_174 {E : ml_E} (hL : ml_eL E = 7) {rv : Int32} {rm : ml_M} (hr : ∀ (pc pc' : Nat) (lv : List (Nat × ml_X)), ml_d cX11_moves pc .ireturn 1 pc' → True → ml_V E "LostRoomModel" cX11_moves 7 false rm pc lv [ml_i rv]) {k153 : Nat → Int32 → Int32 → Int32 → ml_M → Option (Int32 × ml_M)} (hk153 : ∀ (l0 : Nat) (l2 : Int32) (l4 : Int32) (l5 : Int32) (m : ml_M), k153 l0 l2 l4 l5 m = some (rv, rm) → ml_V E "LostRoomModel" cX11_moves 7 false m 153 [(0, ml_r l0), (2, ml_i l2), (4, ml_i l4), (5, ml_i l5)] []) : ∀ (fu : Nat) (l0 : Nat) (l2 : Int32) (l4 : Int32) (l5 : Int32) (l6 : Int32) (m : ml_M), fX11_moves_174 k153 fu l0 l2 l4 l5 l6 m = some (rv, rm) → ml_V E "LostRoomModel" cX11_moves 7 false m 174 [(0, ml_r l0), (2, ml_i l2), (4, ml_i l4), (5, ml_i l5), (6, ml_i l6)] [] := by
  intro fu
  induction fu with
  | zero => intro l0 l2 l4 l5 l6 m h; exact ml_none h
  | succ fu ih =>
    intro l0 l2 l4 l5 l6 m h
    have hk174 := ih
    unfold fX11_moves_174 at h
    exact ml_aload_n dX11_moves_174 0 rfl <| ml_aload_n dX11_moves_175 0 rfl <| ml_ck_of h fun hc2751 h => ml_getR dX11_moves_176 wb_352 hc2751 <| ml_lx (mk := ml_r) h fun a2752 h => ml_iload dX11_moves_179 4 rfl <| ml_ck_of h fun hi2753 h => ml_iald dX11_moves_181 hi2753 <| ml_iload dX11_moves_182 3 rfl <| ml_b1_of h fun r2755 hv2754 h => ml_callV dX11_moves_184 wm_447 wb_284 hc2751 (sX11_mayHave hv2754) rfl (Nat.le_of_ble_eq_true rfl) (Nat.le_of_ble_eq_true rfl) rfl <| ml_if_ne dX11_moves_187 h (fun _ h => ml_V.sub [0, 1, 2, 3, 4] rfl (vX11_moves_196 hL hr hk153 _ _ _ _ _ _ h)) (fun _ h => ml_iinc (lv' := [(6, ml_i (l6 + (1 : Int32))), (0, ml_r l0), (2, ml_i l2), (4, ml_i l4), (5, ml_i l5)]) dX11_moves_190 4 rfl (congrArg (l6 + ·) kc_i1) (ml_hn hL rfl) rfl <| ml_goto dX11_moves_193 <| ml_V.sub [1, 2, 3, 4, 0] rfl (hk174 _ _ _ _ _ _ h))
def fX11_moves_239 (l0 : Nat) (l2 : Int32) (l4 : Int32) (m : ml_M) : Option (Int32 × ml_M) :=
    if (ml_K m l0).1 = 11 then
    ml_let (ml_R m l0 4) fun a2757 =>
    if ml_in m a2757 20 l2 then
    ml_let (ml_sI m a2757 l2.toNatClampNeg ((2 : Int32) * l4)) fun m2759 =>
    some (l4, m2759)
    else none
    else none
theorem vX11_moves_239 {E : ml_E} (hL : ml_eL E = 7) {rv : Int32} {rm : ml_M} (hr : ∀ (pc pc' : Nat) (lv : List (Nat × ml_X)), ml_d cX11_moves pc .ireturn 1 pc' → True → ml_V E "LostRoomModel" cX11_moves 7 false rm pc lv [ml_i rv]) : ∀ (l0 : Nat) (l2 : Int32) (l4 : Int32) (m : ml_M), fX11_moves_239 l0 l2 l4 m = some (rv, rm) → ml_V E "LostRoomModel" cX11_moves 7 false m 239 [(0, ml_r l0), (2, ml_i l2), (4, ml_i l4)] [] := by
  intro l0 l2 l4 m h
  unfold fX11_moves_239 at h
  exact ml_aload_n dX11_moves_239 0 rfl <| ml_ck_of h fun hc2756 h => ml_getR dX11_moves_240 wb_64 hc2756 <| ml_lx (mk := ml_r) h fun a2757 h => ml_iload_n dX11_moves_243 1 rfl <| ml_iconst dX11_moves_244 kc_i2 <| ml_iload dX11_moves_245 2 rfl <| ml_imul dX11_moves_247 <| ml_ck_of h fun hi2758 h => ml_iast dX11_moves_248 hi2758 <| ml_lt (m := m) rfl h fun m2759 em2760 h => ml_iload dX11_moves_249 2 rfl <| ml_rI (mk := ml_i) hr dX11_moves_251 (fun _ => trivial) h
def fX11_moves_153 : Nat → Nat → Int32 → Int32 → Int32 → ml_M → Option (Int32 × ml_M)
  | 0, _, _, _, _, _ => none
  | fu + 1, l0, l2, l4, l5, m =>
    if (ml_K m l0).1 = 11 then
    if (ml_I m l0 24) ≤ l5 then
    fX11_moves_239 l0 l2 l4 m
    else
    ml_b1 (fX11_isMoved l0 l5 m) fun r2763 =>
    if r2763 = 0 then
    fX11_moves_233 (fX11_moves_153 fu) l0 l2 l4 l5 m
    else
    fX11_moves_174 (fX11_moves_153 fu) ml_fu l0 l2 l4 l5 (0 : Int32) m
    else none
theorem vX11_moves_153 {E : ml_E} (hL : ml_eL E = 7) {rv : Int32} {rm : ml_M} (hr : ∀ (pc pc' : Nat) (lv : List (Nat × ml_X)), ml_d cX11_moves pc .ireturn 1 pc' → True → ml_V E "LostRoomModel" cX11_moves 7 false rm pc lv [ml_i rv]) : ∀ (fu : Nat) (l0 : Nat) (l2 : Int32) (l4 : Int32) (l5 : Int32) (m : ml_M), fX11_moves_153 fu l0 l2 l4 l5 m = some (rv, rm) → ml_V E "LostRoomModel" cX11_moves 7 false m 153 [(0, ml_r l0), (2, ml_i l2), (4, ml_i l4), (5, ml_i l5)] [] := by
  intro fu
  induction fu with
  | zero => intro l0 l2 l4 l5 m h; exact ml_none h
  | succ fu ih =>
    intro l0 l2 l4 l5 m h
    have hk153 := ih
    unfold fX11_moves_153 at h
    exact ml_iload dX11_moves_153 3 rfl <| ml_aload_n dX11_moves_155 0 rfl <| ml_ck_of h fun hc2761 h => ml_getI dX11_moves_156 wb_228 hc2761 <| ml_icmp_ge dX11_moves_159 h (fun _ h => ml_V.sub [0, 1, 2] rfl (vX11_moves_239 hL hr  _ _ _ _ h)) (fun _ h => ml_aload_n dX11_moves_162 0 rfl <| ml_iload dX11_moves_163 3 rfl <| ml_b1_of h fun r2763 hv2762 h => ml_callV dX11_moves_165 wm_587 wb_356 hc2761 (sX11_isMoved hv2762) rfl (Nat.le_of_ble_eq_true rfl) (Nat.le_of_ble_eq_true rfl) rfl <| ml_if_eq dX11_moves_168 h (fun _ h => ml_V.sub [0, 1, 2, 3] rfl (vX11_moves_233 hL hr hk153 _ _ _ _ _ h)) (fun _ h => ml_iconst dX11_moves_171 kc_i0 <| ml_istore (lv' := [(6, ml_i (0 : Int32)), (0, ml_r l0), (2, ml_i l2), (4, ml_i l4), (5, ml_i l5)]) dX11_moves_172 (ml_hn hL rfl) rfl <| ml_V.sub [1, 2, 3, 4, 0] rfl (vX11_moves_174 hL hr hk153 ml_fu _ _ _ _ _ _ h)))
def fX11_moves_124 (l0 : Nat) (l2 : Int32) (l3 : Int32) (m : ml_M) : Option (Int32 × ml_M) :=
    if l3 = 0 then
    fX11_moves_135 l0 m
    else
    if (ml_K m l0).1 = 11 then
    ml_b1 (fX11_isSharing l0 m) fun r2766 =>
    if r2766 = 0 then
    fX11_moves_135 l0 m
    else
    ml_b1 (fX11_clear l0 l2 (0 : Int32) m) fun m2768 =>
    fX11_moves_153 ml_fu l0 l2 (0 : Int32) (0 : Int32) m2768
    else none
theorem vX11_moves_124 {E : ml_E} (hL : ml_eL E = 7) {rv : Int32} {rm : ml_M} (hr : ∀ (pc pc' : Nat) (lv : List (Nat × ml_X)), ml_d cX11_moves pc .ireturn 1 pc' → True → ml_V E "LostRoomModel" cX11_moves 7 false rm pc lv [ml_i rv]) : ∀ (l0 : Nat) (l2 : Int32) (l3 : Int32) (m : ml_M), fX11_moves_124 l0 l2 l3 m = some (rv, rm) → ml_V E "LostRoomModel" cX11_moves 7 false m 124 [(0, ml_r l0), (2, ml_i l2), (3, ml_i l3)] [] := by
  intro l0 l2 l3 m h
  unfold fX11_moves_124 at h
  exact ml_iload_n dX11_moves_124 2 rfl <| ml_if_eq dX11_moves_125 h (fun _ h => ml_V.sub [0] rfl (vX11_moves_135 hL hr  _ _ h)) (fun _ h => ml_aload_n dX11_moves_128 0 rfl <| ml_ck_of h fun hc2765 h => ml_b1_of h fun r2766 hv2764 h => ml_callV dX11_moves_129 wm_595 wb_358 hc2765 (sX11_isSharing hv2764) rfl (Nat.le_of_ble_eq_true rfl) (Nat.le_of_ble_eq_true rfl) rfl <| ml_if_ne dX11_moves_132 h (fun _ h => ml_iconst dX11_moves_141 kc_i0 <| ml_istore (lv' := [(4, ml_i (0 : Int32)), (0, ml_r l0), (2, ml_i l2), (3, ml_i l3)]) dX11_moves_142 (ml_hn hL rfl) rfl <| ml_aload_n dX11_moves_144 1 rfl <| ml_iload_n dX11_moves_145 2 rfl <| ml_iconst dX11_moves_146 kc_i0 <| ml_b1_of h fun m2768 hv2767 h => ml_callV dX11_moves_147 wm_525 wb_311 hc2765 (sX11_clear hv2767) rfl (Nat.le_of_ble_eq_true rfl) (Nat.le_of_ble_eq_true rfl) rfl <| ml_iconst dX11_moves_150 kc_i0 <| ml_istore (lv' := [(5, ml_i (0 : Int32)), (4, ml_i (0 : Int32)), (0, ml_r l0), (2, ml_i l2), (3, ml_i l3)]) dX11_moves_151 (ml_hn hL rfl) rfl <| ml_V.sub [2, 3, 1, 0] rfl (vX11_moves_153 hL hr  ml_fu _ _ _ _ _ h)) (fun _ h => ml_V.sub [0] rfl (vX11_moves_135 hL hr  _ _ h)))
def fX11_moves_55 : Nat → Nat → Int32 → Int32 → Int32 → Int32 → ml_M → Option (Int32 × ml_M)
  | 0, _, _, _, _, _, _ => none
  | fu + 1, l0, l1, l2, l3, l4, m =>
    if (ml_K m l0).1 = 11 then
    if (ml_I m l0 10) ≤ l4 then
    fX11_moves_124 l0 l2 l3 m
    else
    if l3 = 0 then
    fX11_moves_124 l0 l2 l3 m
    else
    ml_let (ml_R m l0 27) fun a2770 =>
    ml_b1 (fX11_rowAt l0 l1 l4 m) fun r2772 =>
    if ml_in m a2770 20 l4 then
    ml_let (ml_sI m a2770 l4.toNatClampNeg r2772) fun m2774 =>
    ml_let (ml_R m2774 l0 27) fun a2776 =>
    if ml_in m2774 a2776 20 l4 then
    ml_b1 (fX11_isLodger l0 (ml_I m2774 a2776 l4.toNatClampNeg) m2774) fun r2779 =>
    if r2779 = 0 then
    fX11_moves_116 (fX11_moves_55 fu) l0 l1 l2 l4 m2774
    else
    ml_let (ml_R m2774 l0 27) fun a2780 =>
    if ml_in m2774 a2780 20 l4 then
    ml_b1 (fX11_isTaken l0 (ml_I m2774 a2780 l4.toNatClampNeg) l4 m2774) fun r2783 =>
    if r2783 = 0 then
    fX11_moves_117 (fX11_moves_55 fu) l0 l1 l2 l4 (1 : Int32) m2774
    else
    fX11_moves_116 (fX11_moves_55 fu) l0 l1 l2 l4 m2774
    else none
    else none
    else none
    else none
theorem vX11_moves_55 {E : ml_E} (hL : ml_eL E = 7) {rv : Int32} {rm : ml_M} (hr : ∀ (pc pc' : Nat) (lv : List (Nat × ml_X)), ml_d cX11_moves pc .ireturn 1 pc' → True → ml_V E "LostRoomModel" cX11_moves 7 false rm pc lv [ml_i rv]) : ∀ (fu : Nat) (l0 : Nat) (l1 : Int32) (l2 : Int32) (l3 : Int32) (l4 : Int32) (m : ml_M), fX11_moves_55 fu l0 l1 l2 l3 l4 m = some (rv, rm) → ml_V E "LostRoomModel" cX11_moves 7 false m 55 [(0, ml_r l0), (1, ml_i l1), (2, ml_i l2), (3, ml_i l3), (4, ml_i l4)] [] := by
  intro fu
  induction fu with
  | zero => intro l0 l1 l2 l3 l4 m h; exact ml_none h
  | succ fu ih =>
    intro l0 l1 l2 l3 l4 m h
    have hk55 := ih
    unfold fX11_moves_55 at h
    exact ml_iload dX11_moves_55 4 rfl <| ml_aload_n dX11_moves_57 0 rfl <| ml_ck_of h fun hc2769 h => ml_getI dX11_moves_58 wb_196 hc2769 <| ml_icmp_ge dX11_moves_61 h (fun _ h => ml_V.sub [0, 2, 3] rfl (vX11_moves_124 hL hr  _ _ _ _ h)) (fun _ h => ml_iload_n dX11_moves_64 3 rfl <| ml_if_eq dX11_moves_65 h (fun _ h => ml_V.sub [0, 2, 3] rfl (vX11_moves_124 hL hr  _ _ _ _ h)) (fun _ h => ml_aload_n dX11_moves_68 0 rfl <| ml_getR dX11_moves_69 wb_352 hc2769 <| ml_lx (mk := ml_r) h fun a2770 h => ml_iload dX11_moves_72 4 rfl <| ml_aload_n dX11_moves_74 0 rfl <| ml_iload_n dX11_moves_75 1 rfl <| ml_iload dX11_moves_76 4 rfl <| ml_b1_of h fun r2772 hv2771 h => ml_callV dX11_moves_78 wm_154 wb_109 hc2769 (sX11_rowAt hv2771) rfl (Nat.le_of_ble_eq_true rfl) (Nat.le_of_ble_eq_true rfl) rfl <| ml_ck_of h fun hi2773 h => ml_iast dX11_moves_81 hi2773 <| ml_lt (m := m) rfl h fun m2774 em2775 h => ml_aload_n dX11_moves_82 0 rfl <| ml_aload_n dX11_moves_83 0 rfl <| ml_getR dX11_moves_84 wb_352 (ml_kk em2775 hc2769) <| ml_lx (mk := ml_r) h fun a2776 h => ml_iload dX11_moves_87 4 rfl <| ml_ck_of h fun hi2777 h => ml_iald dX11_moves_89 hi2777 <| ml_b1_of h fun r2779 hv2778 h => ml_callV dX11_moves_90 wm_304 wb_216 (ml_kk em2775 hc2769) (sX11_isLodger hv2778) rfl (Nat.le_of_ble_eq_true rfl) (Nat.le_of_ble_eq_true rfl) rfl <| ml_if_eq dX11_moves_93 h (fun _ h => ml_V.sub [0, 1, 2, 4] rfl (vX11_moves_116 hL hr hk55 _ _ _ _ _ h)) (fun _ h => ml_aload_n dX11_moves_96 0 rfl <| ml_aload_n dX11_moves_97 0 rfl <| ml_getR dX11_moves_98 wb_352 (ml_kk em2775 hc2769) <| ml_lx (mk := ml_r) h fun a2780 h => ml_iload dX11_moves_101 4 rfl <| ml_ck_of h fun hi2781 h => ml_iald dX11_moves_103 hi2781 <| ml_iload dX11_moves_104 4 rfl <| ml_b1_of h fun r2783 hv2782 h => ml_callV dX11_moves_106 wm_583 wb_354 (ml_kk em2775 hc2769) (sX11_isTaken hv2782) rfl (Nat.le_of_ble_eq_true rfl) (Nat.le_of_ble_eq_true rfl) rfl <| ml_if_ne dX11_moves_109 h (fun _ h => ml_V.sub [0, 1, 2, 4] rfl (vX11_moves_116 hL hr hk55 _ _ _ _ _ h)) (fun _ h => ml_iconst dX11_moves_112 kc_i1 <| ml_goto dX11_moves_113 <| ml_V.sub [0, 1, 2, 4] rfl (vX11_moves_117 hL hr hk55 _ _ _ _ _ _ h)))))
def fX11_moves (l0 : Nat) (l1 : Int32) (l2 : Int32) (m : ml_M) : Option (Int32 × ml_M) :=
    ml_b1 (fX11_isRow l1 m) fun r2785 =>
    if r2785 = 0 then
    some ((-1 : Int32), m)
    else
    ml_b1 (fX11_isRow l2 m) fun r2787 =>
    if r2787 = 0 then
    some ((-1 : Int32), m)
    else
    if (ml_K m l0).1 = 11 then
    ml_let (ml_R m l0 4) fun a2789 =>
    if ml_in m a2789 20 l1 then
    if 0 ≤ (ml_I m a2789 l1.toNatClampNeg) then
    ml_let (ml_R m l0 4) fun a2791 =>
    if ml_in m a2791 20 l1 then
    if (ml_I m a2791 l1.toNatClampNeg) = (ml_I m l0 10) then
    fX11_moves_55 ml_fu l0 l1 l2 (1 : Int32) (0 : Int32) m
    else
    ml_b2 (fX11_meets l0 (5 : Int32) m) fun r2794 m2795 =>
    some (r2794, m2795)
    else none
    else
    ml_b2 (fX11_meets l0 (1 : Int32) m) fun r2797 m2798 =>
    some (r2797, m2798)
    else none
    else none
theorem wX11_moves_0 {E : ml_E} (hL : ml_eL E = 7) {rv : Int32} {rm : ml_M} (hr : ∀ (pc pc' : Nat) (lv : List (Nat × ml_X)), ml_d cX11_moves pc .ireturn 1 pc' → True → ml_V E "LostRoomModel" cX11_moves 7 false rm pc lv [ml_i rv]) : ∀ (l0 : Nat) (l1 : Int32) (l2 : Int32) (m : ml_M), fX11_moves l0 l1 l2 m = some (rv, rm) → ml_V E "LostRoomModel" cX11_moves 7 false m 0 [(0, ml_r l0), (1, ml_i l1), (2, ml_i l2)] [] := by
  intro l0 l1 l2 m h
  unfold fX11_moves at h
  exact ml_iload_n dX11_moves_0 1 rfl <| ml_b1_of h fun r2785 hv2784 h => ml_callS dX11_moves_1 wm_140 wb_104 (sX11_isRow hv2784) rfl (Nat.le_of_ble_eq_true rfl) (Nat.le_of_ble_eq_true rfl) rfl <| ml_if_eq dX11_moves_4 h (fun _ h => ml_iconst dX11_moves_14 kc_im1 <| ml_rI (mk := ml_i) hr dX11_moves_15 (fun _ => trivial) h) (fun _ h => ml_iload_n dX11_moves_7 2 rfl <| ml_b1_of h fun r2787 hv2786 h => ml_callS dX11_moves_8 wm_140 wb_104 (sX11_isRow hv2786) rfl (Nat.le_of_ble_eq_true rfl) (Nat.le_of_ble_eq_true rfl) rfl <| ml_if_ne dX11_moves_11 h (fun _ h => ml_aload_n dX11_moves_16 0 rfl <| ml_ck_of h fun hc2788 h => ml_getR dX11_moves_17 wb_64 hc2788 <| ml_lx (mk := ml_r) h fun a2789 h => ml_iload_n dX11_moves_20 1 rfl <| ml_ck_of h fun hi2790 h => ml_iald dX11_moves_21 hi2790 <| ml_if_ge dX11_moves_22 h (fun _ h => ml_aload_n dX11_moves_31 0 rfl <| ml_getR dX11_moves_32 wb_64 hc2788 <| ml_lx (mk := ml_r) h fun a2791 h => ml_iload_n dX11_moves_35 1 rfl <| ml_ck_of h fun hi2792 h => ml_iald dX11_moves_36 hi2792 <| ml_aload_n dX11_moves_37 0 rfl <| ml_getI dX11_moves_38 wb_196 hc2788 <| ml_icmp_eq dX11_moves_41 h (fun _ h => ml_iconst dX11_moves_50 kc_i1 <| ml_istore_n (lv' := [(3, ml_i (1 : Int32)), (0, ml_r l0), (1, ml_i l1), (2, ml_i l2)]) dX11_moves_51 (ml_hn hL rfl) rfl <| ml_iconst dX11_moves_52 kc_i0 <| ml_istore (lv' := [(4, ml_i (0 : Int32)), (3, ml_i (1 : Int32)), (0, ml_r l0), (1, ml_i l1), (2, ml_i l2)]) dX11_moves_53 (ml_hn hL rfl) rfl <| ml_V.sub [2, 3, 4, 1, 0] rfl (vX11_moves_55 hL hr  ml_fu _ _ _ _ _ _ h)) (fun _ h => ml_aload_n dX11_moves_44 0 rfl <| ml_iconst dX11_moves_45 kc_i5 <| ml_b2_of h fun r2794 m2795 hv2793 h => ml_callV dX11_moves_46 wm_144 wb_105 hc2788 (sX11_meets hv2793) rfl (Nat.le_of_ble_eq_true rfl) (Nat.le_of_ble_eq_true rfl) rfl <| ml_rI (mk := ml_i) hr dX11_moves_49 (fun _ => trivial) h)) (fun _ h => ml_aload_n dX11_moves_25 0 rfl <| ml_iconst dX11_moves_26 kc_i1 <| ml_b2_of h fun r2797 m2798 hv2796 h => ml_callV dX11_moves_27 wm_144 wb_105 hc2788 (sX11_meets hv2796) rfl (Nat.le_of_ble_eq_true rfl) (Nat.le_of_ble_eq_true rfl) rfl <| ml_rI (mk := ml_i) hr dX11_moves_30 (fun _ => trivial) h)) (fun _ h => ml_iconst dX11_moves_14 kc_im1 <| ml_rI (mk := ml_i) hr dX11_moves_15 (fun _ => trivial) h))
theorem sX11_moves {l0 : Nat} {l1 : Int32} {l2 : Int32} {m : ml_M} {rv : Int32} {rm : ml_M} (h : fX11_moves l0 l1 l2 m = some (rv, rm)) : ml_Sn yX11_moves cX11_moves 7 (some .int) 7 [ml_r l0, ml_i l1, ml_i l2] m (some (ml_i rv)) rm :=
  ml_Sn_of (P := True) (ini := false) (by decide +kernel) (Nat.le_of_ble_eq_true rfl) (fun h => by cases h) (fun _ => ml_RkI rv) fun E hL hr => wX11_moves_0 hL hr _ _ _ _ h
theorem dX5_init_0 : ml_d cX5_init 0 (.aload_n 0) 1 1 := ⟨by decide +kernel, rfl⟩
theorem dX5_init_1 : ml_d cX5_init 1 (.invokespecial 1) 3 4 := ⟨by decide +kernel, rfl⟩
theorem dX5_init_4 : ml_d cX5_init 4 (.aload_n 0) 1 5 := ⟨by decide +kernel, rfl⟩
theorem dX5_init_5 : ml_d cX5_init 5 (.iload_n 1) 1 6 := ⟨by decide +kernel, rfl⟩
theorem dX5_init_6 : ml_d cX5_init 6 (.putfield 7) 3 9 := ⟨by decide +kernel, rfl⟩
theorem dX5_init_9 : ml_d cX5_init 9 (.aload_n 0) 1 10 := ⟨by decide +kernel, rfl⟩
theorem dX5_init_10 : ml_d cX5_init 10 (.iload_n 2) 1 11 := ⟨by decide +kernel, rfl⟩
theorem dX5_init_11 : ml_d cX5_init 11 (.putfield 13) 3 14 := ⟨by decide +kernel, rfl⟩
theorem dX5_init_14 : ml_d cX5_init 14 (.aload_n 0) 1 15 := ⟨by decide +kernel, rfl⟩
theorem dX5_init_15 : ml_d cX5_init 15 (.iload_n 3) 1 16 := ⟨by decide +kernel, rfl⟩
theorem dX5_init_16 : ml_d cX5_init 16 (.putfield 16) 3 19 := ⟨by decide +kernel, rfl⟩
theorem dX5_init_19 : ml_d cX5_init 19 (.return_) 1 20 := ⟨by decide +kernel, rfl⟩
def fX5_init (l0 : Nat) (l1 : Int32) (l2 : Int32) (l3 : Int32) (m : ml_M) : Option ml_M :=
    if l0 ≠ 0 then
    if (ml_K m l0).1 = 5 then
    ml_let (ml_sI m l0 0 l1) fun m2801 =>
    ml_let (ml_sI m2801 l0 1 l2) fun m2803 =>
    ml_let (ml_sI m2803 l0 2 l3) fun m2805 =>
    some m2805
    else none
    else none
theorem wX5_init_0 {E : ml_E} (hL : ml_eL E = 4) {rm : ml_M} (hr : ∀ (pc pc' : Nat) (lv : List (Nat × ml_X)), ml_d cX5_init pc .return_ 1 pc' → True → ml_V E "LostRoom$Line" cX5_init 2 true rm pc lv []) : ∀ (l0 : Nat) (l1 : Int32) (l2 : Int32) (l3 : Int32) (m : ml_M), fX5_init l0 l1 l2 l3 m = some rm → ml_V E "LostRoom$Line" cX5_init 2 true m 0 [(0, ml_r l0), (1, ml_i l1), (2, ml_i l2), (3, ml_i l3)] [] := by
  intro l0 l1 l2 l3 m h
  unfold fX5_init at h
  exact ml_aload_n dX5_init_0 0 rfl <| ml_ck_of h fun hz2799 h => ml_objInit dX5_init_1 wb_376 (Nat.le_of_ble_eq_true rfl) (Nat.le_of_ble_eq_true rfl) hz2799 <| ml_aload_n dX5_init_4 0 rfl <| ml_iload_n dX5_init_5 1 rfl <| ml_ck_of h fun hc2800 h => ml_putI dX5_init_6 wb_377 hc2800 <| ml_lt (m := m) rfl h fun m2801 em2802 h => ml_aload_n dX5_init_9 0 rfl <| ml_iload_n dX5_init_10 2 rfl <| ml_putI dX5_init_11 wb_378 (ml_kk em2802 hc2800) <| ml_lt (m := m2801) rfl h fun m2803 em2804 h => ml_aload_n dX5_init_14 0 rfl <| ml_iload_n dX5_init_15 3 rfl <| ml_putI dX5_init_16 wb_379 (ml_kk em2804 (ml_kk em2802 hc2800)) <| ml_lt (m := m2803) rfl h fun m2805 em2806 h => ml_rv hr dX5_init_19 trivial h
theorem sX5_init {l0 : Nat} {l1 : Int32} {l2 : Int32} {l3 : Int32} {m : ml_M} {rm : ml_M} (h : fX5_init l0 l1 l2 l3 m = some rm) : ml_Sn yX5_init cX5_init 4 none 2 [ml_r l0, ml_i l1, ml_i l2, ml_i l3] m none rm :=
  ml_Sn_of (P := True) (ini := true) (by decide +kernel) (Nat.le_of_ble_eq_true rfl) (fun _ => rfl) (fun _ => ml_RkV) fun E hL hr => wX5_init_0 hL hr _ _ _ _ _ h
theorem dX10_line_0 : ml_d cX10_line 0 (.iload_n 1) 1 1 := ⟨by decide +kernel, rfl⟩
theorem dX10_line_1 : ml_d cX10_line 1 (.iconst 0) 1 2 := ⟨by decide +kernel, rfl⟩
theorem dX10_line_2 : ml_d cX10_line 2 (.bipush 20) 2 4 := ⟨by decide +kernel, rfl⟩
theorem dX10_line_4 : ml_d cX10_line 4 (.invokestatic 138) 3 7 := ⟨by decide +kernel, rfl⟩
theorem dX10_line_7 : ml_j cX10_line 7 (.ifCond .eq) 18 10 := ⟨11, by decide +kernel, by decide, rfl⟩
theorem dX10_line_10 : ml_d cX10_line 10 (.iload_n 2) 1 11 := ⟨by decide +kernel, rfl⟩
theorem dX10_line_11 : ml_d cX10_line 11 (.iload_n 3) 1 12 := ⟨by decide +kernel, rfl⟩
theorem dX10_line_12 : ml_d cX10_line 12 (.invokestatic 154) 3 15 := ⟨by decide +kernel, rfl⟩
theorem dX10_line_15 : ml_j cX10_line 15 (.ifCond .ne) 20 18 := ⟨5, by decide +kernel, by decide, rfl⟩
theorem dX10_line_18 : ml_d cX10_line 18 (.iconst (-1)) 1 19 := ⟨by decide +kernel, rfl⟩
theorem dX10_line_19 : ml_d cX10_line 19 (.ireturn) 1 20 := ⟨by decide +kernel, rfl⟩
theorem dX10_line_20 : ml_d cX10_line 20 (.aload_n 0) 1 21 := ⟨by decide +kernel, rfl⟩
theorem dX10_line_21 : ml_d cX10_line 21 (.getfield 121) 3 24 := ⟨by decide +kernel, rfl⟩
theorem dX10_line_24 : ml_d cX10_line 24 (.bipush 8) 2 26 := ⟨by decide +kernel, rfl⟩
theorem dX10_line_26 : ml_j cX10_line 26 (.if_icmp .lt) 32 29 := ⟨6, by decide +kernel, by decide, rfl⟩
theorem dX10_line_29 : ml_d cX10_line 29 (.bipush (-2)) 2 31 := ⟨by decide +kernel, rfl⟩
theorem dX10_line_31 : ml_d cX10_line 31 (.ireturn) 1 32 := ⟨by decide +kernel, rfl⟩
theorem dX10_line_32 : ml_d cX10_line 32 (.aload_n 0) 1 33 := ⟨by decide +kernel, rfl⟩
theorem dX10_line_33 : ml_d cX10_line 33 (.getfield 42) 3 36 := ⟨by decide +kernel, rfl⟩
theorem dX10_line_36 : ml_d cX10_line 36 (.aload_n 0) 1 37 := ⟨by decide +kernel, rfl⟩
theorem dX10_line_37 : ml_d cX10_line 37 (.getfield 121) 3 40 := ⟨by decide +kernel, rfl⟩
theorem dX10_line_40 : ml_d cX10_line 40 (.new 40) 3 43 := ⟨by decide +kernel, rfl⟩
theorem dX10_line_43 : ml_d cX10_line 43 (.dup) 1 44 := ⟨by decide +kernel, rfl⟩
theorem dX10_line_44 : ml_d cX10_line 44 (.iload_n 1) 1 45 := ⟨by decide +kernel, rfl⟩
theorem dX10_line_45 : ml_d cX10_line 45 (.iload_n 2) 1 46 := ⟨by decide +kernel, rfl⟩
theorem dX10_line_46 : ml_d cX10_line 46 (.iload_n 3) 1 47 := ⟨by decide +kernel, rfl⟩
theorem dX10_line_47 : ml_d cX10_line 47 (.invokespecial 270) 3 50 := ⟨by decide +kernel, rfl⟩
theorem dX10_line_50 : ml_d cX10_line 50 (.aastore) 1 51 := ⟨by decide +kernel, rfl⟩
theorem dX10_line_51 : ml_d cX10_line 51 (.aload_n 0) 1 52 := ⟨by decide +kernel, rfl⟩
theorem dX10_line_52 : ml_d cX10_line 52 (.dup) 1 53 := ⟨by decide +kernel, rfl⟩
theorem dX10_line_53 : ml_d cX10_line 53 (.getfield 121) 3 56 := ⟨by decide +kernel, rfl⟩
theorem dX10_line_56 : ml_d cX10_line 56 (.dup_x1) 1 57 := ⟨by decide +kernel, rfl⟩
theorem dX10_line_57 : ml_d cX10_line 57 (.iconst 1) 1 58 := ⟨by decide +kernel, rfl⟩
theorem dX10_line_58 : ml_d cX10_line 58 (.iadd) 1 59 := ⟨by decide +kernel, rfl⟩
theorem dX10_line_59 : ml_d cX10_line 59 (.putfield 121) 3 62 := ⟨by decide +kernel, rfl⟩
theorem dX10_line_62 : ml_d cX10_line 62 (.ireturn) 1 63 := ⟨by decide +kernel, rfl⟩
def fX10_line (l0 : Nat) (l1 : Int32) (l2 : Int32) (l3 : Int32) (m : ml_M) : Option (Int32 × ml_M) :=
    ml_b1 (fX10_within l1 (0 : Int32) (20 : Int32) m) fun r2808 =>
    if r2808 = 0 then
    some ((-1 : Int32), m)
    else
    ml_b1 (fX10_areYears l2 l3 m) fun r2810 =>
    if r2810 = 0 then
    some ((-1 : Int32), m)
    else
    if (ml_K m l0).1 = 10 then
    if (ml_I m l0 7) < (8 : Int32) then
    ml_let (ml_R m l0 6) fun a2812 =>
    ml_let (ml_n m + 1) fun a2813 =>
    ml_let (ml_al m 5 0 3) fun m2814 =>
    ml_b1 (fX5_init a2813 l1 l2 l3 m2814) fun m2818 =>
    if (ml_K m2818 a2813).1 = 5 then
    if ml_in m2818 a2812 27 (ml_I m l0 7) then
    ml_let (ml_sR m2818 a2812 (ml_I m l0 7).toNatClampNeg a2813) fun m2821 =>
    if (ml_K m2821 l0).1 = 10 then
    ml_let (ml_sI m2821 l0 7 ((ml_I m2821 l0 7) + (1 : Int32))) fun m2824 =>
    some ((ml_I m2821 l0 7), m2824)
    else none
    else none
    else none
    else
    some ((-2 : Int32), m)
    else none
theorem wX10_line_0 {E : ml_E} (hL : ml_eL E = 4) {rv : Int32} {rm : ml_M} (hr : ∀ (pc pc' : Nat) (lv : List (Nat × ml_X)), ml_d cX10_line pc .ireturn 1 pc' → True → ml_V E "LostRoom" cX10_line 3 false rm pc lv [ml_i rv]) : ∀ (l0 : Nat) (l1 : Int32) (l2 : Int32) (l3 : Int32) (m : ml_M), fX10_line l0 l1 l2 l3 m = some (rv, rm) → ml_V E "LostRoom" cX10_line 3 false m 0 [(0, ml_r l0), (1, ml_i l1), (2, ml_i l2), (3, ml_i l3)] [] := by
  intro l0 l1 l2 l3 m h
  unfold fX10_line at h
  exact ml_iload_n dX10_line_0 1 rfl <| ml_iconst dX10_line_1 kc_i0 <| ml_bipush dX10_line_2 kc_b20 <| ml_b1_of h fun r2808 hv2807 h => ml_callS dX10_line_4 wm_124 wb_94 (sX10_within hv2807) rfl (Nat.le_of_ble_eq_true rfl) (Nat.le_of_ble_eq_true rfl) rfl <| ml_if_eq dX10_line_7 h (fun _ h => ml_iconst dX10_line_18 kc_im1 <| ml_rI (mk := ml_i) hr dX10_line_19 (fun _ => trivial) h) (fun _ h => ml_iload_n dX10_line_10 2 rfl <| ml_iload_n dX10_line_11 3 rfl <| ml_b1_of h fun r2810 hv2809 h => ml_callS dX10_line_12 wm_376 wb_259 (sX10_areYears hv2809) rfl (Nat.le_of_ble_eq_true rfl) (Nat.le_of_ble_eq_true rfl) rfl <| ml_if_ne dX10_line_15 h (fun _ h => ml_aload_n dX10_line_20 0 rfl <| ml_ck_of h fun hc2811 h => ml_getI dX10_line_21 wb_380 hc2811 <| ml_bipush dX10_line_24 kc_b8 <| ml_icmp_lt dX10_line_26 h (fun _ h => ml_aload_n dX10_line_32 0 rfl <| ml_getR dX10_line_33 wb_381 hc2811 <| ml_lx (mk := ml_r) h fun a2812 h => ml_aload_n dX10_line_36 0 rfl <| ml_getI dX10_line_37 wb_380 hc2811 <| ml_newOs dX10_line_40 wb_382 h fun a2813 m2814 hn2815 hc2816 h => ml_dup dX10_line_43 rfl <| ml_iload_n dX10_line_44 1 rfl <| ml_iload_n dX10_line_45 2 rfl <| ml_iload_n dX10_line_46 3 rfl <| ml_b1_of h fun m2818 hv2817 h => ml_callI dX10_line_47 wm_639 wb_383 hn2815 (sX5_init hv2817) rfl (Nat.le_of_ble_eq_true rfl) (Nat.le_of_ble_eq_true rfl) rfl <| ml_ck_of h fun hc2820 h => ml_ck_of h fun hi2819 h => ml_aast (kd := 27) (ci := 5) dX10_line_50 (by decide) hi2819 hc2820 <| ml_lt (m := m2818) rfl h fun m2821 em2822 h => ml_aload_n dX10_line_51 0 rfl <| ml_dup dX10_line_52 rfl <| ml_ck_of h fun hc2823 h => ml_getI dX10_line_53 wb_380 hc2823 <| ml_dup_x1 dX10_line_56 rfl rfl <| ml_iconst dX10_line_57 kc_i1 <| ml_iadd dX10_line_58 <| ml_putI dX10_line_59 wb_182 hc2823 <| ml_lt (m := m2821) rfl h fun m2824 em2825 h => ml_rI (mk := ml_i) hr dX10_line_62 (fun _ => trivial) h) (fun _ h => ml_bipush dX10_line_29 kc_bm2 <| ml_rI (mk := ml_i) hr dX10_line_31 (fun _ => trivial) h)) (fun _ h => ml_iconst dX10_line_18 kc_im1 <| ml_rI (mk := ml_i) hr dX10_line_19 (fun _ => trivial) h))
theorem sX10_line {l0 : Nat} {l1 : Int32} {l2 : Int32} {l3 : Int32} {m : ml_M} {rv : Int32} {rm : ml_M} (h : fX10_line l0 l1 l2 l3 m = some (rv, rm)) : ml_Sn yX10_line cX10_line 4 (some .int) 3 [ml_r l0, ml_i l1, ml_i l2, ml_i l3] m (some (ml_i rv)) rm :=
  ml_Sn_of (P := True) (ini := false) (by decide +kernel) (Nat.le_of_ble_eq_true rfl) (fun h => by cases h) (fun _ => ml_RkI rv) fun E hL hr => wX10_line_0 hL hr _ _ _ _ _ h
theorem dX11_line_0 : ml_d cX11_line 0 (.iload_n 1) 1 1 := ⟨by decide +kernel, rfl⟩
theorem dX11_line_1 : ml_d cX11_line 1 (.iconst 0) 1 2 := ⟨by decide +kernel, rfl⟩
theorem dX11_line_2 : ml_d cX11_line 2 (.bipush 20) 2 4 := ⟨by decide +kernel, rfl⟩
theorem dX11_line_4 : ml_d cX11_line 4 (.invokestatic 100) 3 7 := ⟨by decide +kernel, rfl⟩
theorem dX11_line_7 : ml_j cX11_line 7 (.ifCond .eq) 18 10 := ⟨11, by decide +kernel, by decide, rfl⟩
theorem dX11_line_10 : ml_d cX11_line 10 (.iload_n 2) 1 11 := ⟨by decide +kernel, rfl⟩
theorem dX11_line_11 : ml_d cX11_line 11 (.iload_n 3) 1 12 := ⟨by decide +kernel, rfl⟩
theorem dX11_line_12 : ml_d cX11_line 12 (.invokestatic 211) 3 15 := ⟨by decide +kernel, rfl⟩
theorem dX11_line_15 : ml_j cX11_line 15 (.ifCond .ne) 20 18 := ⟨5, by decide +kernel, by decide, rfl⟩
theorem dX11_line_18 : ml_d cX11_line 18 (.iconst (-1)) 1 19 := ⟨by decide +kernel, rfl⟩
theorem dX11_line_19 : ml_d cX11_line 19 (.ireturn) 1 20 := ⟨by decide +kernel, rfl⟩
theorem dX11_line_20 : ml_d cX11_line 20 (.aload_n 0) 1 21 := ⟨by decide +kernel, rfl⟩
theorem dX11_line_21 : ml_d cX11_line 21 (.getfield 184) 3 24 := ⟨by decide +kernel, rfl⟩
theorem dX11_line_24 : ml_d cX11_line 24 (.bipush 8) 2 26 := ⟨by decide +kernel, rfl⟩
theorem dX11_line_26 : ml_j cX11_line 26 (.if_icmp .ne) 32 29 := ⟨6, by decide +kernel, by decide, rfl⟩
theorem dX11_line_29 : ml_d cX11_line 29 (.bipush (-2)) 2 31 := ⟨by decide +kernel, rfl⟩
theorem dX11_line_31 : ml_d cX11_line 31 (.ireturn) 1 32 := ⟨by decide +kernel, rfl⟩
theorem dX11_line_32 : ml_d cX11_line 32 (.aload_n 0) 1 33 := ⟨by decide +kernel, rfl⟩
theorem dX11_line_33 : ml_d cX11_line 33 (.getfield 62) 3 36 := ⟨by decide +kernel, rfl⟩
theorem dX11_line_36 : ml_d cX11_line 36 (.iconst 3) 1 37 := ⟨by decide +kernel, rfl⟩
theorem dX11_line_37 : ml_d cX11_line 37 (.aload_n 0) 1 38 := ⟨by decide +kernel, rfl⟩
theorem dX11_line_38 : ml_d cX11_line 38 (.getfield 184) 3 41 := ⟨by decide +kernel, rfl⟩
theorem dX11_line_41 : ml_d cX11_line 41 (.imul) 1 42 := ⟨by decide +kernel, rfl⟩
theorem dX11_line_42 : ml_d cX11_line 42 (.iload_n 1) 1 43 := ⟨by decide +kernel, rfl⟩
theorem dX11_line_43 : ml_d cX11_line 43 (.iastore) 1 44 := ⟨by decide +kernel, rfl⟩
theorem dX11_line_44 : ml_d cX11_line 44 (.aload_n 0) 1 45 := ⟨by decide +kernel, rfl⟩
theorem dX11_line_45 : ml_d cX11_line 45 (.getfield 62) 3 48 := ⟨by decide +kernel, rfl⟩
theorem dX11_line_48 : ml_d cX11_line 48 (.iconst 3) 1 49 := ⟨by decide +kernel, rfl⟩
theorem dX11_line_49 : ml_d cX11_line 49 (.aload_n 0) 1 50 := ⟨by decide +kernel, rfl⟩
theorem dX11_line_50 : ml_d cX11_line 50 (.getfield 184) 3 53 := ⟨by decide +kernel, rfl⟩
theorem dX11_line_53 : ml_d cX11_line 53 (.imul) 1 54 := ⟨by decide +kernel, rfl⟩
theorem dX11_line_54 : ml_d cX11_line 54 (.iconst 1) 1 55 := ⟨by decide +kernel, rfl⟩
theorem dX11_line_55 : ml_d cX11_line 55 (.iadd) 1 56 := ⟨by decide +kernel, rfl⟩
theorem dX11_line_56 : ml_d cX11_line 56 (.iload_n 2) 1 57 := ⟨by decide +kernel, rfl⟩
theorem dX11_line_57 : ml_d cX11_line 57 (.iastore) 1 58 := ⟨by decide +kernel, rfl⟩
theorem dX11_line_58 : ml_d cX11_line 58 (.aload_n 0) 1 59 := ⟨by decide +kernel, rfl⟩
theorem dX11_line_59 : ml_d cX11_line 59 (.getfield 62) 3 62 := ⟨by decide +kernel, rfl⟩
theorem dX11_line_62 : ml_d cX11_line 62 (.iconst 3) 1 63 := ⟨by decide +kernel, rfl⟩
theorem dX11_line_63 : ml_d cX11_line 63 (.aload_n 0) 1 64 := ⟨by decide +kernel, rfl⟩
theorem dX11_line_64 : ml_d cX11_line 64 (.getfield 184) 3 67 := ⟨by decide +kernel, rfl⟩
theorem dX11_line_67 : ml_d cX11_line 67 (.imul) 1 68 := ⟨by decide +kernel, rfl⟩
theorem dX11_line_68 : ml_d cX11_line 68 (.iconst 2) 1 69 := ⟨by decide +kernel, rfl⟩
theorem dX11_line_69 : ml_d cX11_line 69 (.iadd) 1 70 := ⟨by decide +kernel, rfl⟩
theorem dX11_line_70 : ml_d cX11_line 70 (.iload_n 3) 1 71 := ⟨by decide +kernel, rfl⟩
theorem dX11_line_71 : ml_d cX11_line 71 (.iastore) 1 72 := ⟨by decide +kernel, rfl⟩
theorem dX11_line_72 : ml_d cX11_line 72 (.aload_n 0) 1 73 := ⟨by decide +kernel, rfl⟩
theorem dX11_line_73 : ml_d cX11_line 73 (.dup) 1 74 := ⟨by decide +kernel, rfl⟩
theorem dX11_line_74 : ml_d cX11_line 74 (.getfield 184) 3 77 := ⟨by decide +kernel, rfl⟩
theorem dX11_line_77 : ml_d cX11_line 77 (.iconst 1) 1 78 := ⟨by decide +kernel, rfl⟩
theorem dX11_line_78 : ml_d cX11_line 78 (.iadd) 1 79 := ⟨by decide +kernel, rfl⟩
theorem dX11_line_79 : ml_d cX11_line 79 (.putfield 184) 3 82 := ⟨by decide +kernel, rfl⟩
theorem dX11_line_82 : ml_d cX11_line 82 (.aload_n 0) 1 83 := ⟨by decide +kernel, rfl⟩
theorem dX11_line_83 : ml_d cX11_line 83 (.getfield 184) 3 86 := ⟨by decide +kernel, rfl⟩
theorem dX11_line_86 : ml_d cX11_line 86 (.iconst 1) 1 87 := ⟨by decide +kernel, rfl⟩
theorem dX11_line_87 : ml_d cX11_line 87 (.isub) 1 88 := ⟨by decide +kernel, rfl⟩
theorem dX11_line_88 : ml_d cX11_line 88 (.ireturn) 1 89 := ⟨by decide +kernel, rfl⟩
def fX11_line (l0 : Nat) (l1 : Int32) (l2 : Int32) (l3 : Int32) (m : ml_M) : Option (Int32 × ml_M) :=
    ml_b1 (fX11_in l1 (0 : Int32) (20 : Int32) m) fun r2827 =>
    if r2827 = 0 then
    some ((-1 : Int32), m)
    else
    ml_b1 (fX11_isYears l2 l3 m) fun r2829 =>
    if r2829 = 0 then
    some ((-1 : Int32), m)
    else
    if (ml_K m l0).1 = 11 then
    if (ml_I m l0 34) = (8 : Int32) then
    some ((-2 : Int32), m)
    else
    ml_let (ml_R m l0 35) fun a2831 =>
    if ml_in m a2831 20 ((3 : Int32) * (ml_I m l0 34)) then
    ml_let (ml_sI m a2831 ((3 : Int32) * (ml_I m l0 34)).toNatClampNeg l1) fun m2833 =>
    ml_let (ml_R m2833 l0 35) fun a2835 =>
    if ml_in m2833 a2835 20 (((3 : Int32) * (ml_I m2833 l0 34)) + (1 : Int32)) then
    ml_let (ml_sI m2833 a2835 (((3 : Int32) * (ml_I m2833 l0 34)) + (1 : Int32)).toNatClampNeg l2) fun m2837 =>
    ml_let (ml_R m2837 l0 35) fun a2839 =>
    if ml_in m2837 a2839 20 (((3 : Int32) * (ml_I m2837 l0 34)) + (2 : Int32)) then
    ml_let (ml_sI m2837 a2839 (((3 : Int32) * (ml_I m2837 l0 34)) + (2 : Int32)).toNatClampNeg l3) fun m2841 =>
    ml_let (ml_sI m2841 l0 34 ((ml_I m2841 l0 34) + (1 : Int32))) fun m2843 =>
    some (((ml_I m2843 l0 34) - (1 : Int32)), m2843)
    else none
    else none
    else none
    else none
theorem wX11_line_0 {E : ml_E} (hL : ml_eL E = 4) {rv : Int32} {rm : ml_M} (hr : ∀ (pc pc' : Nat) (lv : List (Nat × ml_X)), ml_d cX11_line pc .ireturn 1 pc' → True → ml_V E "LostRoomModel" cX11_line 4 false rm pc lv [ml_i rv]) : ∀ (l0 : Nat) (l1 : Int32) (l2 : Int32) (l3 : Int32) (m : ml_M), fX11_line l0 l1 l2 l3 m = some (rv, rm) → ml_V E "LostRoomModel" cX11_line 4 false m 0 [(0, ml_r l0), (1, ml_i l1), (2, ml_i l2), (3, ml_i l3)] [] := by
  intro l0 l1 l2 l3 m h
  unfold fX11_line at h
  exact ml_iload_n dX11_line_0 1 rfl <| ml_iconst dX11_line_1 kc_i0 <| ml_bipush dX11_line_2 kc_b20 <| ml_b1_of h fun r2827 hv2826 h => ml_callS dX11_line_4 wm_136 wb_100 (sX11_in hv2826) rfl (Nat.le_of_ble_eq_true rfl) (Nat.le_of_ble_eq_true rfl) rfl <| ml_if_eq dX11_line_7 h (fun _ h => ml_iconst dX11_line_18 kc_im1 <| ml_rI (mk := ml_i) hr dX11_line_19 (fun _ => trivial) h) (fun _ h => ml_iload_n dX11_line_10 2 rfl <| ml_iload_n dX11_line_11 3 rfl <| ml_b1_of h fun r2829 hv2828 h => ml_callS dX11_line_12 wm_385 wb_262 (sX11_isYears hv2828) rfl (Nat.le_of_ble_eq_true rfl) (Nat.le_of_ble_eq_true rfl) rfl <| ml_if_ne dX11_line_15 h (fun _ h => ml_aload_n dX11_line_20 0 rfl <| ml_ck_of h fun hc2830 h => ml_getI dX11_line_21 wb_384 hc2830 <| ml_bipush dX11_line_24 kc_b8 <| ml_icmp_ne dX11_line_26 h (fun _ h => ml_aload_n dX11_line_32 0 rfl <| ml_getR dX11_line_33 wb_385 hc2830 <| ml_lx (mk := ml_r) h fun a2831 h => ml_iconst dX11_line_36 kc_i3 <| ml_aload_n dX11_line_37 0 rfl <| ml_getI dX11_line_38 wb_384 hc2830 <| ml_imul dX11_line_41 <| ml_iload_n dX11_line_42 1 rfl <| ml_ck_of h fun hi2832 h => ml_iast dX11_line_43 hi2832 <| ml_lt (m := m) rfl h fun m2833 em2834 h => ml_aload_n dX11_line_44 0 rfl <| ml_getR dX11_line_45 wb_385 (ml_kk em2834 hc2830) <| ml_lx (mk := ml_r) h fun a2835 h => ml_iconst dX11_line_48 kc_i3 <| ml_aload_n dX11_line_49 0 rfl <| ml_getI dX11_line_50 wb_384 (ml_kk em2834 hc2830) <| ml_imul dX11_line_53 <| ml_iconst dX11_line_54 kc_i1 <| ml_iadd dX11_line_55 <| ml_iload_n dX11_line_56 2 rfl <| ml_ck_of h fun hi2836 h => ml_iast dX11_line_57 hi2836 <| ml_lt (m := m2833) rfl h fun m2837 em2838 h => ml_aload_n dX11_line_58 0 rfl <| ml_getR dX11_line_59 wb_385 (ml_kk em2838 (ml_kk em2834 hc2830)) <| ml_lx (mk := ml_r) h fun a2839 h => ml_iconst dX11_line_62 kc_i3 <| ml_aload_n dX11_line_63 0 rfl <| ml_getI dX11_line_64 wb_384 (ml_kk em2838 (ml_kk em2834 hc2830)) <| ml_imul dX11_line_67 <| ml_iconst dX11_line_68 kc_i2 <| ml_iadd dX11_line_69 <| ml_iload_n dX11_line_70 3 rfl <| ml_ck_of h fun hi2840 h => ml_iast dX11_line_71 hi2840 <| ml_lt (m := m2837) rfl h fun m2841 em2842 h => ml_aload_n dX11_line_72 0 rfl <| ml_dup dX11_line_73 rfl <| ml_getI dX11_line_74 wb_384 (ml_kk em2842 (ml_kk em2838 (ml_kk em2834 hc2830))) <| ml_iconst dX11_line_77 kc_i1 <| ml_iadd dX11_line_78 <| ml_putI dX11_line_79 wb_193 (ml_kk em2842 (ml_kk em2838 (ml_kk em2834 hc2830))) <| ml_lt (m := m2841) rfl h fun m2843 em2844 h => ml_aload_n dX11_line_82 0 rfl <| ml_getI dX11_line_83 wb_384 (ml_kk em2844 (ml_kk em2842 (ml_kk em2838 (ml_kk em2834 hc2830)))) <| ml_iconst dX11_line_86 kc_i1 <| ml_isub dX11_line_87 <| ml_rI (mk := ml_i) hr dX11_line_88 (fun _ => trivial) h) (fun _ h => ml_bipush dX11_line_29 kc_bm2 <| ml_rI (mk := ml_i) hr dX11_line_31 (fun _ => trivial) h)) (fun _ h => ml_iconst dX11_line_18 kc_im1 <| ml_rI (mk := ml_i) hr dX11_line_19 (fun _ => trivial) h))
theorem sX11_line {l0 : Nat} {l1 : Int32} {l2 : Int32} {l3 : Int32} {m : ml_M} {rv : Int32} {rm : ml_M} (h : fX11_line l0 l1 l2 l3 m = some (rv, rm)) : ml_Sn yX11_line cX11_line 4 (some .int) 4 [ml_r l0, ml_i l1, ml_i l2, ml_i l3] m (some (ml_i rv)) rm :=
  ml_Sn_of (P := True) (ini := false) (by decide +kernel) (Nat.le_of_ble_eq_true rfl) (fun h => by cases h) (fun _ => ml_RkI rv) fun E hL hr => wX11_line_0 hL hr _ _ _ _ _ h
theorem dX10_fitsTrunk_0 : ml_d cX10_fitsTrunk 0 (.iconst 0) 1 1 := ⟨by decide +kernel, rfl⟩
theorem dX10_fitsTrunk_1 : ml_d cX10_fitsTrunk 1 (.istore_n 3) 1 2 := ⟨by decide +kernel, rfl⟩
theorem dX10_fitsTrunk_2 : ml_d cX10_fitsTrunk 2 (.iconst 0) 1 3 := ⟨by decide +kernel, rfl⟩
theorem dX10_fitsTrunk_3 : ml_d cX10_fitsTrunk 3 (.istore 4) 2 5 := ⟨by decide +kernel, rfl⟩
theorem dX10_fitsTrunk_5 : ml_d cX10_fitsTrunk 5 (.iload 4) 2 7 := ⟨by decide +kernel, rfl⟩
theorem dX10_fitsTrunk_7 : ml_d cX10_fitsTrunk 7 (.aload_n 0) 1 8 := ⟨by decide +kernel, rfl⟩
theorem dX10_fitsTrunk_8 : ml_d cX10_fitsTrunk 8 (.getfield 118) 3 11 := ⟨by decide +kernel, rfl⟩
theorem dX10_fitsTrunk_11 : ml_j cX10_fitsTrunk 11 (.if_icmp .ge) 70 14 := ⟨59, by decide +kernel, by decide, rfl⟩
theorem dX10_fitsTrunk_14 : ml_d cX10_fitsTrunk 14 (.aload_n 0) 1 15 := ⟨by decide +kernel, rfl⟩
theorem dX10_fitsTrunk_15 : ml_d cX10_fitsTrunk 15 (.getfield 36) 3 18 := ⟨by decide +kernel, rfl⟩
theorem dX10_fitsTrunk_18 : ml_d cX10_fitsTrunk 18 (.iload 4) 2 20 := ⟨by decide +kernel, rfl⟩
theorem dX10_fitsTrunk_20 : ml_d cX10_fitsTrunk 20 (.aaload) 1 21 := ⟨by decide +kernel, rfl⟩
theorem dX10_fitsTrunk_21 : ml_d cX10_fitsTrunk 21 (.astore 5) 2 23 := ⟨by decide +kernel, rfl⟩
theorem dX10_fitsTrunk_23 : ml_d cX10_fitsTrunk 23 (.aload 5) 2 25 := ⟨by decide +kernel, rfl⟩
theorem dX10_fitsTrunk_25 : ml_d cX10_fitsTrunk 25 (.getfield 175) 3 28 := ⟨by decide +kernel, rfl⟩
theorem dX10_fitsTrunk_28 : ml_d cX10_fitsTrunk 28 (.iload_n 2) 1 29 := ⟨by decide +kernel, rfl⟩
theorem dX10_fitsTrunk_29 : ml_j cX10_fitsTrunk 29 (.if_icmp .eq) 35 32 := ⟨6, by decide +kernel, by decide, rfl⟩
theorem dX10_fitsTrunk_32 : ml_j cX10_fitsTrunk 32 .goto 64 35 := ⟨32, by decide +kernel, by decide, rfl⟩
theorem dX10_fitsTrunk_35 : ml_d cX10_fitsTrunk 35 (.aload 5) 2 37 := ⟨by decide +kernel, rfl⟩
theorem dX10_fitsTrunk_37 : ml_d cX10_fitsTrunk 37 (.getfield 391) 3 40 := ⟨by decide +kernel, rfl⟩
theorem dX10_fitsTrunk_40 : ml_d cX10_fitsTrunk 40 (.aload_n 1) 1 41 := ⟨by decide +kernel, rfl⟩
theorem dX10_fitsTrunk_41 : ml_d cX10_fitsTrunk 41 (.getfield 424) 3 44 := ⟨by decide +kernel, rfl⟩
theorem dX10_fitsTrunk_44 : ml_j cX10_fitsTrunk 44 (.if_icmp .lt) 59 47 := ⟨15, by decide +kernel, by decide, rfl⟩
theorem dX10_fitsTrunk_47 : ml_d cX10_fitsTrunk 47 (.aload 5) 2 49 := ⟨by decide +kernel, rfl⟩
theorem dX10_fitsTrunk_49 : ml_d cX10_fitsTrunk 49 (.getfield 390) 3 52 := ⟨by decide +kernel, rfl⟩
theorem dX10_fitsTrunk_52 : ml_d cX10_fitsTrunk 52 (.aload_n 1) 1 53 := ⟨by decide +kernel, rfl⟩
theorem dX10_fitsTrunk_53 : ml_d cX10_fitsTrunk 53 (.getfield 425) 3 56 := ⟨by decide +kernel, rfl⟩
theorem dX10_fitsTrunk_56 : ml_j cX10_fitsTrunk 56 (.if_icmp .le) 61 59 := ⟨5, by decide +kernel, by decide, rfl⟩
theorem dX10_fitsTrunk_59 : ml_d cX10_fitsTrunk 59 (.iconst 0) 1 60 := ⟨by decide +kernel, rfl⟩
theorem dX10_fitsTrunk_60 : ml_d cX10_fitsTrunk 60 (.ireturn) 1 61 := ⟨by decide +kernel, rfl⟩
theorem dX10_fitsTrunk_61 : ml_d cX10_fitsTrunk 61 (.iinc 3 1) 3 64 := ⟨by decide +kernel, rfl⟩
theorem dX10_fitsTrunk_64 : ml_d cX10_fitsTrunk 64 (.iinc 4 1) 3 67 := ⟨by decide +kernel, rfl⟩
theorem dX10_fitsTrunk_67 : ml_j cX10_fitsTrunk 67 .goto 5 70 := ⟨(-62), by decide +kernel, by decide, rfl⟩
theorem dX10_fitsTrunk_70 : ml_d cX10_fitsTrunk 70 (.iload_n 3) 1 71 := ⟨by decide +kernel, rfl⟩
theorem dX10_fitsTrunk_71 : ml_d cX10_fitsTrunk 71 (.aload_n 1) 1 72 := ⟨by decide +kernel, rfl⟩
theorem dX10_fitsTrunk_72 : ml_d cX10_fitsTrunk 72 (.getfield 426) 3 75 := ⟨by decide +kernel, rfl⟩
theorem dX10_fitsTrunk_75 : ml_j cX10_fitsTrunk 75 (.if_icmp .ne) 82 78 := ⟨7, by decide +kernel, by decide, rfl⟩
theorem dX10_fitsTrunk_78 : ml_d cX10_fitsTrunk 78 (.iconst 1) 1 79 := ⟨by decide +kernel, rfl⟩
theorem dX10_fitsTrunk_79 : ml_j cX10_fitsTrunk 79 .goto 83 82 := ⟨4, by decide +kernel, by decide, rfl⟩
theorem dX10_fitsTrunk_82 : ml_d cX10_fitsTrunk 82 (.iconst 0) 1 83 := ⟨by decide +kernel, rfl⟩
theorem dX10_fitsTrunk_83 : ml_d cX10_fitsTrunk 83 (.ireturn) 1 84 := ⟨by decide +kernel, rfl⟩
def fX10_fitsTrunk_64 (k5 : Nat → Nat → Int32 → Int32 → Int32 → ml_M → Option Int32) (l0 : Nat) (l1 : Nat) (l2 : Int32) (l3 : Int32) (l4 : Int32) (m : ml_M) : Option Int32 :=
    k5 l0 l1 l2 l3 (l4 + (1 : Int32)) m
theorem vX10_fitsTrunk_64 {E : ml_E} (hL : ml_eL E = 6) {rv : Int32} {m : ml_M} (hr : ∀ (pc pc' : Nat) (lv : List (Nat × ml_X)), ml_d cX10_fitsTrunk pc .ireturn 1 pc' → (rv = 0 ∨ rv = 1) → ml_V E "LostRoom" cX10_fitsTrunk 2 false m pc lv [ml_i rv]) {k5 : Nat → Nat → Int32 → Int32 → Int32 → ml_M → Option Int32} (hk5 : ∀ (l0 : Nat) (l1 : Nat) (l2 : Int32) (l3 : Int32) (l4 : Int32), k5 l0 l1 l2 l3 l4 m = some rv → ml_V E "LostRoom" cX10_fitsTrunk 2 false m 5 [(0, ml_r l0), (1, ml_r l1), (2, ml_i l2), (3, ml_i l3), (4, ml_i l4)] []) : ∀ (l0 : Nat) (l1 : Nat) (l2 : Int32) (l3 : Int32) (l4 : Int32), fX10_fitsTrunk_64 k5 l0 l1 l2 l3 l4 m = some rv → ml_V E "LostRoom" cX10_fitsTrunk 2 false m 64 [(0, ml_r l0), (1, ml_r l1), (2, ml_i l2), (3, ml_i l3), (4, ml_i l4)] [] := by
  intro l0 l1 l2 l3 l4 h
  unfold fX10_fitsTrunk_64 at h
  exact ml_iinc (lv' := [(4, ml_i (l4 + (1 : Int32))), (0, ml_r l0), (1, ml_r l1), (2, ml_i l2), (3, ml_i l3)]) dX10_fitsTrunk_64 4 rfl (congrArg (l4 + ·) kc_i1) (ml_hn hL rfl) rfl <| ml_goto dX10_fitsTrunk_67 <| ml_V.sub [1, 2, 3, 4, 0] rfl (hk5 _ _ _ _ _ h)
def fX10_fitsTrunk_70 (l1 : Nat) (l3 : Int32) (m : ml_M) : Option Int32 :=
    if (ml_K m l1).1 = 5 then
    if l3 = (ml_I m l1 0) then
    some (1 : Int32)
    else
    some (0 : Int32)
    else none
theorem vX10_fitsTrunk_70 {E : ml_E} (hL : ml_eL E = 6) {rv : Int32} {m : ml_M} (hr : ∀ (pc pc' : Nat) (lv : List (Nat × ml_X)), ml_d cX10_fitsTrunk pc .ireturn 1 pc' → (rv = 0 ∨ rv = 1) → ml_V E "LostRoom" cX10_fitsTrunk 2 false m pc lv [ml_i rv]) : ∀ (l1 : Nat) (l3 : Int32), fX10_fitsTrunk_70 l1 l3 m = some rv → ml_V E "LostRoom" cX10_fitsTrunk 2 false m 70 [(1, ml_r l1), (3, ml_i l3)] [] := by
  intro l1 l3 h
  unfold fX10_fitsTrunk_70 at h
  exact ml_iload_n dX10_fitsTrunk_70 1 rfl <| ml_aload_n dX10_fitsTrunk_71 0 rfl <| ml_ck_of h fun hc2845 h => ml_getI dX10_fitsTrunk_72 wb_386 hc2845 <| ml_icmp_ne dX10_fitsTrunk_75 h (fun _ h => ml_iconst dX10_fitsTrunk_82 kc_i0 <| ml_rp (mk := ml_i) hr dX10_fitsTrunk_83 (fun e => Or.inl e.symm) h) (fun _ h => ml_iconst dX10_fitsTrunk_78 kc_i1 <| ml_goto dX10_fitsTrunk_79 <| ml_rp (mk := ml_i) hr dX10_fitsTrunk_83 (fun e => Or.inr e.symm) h)
def fX10_fitsTrunk_5 : Nat → Nat → Nat → Int32 → Int32 → Int32 → ml_M → Option Int32
  | 0, _, _, _, _, _, _ => none
  | fu + 1, l0, l1, l2, l3, l4, m =>
    if (ml_K m l0).1 = 10 then
    if (ml_I m l0 5) ≤ l4 then
    fX10_fitsTrunk_70 l1 l3 m
    else
    ml_let (ml_R m l0 4) fun a2847 =>
    if ml_in m a2847 29 l4 then
    ml_let (ml_R m a2847 l4.toNatClampNeg) fun a2849 =>
    if (ml_K m a2849).1 = 8 then
    if (ml_I m a2849 6) = l2 then
    if (ml_K m l1).1 = 5 then
    if (ml_I m a2849 2) < (ml_I m l1 1) then
    some (0 : Int32)
    else
    if (ml_I m a2849 1) ≤ (ml_I m l1 2) then
    fX10_fitsTrunk_64 (fX10_fitsTrunk_5 fu) l0 l1 l2 (l3 + (1 : Int32)) l4 m
    else
    some (0 : Int32)
    else none
    else
    fX10_fitsTrunk_64 (fX10_fitsTrunk_5 fu) l0 l1 l2 l3 l4 m
    else none
    else none
    else none
theorem vX10_fitsTrunk_5 {E : ml_E} (hL : ml_eL E = 6) {rv : Int32} {m : ml_M} (hr : ∀ (pc pc' : Nat) (lv : List (Nat × ml_X)), ml_d cX10_fitsTrunk pc .ireturn 1 pc' → (rv = 0 ∨ rv = 1) → ml_V E "LostRoom" cX10_fitsTrunk 2 false m pc lv [ml_i rv]) : ∀ (fu : Nat) (l0 : Nat) (l1 : Nat) (l2 : Int32) (l3 : Int32) (l4 : Int32), fX10_fitsTrunk_5 fu l0 l1 l2 l3 l4 m = some rv → ml_V E "LostRoom" cX10_fitsTrunk 2 false m 5 [(0, ml_r l0), (1, ml_r l1), (2, ml_i l2), (3, ml_i l3), (4, ml_i l4)] [] := by
  intro fu
  induction fu with
  | zero => intro l0 l1 l2 l3 l4 h; exact ml_none h
  | succ fu ih =>
    intro l0 l1 l2 l3 l4 h
    have hk5 := ih
    unfold fX10_fitsTrunk_5 at h
    exact ml_iload dX10_fitsTrunk_5 4 rfl <| ml_aload_n dX10_fitsTrunk_7 0 rfl <| ml_ck_of h fun hc2846 h => ml_getI dX10_fitsTrunk_8 wb_217 hc2846 <| ml_icmp_ge dX10_fitsTrunk_11 h (fun _ h => ml_V.sub [1, 3] rfl (vX10_fitsTrunk_70 hL hr  _ _ h)) (fun _ h => ml_aload_n dX10_fitsTrunk_14 0 rfl <| ml_getR dX10_fitsTrunk_15 wb_218 hc2846 <| ml_lx (mk := ml_r) h fun a2847 h => ml_iload dX10_fitsTrunk_18 4 rfl <| ml_ck_of h fun hi2848 h => ml_aald (kd := 29) dX10_fitsTrunk_20 (by decide) hi2848 <| ml_lx (mk := ml_r) h fun a2849 h => ml_astore (lv' := [(5, ml_r a2849), (0, ml_r l0), (1, ml_r l1), (2, ml_i l2), (3, ml_i l3), (4, ml_i l4)]) dX10_fitsTrunk_21 (ml_hn hL rfl) rfl <| ml_aload dX10_fitsTrunk_23 0 rfl <| ml_ck_of h fun hc2850 h => ml_getI dX10_fitsTrunk_25 wb_219 hc2850 <| ml_iload_n dX10_fitsTrunk_28 3 rfl <| ml_icmp_eq dX10_fitsTrunk_29 h (fun _ h => ml_aload dX10_fitsTrunk_35 0 rfl <| ml_getI dX10_fitsTrunk_37 wb_270 hc2850 <| ml_aload_n dX10_fitsTrunk_40 2 rfl <| ml_ck_of h fun hc2851 h => ml_getI dX10_fitsTrunk_41 wb_387 hc2851 <| ml_icmp_lt dX10_fitsTrunk_44 h (fun _ h => ml_iconst dX10_fitsTrunk_59 kc_i0 <| ml_rp (mk := ml_i) hr dX10_fitsTrunk_60 (fun e => Or.inl e.symm) h) (fun _ h => ml_aload dX10_fitsTrunk_47 0 rfl <| ml_getI dX10_fitsTrunk_49 wb_269 hc2850 <| ml_aload_n dX10_fitsTrunk_52 2 rfl <| ml_getI dX10_fitsTrunk_53 wb_388 hc2851 <| ml_icmp_le dX10_fitsTrunk_56 h (fun _ h => ml_iinc (lv' := [(3, ml_i (l3 + (1 : Int32))), (5, ml_r a2849), (0, ml_r l0), (1, ml_r l1), (2, ml_i l2), (4, ml_i l4)]) dX10_fitsTrunk_61 4 rfl (congrArg (l3 + ·) kc_i1) (ml_hn hL rfl) rfl <| ml_V.sub [2, 3, 4, 0, 5] rfl (vX10_fitsTrunk_64 hL hr hk5 _ _ _ _ _ h)) (fun _ h => ml_iconst dX10_fitsTrunk_59 kc_i0 <| ml_rp (mk := ml_i) hr dX10_fitsTrunk_60 (fun e => Or.inl e.symm) h))) (fun _ h => ml_goto dX10_fitsTrunk_32 <| ml_V.sub [1, 2, 3, 4, 5] rfl (vX10_fitsTrunk_64 hL hr hk5 _ _ _ _ _ h)))
def fX10_fitsTrunk (l0 : Nat) (l1 : Nat) (l2 : Int32) (m : ml_M) : Option Int32 :=
    fX10_fitsTrunk_5 ml_fu l0 l1 l2 (0 : Int32) (0 : Int32) m
theorem wX10_fitsTrunk_0 {E : ml_E} (hL : ml_eL E = 6) {rv : Int32} {m : ml_M} (hr : ∀ (pc pc' : Nat) (lv : List (Nat × ml_X)), ml_d cX10_fitsTrunk pc .ireturn 1 pc' → (rv = 0 ∨ rv = 1) → ml_V E "LostRoom" cX10_fitsTrunk 2 false m pc lv [ml_i rv]) : ∀ (l0 : Nat) (l1 : Nat) (l2 : Int32), fX10_fitsTrunk l0 l1 l2 m = some rv → ml_V E "LostRoom" cX10_fitsTrunk 2 false m 0 [(0, ml_r l0), (1, ml_r l1), (2, ml_i l2)] [] := by
  intro l0 l1 l2 h
  unfold fX10_fitsTrunk at h
  exact ml_iconst dX10_fitsTrunk_0 kc_i0 <| ml_istore_n (lv' := [(3, ml_i (0 : Int32)), (0, ml_r l0), (1, ml_r l1), (2, ml_i l2)]) dX10_fitsTrunk_1 (ml_hn hL rfl) rfl <| ml_iconst dX10_fitsTrunk_2 kc_i0 <| ml_istore (lv' := [(4, ml_i (0 : Int32)), (3, ml_i (0 : Int32)), (0, ml_r l0), (1, ml_r l1), (2, ml_i l2)]) dX10_fitsTrunk_3 (ml_hn hL rfl) rfl <| ml_V.sub [2, 3, 4, 1, 0] rfl (vX10_fitsTrunk_5 hL hr  ml_fu _ _ _ _ _ h)
theorem sX10_fitsTrunk {l0 : Nat} {l1 : Nat} {l2 : Int32} {m : ml_M} {rv : Int32} (h : fX10_fitsTrunk l0 l1 l2 m = some rv) : ml_Sn yX10_fitsTrunk cX10_fitsTrunk 6 (some .boolean) 2 [ml_r l0, ml_r l1, ml_i l2] m (some (ml_i rv)) m :=
  ml_Sn_of (P := (rv = 0 ∨ rv = 1)) (ini := false) (by decide +kernel) (Nat.le_of_ble_eq_true rfl) (fun h => by cases h) (fun hz => ml_RkZ rv hz) fun E hL hr => wX10_fitsTrunk_0 hL hr _ _ _ h
theorem dX10_trunksForLines_0 : ml_d cX10_trunksForLines 0 (.aload_n 0) 1 1 := ⟨by decide +kernel, rfl⟩
theorem dX10_trunksForLines_1 : ml_d cX10_trunksForLines 1 (.getfield 121) 3 4 := ⟨by decide +kernel, rfl⟩
theorem dX10_trunksForLines_4 : ml_d cX10_trunksForLines 4 (.newarray .int) 2 6 := ⟨by decide +kernel, rfl⟩
theorem dX10_trunksForLines_6 : ml_d cX10_trunksForLines 6 (.astore_n 1) 1 7 := ⟨by decide +kernel, rfl⟩
theorem dX10_trunksForLines_7 : ml_d cX10_trunksForLines 7 (.iconst 0) 1 8 := ⟨by decide +kernel, rfl⟩
theorem dX10_trunksForLines_8 : ml_d cX10_trunksForLines 8 (.istore_n 2) 1 9 := ⟨by decide +kernel, rfl⟩
theorem dX10_trunksForLines_9 : ml_d cX10_trunksForLines 9 (.iload_n 2) 1 10 := ⟨by decide +kernel, rfl⟩
theorem dX10_trunksForLines_10 : ml_d cX10_trunksForLines 10 (.aload_n 0) 1 11 := ⟨by decide +kernel, rfl⟩
theorem dX10_trunksForLines_11 : ml_d cX10_trunksForLines 11 (.getfield 121) 3 14 := ⟨by decide +kernel, rfl⟩
theorem dX10_trunksForLines_14 : ml_j cX10_trunksForLines 14 (.if_icmp .ge) 65 17 := ⟨51, by decide +kernel, by decide, rfl⟩
theorem dX10_trunksForLines_17 : ml_d cX10_trunksForLines 17 (.iconst 0) 1 18 := ⟨by decide +kernel, rfl⟩
theorem dX10_trunksForLines_18 : ml_d cX10_trunksForLines 18 (.istore_n 3) 1 19 := ⟨by decide +kernel, rfl⟩
theorem dX10_trunksForLines_19 : ml_d cX10_trunksForLines 19 (.iload_n 3) 1 20 := ⟨by decide +kernel, rfl⟩
theorem dX10_trunksForLines_20 : ml_d cX10_trunksForLines 20 (.aload_n 0) 1 21 := ⟨by decide +kernel, rfl⟩
theorem dX10_trunksForLines_21 : ml_d cX10_trunksForLines 21 (.getfield 26) 3 24 := ⟨by decide +kernel, rfl⟩
theorem dX10_trunksForLines_24 : ml_d cX10_trunksForLines 24 (.getfield 135) 3 27 := ⟨by decide +kernel, rfl⟩
theorem dX10_trunksForLines_27 : ml_j cX10_trunksForLines 27 (.if_icmp .ge) 59 30 := ⟨32, by decide +kernel, by decide, rfl⟩
theorem dX10_trunksForLines_30 : ml_d cX10_trunksForLines 30 (.aload_n 0) 1 31 := ⟨by decide +kernel, rfl⟩
theorem dX10_trunksForLines_31 : ml_d cX10_trunksForLines 31 (.aload_n 0) 1 32 := ⟨by decide +kernel, rfl⟩
theorem dX10_trunksForLines_32 : ml_d cX10_trunksForLines 32 (.getfield 42) 3 35 := ⟨by decide +kernel, rfl⟩
theorem dX10_trunksForLines_35 : ml_d cX10_trunksForLines 35 (.iload_n 2) 1 36 := ⟨by decide +kernel, rfl⟩
theorem dX10_trunksForLines_36 : ml_d cX10_trunksForLines 36 (.aaload) 1 37 := ⟨by decide +kernel, rfl⟩
theorem dX10_trunksForLines_37 : ml_d cX10_trunksForLines 37 (.iload_n 3) 1 38 := ⟨by decide +kernel, rfl⟩
theorem dX10_trunksForLines_38 : ml_d cX10_trunksForLines 38 (.invokevirtual 420) 3 41 := ⟨by decide +kernel, rfl⟩
theorem dX10_trunksForLines_41 : ml_j cX10_trunksForLines 41 (.ifCond .eq) 53 44 := ⟨12, by decide +kernel, by decide, rfl⟩
theorem dX10_trunksForLines_44 : ml_d cX10_trunksForLines 44 (.aload_n 1) 1 45 := ⟨by decide +kernel, rfl⟩
theorem dX10_trunksForLines_45 : ml_d cX10_trunksForLines 45 (.iload_n 2) 1 46 := ⟨by decide +kernel, rfl⟩
theorem dX10_trunksForLines_46 : ml_d cX10_trunksForLines 46 (.dup2) 1 47 := ⟨by decide +kernel, rfl⟩
theorem dX10_trunksForLines_47 : ml_d cX10_trunksForLines 47 (.iaload) 1 48 := ⟨by decide +kernel, rfl⟩
theorem dX10_trunksForLines_48 : ml_d cX10_trunksForLines 48 (.iconst 1) 1 49 := ⟨by decide +kernel, rfl⟩
theorem dX10_trunksForLines_49 : ml_d cX10_trunksForLines 49 (.iload_n 3) 1 50 := ⟨by decide +kernel, rfl⟩
theorem dX10_trunksForLines_50 : ml_d cX10_trunksForLines 50 (.ishl) 1 51 := ⟨by decide +kernel, rfl⟩
theorem dX10_trunksForLines_51 : ml_d cX10_trunksForLines 51 (.ior) 1 52 := ⟨by decide +kernel, rfl⟩
theorem dX10_trunksForLines_52 : ml_d cX10_trunksForLines 52 (.iastore) 1 53 := ⟨by decide +kernel, rfl⟩
theorem dX10_trunksForLines_53 : ml_d cX10_trunksForLines 53 (.iinc 3 1) 3 56 := ⟨by decide +kernel, rfl⟩
theorem dX10_trunksForLines_56 : ml_j cX10_trunksForLines 56 .goto 19 59 := ⟨(-37), by decide +kernel, by decide, rfl⟩
theorem dX10_trunksForLines_59 : ml_d cX10_trunksForLines 59 (.iinc 2 1) 3 62 := ⟨by decide +kernel, rfl⟩
theorem dX10_trunksForLines_62 : ml_j cX10_trunksForLines 62 .goto 9 65 := ⟨(-53), by decide +kernel, by decide, rfl⟩
theorem dX10_trunksForLines_65 : ml_d cX10_trunksForLines 65 (.aload_n 1) 1 66 := ⟨by decide +kernel, rfl⟩
theorem dX10_trunksForLines_66 : ml_d cX10_trunksForLines 66 (.areturn) 1 67 := ⟨by decide +kernel, rfl⟩
def fX10_trunksForLines_53 (k9 : Nat → Nat → Int32 → ml_M → Option (Nat × ml_M)) (k19 : Nat → Nat → Int32 → Int32 → ml_M → Option (Nat × ml_M)) (l0 : Nat) (l1 : Nat) (l2 : Int32) (l3 : Int32) (m : ml_M) : Option (Nat × ml_M) :=
    k19 l0 l1 l2 (l3 + (1 : Int32)) m
theorem vX10_trunksForLines_53 {E : ml_E} (hL : ml_eL E = 4) {rv : Nat} {rm : ml_M} (hr : ∀ (pc pc' : Nat) (lv : List (Nat × ml_X)), ml_d cX10_trunksForLines pc .areturn 1 pc' → True → ml_V E "LostRoom" cX10_trunksForLines 3 false rm pc lv [ml_r rv]) {k9 : Nat → Nat → Int32 → ml_M → Option (Nat × ml_M)} (hk9 : ∀ (l0 : Nat) (l1 : Nat) (l2 : Int32) (m : ml_M), k9 l0 l1 l2 m = some (rv, rm) → ml_V E "LostRoom" cX10_trunksForLines 3 false m 9 [(0, ml_r l0), (1, ml_r l1), (2, ml_i l2)] []) {k19 : Nat → Nat → Int32 → Int32 → ml_M → Option (Nat × ml_M)} (hk19 : ∀ (l0 : Nat) (l1 : Nat) (l2 : Int32) (l3 : Int32) (m : ml_M), k19 l0 l1 l2 l3 m = some (rv, rm) → ml_V E "LostRoom" cX10_trunksForLines 3 false m 19 [(0, ml_r l0), (1, ml_r l1), (2, ml_i l2), (3, ml_i l3)] []) : ∀ (l0 : Nat) (l1 : Nat) (l2 : Int32) (l3 : Int32) (m : ml_M), fX10_trunksForLines_53 k9 k19 l0 l1 l2 l3 m = some (rv, rm) → ml_V E "LostRoom" cX10_trunksForLines 3 false m 53 [(0, ml_r l0), (1, ml_r l1), (2, ml_i l2), (3, ml_i l3)] [] := by
  intro l0 l1 l2 l3 m h
  unfold fX10_trunksForLines_53 at h
  exact ml_iinc (lv' := [(3, ml_i (l3 + (1 : Int32))), (0, ml_r l0), (1, ml_r l1), (2, ml_i l2)]) dX10_trunksForLines_53 3 rfl (congrArg (l3 + ·) kc_i1) (ml_hn hL rfl) rfl <| ml_goto dX10_trunksForLines_56 <| ml_V.sub [1, 2, 3, 0] rfl (hk19 _ _ _ _ _ h)
def fX10_trunksForLines_59 (k9 : Nat → Nat → Int32 → ml_M → Option (Nat × ml_M)) (l0 : Nat) (l1 : Nat) (l2 : Int32) (m : ml_M) : Option (Nat × ml_M) :=
    k9 l0 l1 (l2 + (1 : Int32)) m
theorem vX10_trunksForLines_59 {E : ml_E} (hL : ml_eL E = 4) {rv : Nat} {rm : ml_M} (hr : ∀ (pc pc' : Nat) (lv : List (Nat × ml_X)), ml_d cX10_trunksForLines pc .areturn 1 pc' → True → ml_V E "LostRoom" cX10_trunksForLines 3 false rm pc lv [ml_r rv]) {k9 : Nat → Nat → Int32 → ml_M → Option (Nat × ml_M)} (hk9 : ∀ (l0 : Nat) (l1 : Nat) (l2 : Int32) (m : ml_M), k9 l0 l1 l2 m = some (rv, rm) → ml_V E "LostRoom" cX10_trunksForLines 3 false m 9 [(0, ml_r l0), (1, ml_r l1), (2, ml_i l2)] []) : ∀ (l0 : Nat) (l1 : Nat) (l2 : Int32) (m : ml_M), fX10_trunksForLines_59 k9 l0 l1 l2 m = some (rv, rm) → ml_V E "LostRoom" cX10_trunksForLines 3 false m 59 [(0, ml_r l0), (1, ml_r l1), (2, ml_i l2)] [] := by
  intro l0 l1 l2 m h
  unfold fX10_trunksForLines_59 at h
  exact ml_iinc (lv' := [(2, ml_i (l2 + (1 : Int32))), (0, ml_r l0), (1, ml_r l1)]) dX10_trunksForLines_59 2 rfl (congrArg (l2 + ·) kc_i1) (ml_hn hL rfl) rfl <| ml_goto dX10_trunksForLines_62 <| ml_V.sub [1, 2, 0] rfl (hk9 _ _ _ _ h)
def fX10_trunksForLines_19 (k9 : Nat → Nat → Int32 → ml_M → Option (Nat × ml_M)) : Nat → Nat → Nat → Int32 → Int32 → ml_M → Option (Nat × ml_M)
  | 0, _, _, _, _, _ => none
  | fu + 1, l0, l1, l2, l3, m =>
    if (ml_K m l0).1 = 10 then
    ml_let (ml_R m l0 2) fun a2853 =>
    if (ml_K m a2853).1 = 1 then
    if (ml_I m a2853 3) ≤ l3 then
    fX10_trunksForLines_59 k9 l0 l1 l2 m
    else
    ml_let (ml_R m l0 6) fun a2855 =>
    if ml_in m a2855 27 l2 then
    ml_let (ml_R m a2855 l2.toNatClampNeg) fun a2857 =>
    ml_b1 (fX10_fitsTrunk l0 a2857 l3 m) fun r2859 =>
    if r2859 = 0 then
    fX10_trunksForLines_53 k9 (fX10_trunksForLines_19 k9 fu) l0 l1 l2 l3 m
    else
    if ml_in m l1 20 l2 then
    if ml_in m l1 20 l2 then
    ml_let (ml_sI m l1 l2.toNatClampNeg ((ml_I m l1 l2.toNatClampNeg) ||| ((1 : Int32) <<< (l3 &&& 31)))) fun m2862 =>
    fX10_trunksForLines_53 k9 (fX10_trunksForLines_19 k9 fu) l0 l1 l2 l3 m2862
    else none
    else none
    else none
    else none
    else none
theorem vX10_trunksForLines_19 {E : ml_E} (hL : ml_eL E = 4) {rv : Nat} {rm : ml_M} (hr : ∀ (pc pc' : Nat) (lv : List (Nat × ml_X)), ml_d cX10_trunksForLines pc .areturn 1 pc' → True → ml_V E "LostRoom" cX10_trunksForLines 3 false rm pc lv [ml_r rv]) {k9 : Nat → Nat → Int32 → ml_M → Option (Nat × ml_M)} (hk9 : ∀ (l0 : Nat) (l1 : Nat) (l2 : Int32) (m : ml_M), k9 l0 l1 l2 m = some (rv, rm) → ml_V E "LostRoom" cX10_trunksForLines 3 false m 9 [(0, ml_r l0), (1, ml_r l1), (2, ml_i l2)] []) : ∀ (fu : Nat) (l0 : Nat) (l1 : Nat) (l2 : Int32) (l3 : Int32) (m : ml_M), fX10_trunksForLines_19 k9 fu l0 l1 l2 l3 m = some (rv, rm) → ml_V E "LostRoom" cX10_trunksForLines 3 false m 19 [(0, ml_r l0), (1, ml_r l1), (2, ml_i l2), (3, ml_i l3)] [] := by
  intro fu
  induction fu with
  | zero => intro l0 l1 l2 l3 m h; exact ml_none h
  | succ fu ih =>
    intro l0 l1 l2 l3 m h
    have hk19 := ih
    unfold fX10_trunksForLines_19 at h
    exact ml_iload_n dX10_trunksForLines_19 3 rfl <| ml_aload_n dX10_trunksForLines_20 0 rfl <| ml_ck_of h fun hc2852 h => ml_getR dX10_trunksForLines_21 wb_189 hc2852 <| ml_lx (mk := ml_r) h fun a2853 h => ml_ck_of h fun hc2854 h => ml_getI dX10_trunksForLines_24 wb_190 hc2854 <| ml_icmp_ge dX10_trunksForLines_27 h (fun _ h => ml_V.sub [0, 1, 2] rfl (vX10_trunksForLines_59 hL hr hk9 _ _ _ _ h)) (fun _ h => ml_aload_n dX10_trunksForLines_30 0 rfl <| ml_aload_n dX10_trunksForLines_31 0 rfl <| ml_getR dX10_trunksForLines_32 wb_381 hc2852 <| ml_lx (mk := ml_r) h fun a2855 h => ml_iload_n dX10_trunksForLines_35 2 rfl <| ml_ck_of h fun hi2856 h => ml_aald (kd := 27) dX10_trunksForLines_36 (by decide) hi2856 <| ml_lx (mk := ml_r) h fun a2857 h => ml_iload_n dX10_trunksForLines_37 3 rfl <| ml_b1_of h fun r2859 hv2858 h => ml_callV dX10_trunksForLines_38 wm_646 wb_389 hc2852 (sX10_fitsTrunk hv2858) rfl (Nat.le_of_ble_eq_true rfl) (Nat.le_of_ble_eq_true rfl) rfl <| ml_if_eq dX10_trunksForLines_41 h (fun _ h => ml_V.sub [0, 1, 2, 3] rfl (vX10_trunksForLines_53 hL hr hk9 hk19 _ _ _ _ _ h)) (fun _ h => ml_aload_n dX10_trunksForLines_44 1 rfl <| ml_iload_n dX10_trunksForLines_45 2 rfl <| ml_dup2 dX10_trunksForLines_46 rfl rfl <| ml_ck_of h fun hi2860 h => ml_iald dX10_trunksForLines_47 hi2860 <| ml_iconst dX10_trunksForLines_48 kc_i1 <| ml_iload_n dX10_trunksForLines_49 3 rfl <| ml_ishl dX10_trunksForLines_50 <| ml_ior dX10_trunksForLines_51 <| ml_ck_of h fun hi2861 h => ml_iast dX10_trunksForLines_52 hi2861 <| ml_lt (m := m) rfl h fun m2862 em2863 h => ml_V.sub [0, 1, 2, 3] rfl (vX10_trunksForLines_53 hL hr hk9 hk19 _ _ _ _ _ h)))
def fX10_trunksForLines_9 : Nat → Nat → Nat → Int32 → ml_M → Option (Nat × ml_M)
  | 0, _, _, _, _ => none
  | fu + 1, l0, l1, l2, m =>
    if (ml_K m l0).1 = 10 then
    if (ml_I m l0 7) ≤ l2 then
    some (l1, m)
    else
    fX10_trunksForLines_19 (fX10_trunksForLines_9 fu) ml_fu l0 l1 l2 (0 : Int32) m
    else none
theorem vX10_trunksForLines_9 {E : ml_E} (hL : ml_eL E = 4) {rv : Nat} {rm : ml_M} (hr : ∀ (pc pc' : Nat) (lv : List (Nat × ml_X)), ml_d cX10_trunksForLines pc .areturn 1 pc' → True → ml_V E "LostRoom" cX10_trunksForLines 3 false rm pc lv [ml_r rv]) : ∀ (fu : Nat) (l0 : Nat) (l1 : Nat) (l2 : Int32) (m : ml_M), fX10_trunksForLines_9 fu l0 l1 l2 m = some (rv, rm) → ml_V E "LostRoom" cX10_trunksForLines 3 false m 9 [(0, ml_r l0), (1, ml_r l1), (2, ml_i l2)] [] := by
  intro fu
  induction fu with
  | zero => intro l0 l1 l2 m h; exact ml_none h
  | succ fu ih =>
    intro l0 l1 l2 m h
    have hk9 := ih
    unfold fX10_trunksForLines_9 at h
    exact ml_iload_n dX10_trunksForLines_9 2 rfl <| ml_aload_n dX10_trunksForLines_10 0 rfl <| ml_ck_of h fun hc2864 h => ml_getI dX10_trunksForLines_11 wb_380 hc2864 <| ml_icmp_ge dX10_trunksForLines_14 h (fun _ h => ml_aload_n dX10_trunksForLines_65 1 rfl <| ml_rI (mk := ml_r) hr dX10_trunksForLines_66 (fun _ => trivial) h) (fun _ h => ml_iconst dX10_trunksForLines_17 kc_i0 <| ml_istore_n (lv' := [(3, ml_i (0 : Int32)), (0, ml_r l0), (1, ml_r l1), (2, ml_i l2)]) dX10_trunksForLines_18 (ml_hn hL rfl) rfl <| ml_V.sub [1, 2, 3, 0] rfl (vX10_trunksForLines_19 hL hr hk9 ml_fu _ _ _ _ _ h))
def fX10_trunksForLines (l0 : Nat) (m : ml_M) : Option (Nat × ml_M) :=
    if (ml_K m l0).1 = 10 then
    if ml_len (ml_I m l0 7) then
    ml_let (ml_n m + 1) fun a2867 =>
    ml_let (ml_al m 20 (ml_I m l0 7).toNatClampNeg (ml_I m l0 7).toNatClampNeg) fun m2868 =>
    fX10_trunksForLines_9 ml_fu l0 a2867 (0 : Int32) m2868
    else none
    else none
theorem wX10_trunksForLines_0 {E : ml_E} (hL : ml_eL E = 4) {rv : Nat} {rm : ml_M} (hr : ∀ (pc pc' : Nat) (lv : List (Nat × ml_X)), ml_d cX10_trunksForLines pc .areturn 1 pc' → True → ml_V E "LostRoom" cX10_trunksForLines 3 false rm pc lv [ml_r rv]) : ∀ (l0 : Nat) (m : ml_M), fX10_trunksForLines l0 m = some (rv, rm) → ml_V E "LostRoom" cX10_trunksForLines 3 false m 0 [(0, ml_r l0)] [] := by
  intro l0 m h
  unfold fX10_trunksForLines at h
  exact ml_aload_n dX10_trunksForLines_0 0 rfl <| ml_ck_of h fun hc2865 h => ml_getI dX10_trunksForLines_1 wb_380 hc2865 <| ml_ck_of h fun hl2866 h => ml_newAs (kd := 20) dX10_trunksForLines_4 wb_0 hl2866 h fun a2867 m2868 hn2869 hc2870 h => ml_astore_n (lv' := [(1, ml_r a2867), (0, ml_r l0)]) dX10_trunksForLines_6 (ml_hn hL rfl) rfl <| ml_iconst dX10_trunksForLines_7 kc_i0 <| ml_istore_n (lv' := [(2, ml_i (0 : Int32)), (1, ml_r a2867), (0, ml_r l0)]) dX10_trunksForLines_8 (ml_hn hL rfl) rfl <| ml_V.sub [2, 1, 0] rfl (vX10_trunksForLines_9 hL hr  ml_fu _ _ _ _ h)
theorem sX10_trunksForLines {l0 : Nat} {m : ml_M} {rv : Nat} {rm : ml_M} (h : fX10_trunksForLines l0 m = some (rv, rm)) : ml_Sn yX10_trunksForLines cX10_trunksForLines 4 (some (.array .int)) 3 [ml_r l0] m (some (ml_r rv)) rm :=
  ml_Sn_of (P := True) (ini := false) (by decide +kernel) (Nat.le_of_ble_eq_true rfl) (fun h => by cases h) (fun _ => ml_RkA (Or.inr ⟨_, rfl⟩) rv) fun E hL hr => wX10_trunksForLines_0 hL hr _ _ h
theorem dX10_readingsBy_0 : ml_d cX10_readingsBy 0 (.aload_n 2) 1 1 := ⟨by decide +kernel, rfl⟩
theorem dX10_readingsBy_1 : ml_d cX10_readingsBy 1 (.iconst 0) 1 2 := ⟨by decide +kernel, rfl⟩
theorem dX10_readingsBy_2 : ml_d cX10_readingsBy 2 (.invokestatic 427) 3 5 := ⟨by decide +kernel, rfl⟩
theorem dX10_readingsBy_5 : ml_d cX10_readingsBy 5 (.aload_n 2) 1 6 := ⟨by decide +kernel, rfl⟩
theorem dX10_readingsBy_6 : ml_d cX10_readingsBy 6 (.iconst 0) 1 7 := ⟨by decide +kernel, rfl⟩
theorem dX10_readingsBy_7 : ml_d cX10_readingsBy 7 (.iconst 1) 1 8 := ⟨by decide +kernel, rfl⟩
theorem dX10_readingsBy_8 : ml_d cX10_readingsBy 8 (.iastore) 1 9 := ⟨by decide +kernel, rfl⟩
theorem dX10_readingsBy_9 : ml_d cX10_readingsBy 9 (.iconst 0) 1 10 := ⟨by decide +kernel, rfl⟩
theorem dX10_readingsBy_10 : ml_d cX10_readingsBy 10 (.istore_n 3) 1 11 := ⟨by decide +kernel, rfl⟩
theorem dX10_readingsBy_11 : ml_d cX10_readingsBy 11 (.iconst 0) 1 12 := ⟨by decide +kernel, rfl⟩
theorem dX10_readingsBy_12 : ml_d cX10_readingsBy 12 (.istore 4) 2 14 := ⟨by decide +kernel, rfl⟩
theorem dX10_readingsBy_14 : ml_d cX10_readingsBy 14 (.iload 4) 2 16 := ⟨by decide +kernel, rfl⟩
theorem dX10_readingsBy_16 : ml_d cX10_readingsBy 16 (.aload_n 2) 1 17 := ⟨by decide +kernel, rfl⟩
theorem dX10_readingsBy_17 : ml_d cX10_readingsBy 17 (.arraylength) 1 18 := ⟨by decide +kernel, rfl⟩
theorem dX10_readingsBy_18 : ml_j cX10_readingsBy 18 (.if_icmp .ge) 117 21 := ⟨99, by decide +kernel, by decide, rfl⟩
theorem dX10_readingsBy_21 : ml_d cX10_readingsBy 21 (.iload 4) 2 23 := ⟨by decide +kernel, rfl⟩
theorem dX10_readingsBy_23 : ml_d cX10_readingsBy 23 (.invokestatic 196) 3 26 := ⟨by decide +kernel, rfl⟩
theorem dX10_readingsBy_26 : ml_d cX10_readingsBy 26 (.istore 5) 2 28 := ⟨by decide +kernel, rfl⟩
theorem dX10_readingsBy_28 : ml_d cX10_readingsBy 28 (.iload 5) 2 30 := ⟨by decide +kernel, rfl⟩
theorem dX10_readingsBy_30 : ml_d cX10_readingsBy 30 (.aload_n 1) 1 31 := ⟨by decide +kernel, rfl⟩
theorem dX10_readingsBy_31 : ml_d cX10_readingsBy 31 (.arraylength) 1 32 := ⟨by decide +kernel, rfl⟩
theorem dX10_readingsBy_32 : ml_j cX10_readingsBy 32 (.if_icmp .ne) 42 35 := ⟨10, by decide +kernel, by decide, rfl⟩
theorem dX10_readingsBy_35 : ml_d cX10_readingsBy 35 (.iload_n 3) 1 36 := ⟨by decide +kernel, rfl⟩
theorem dX10_readingsBy_36 : ml_d cX10_readingsBy 36 (.aload_n 2) 1 37 := ⟨by decide +kernel, rfl⟩
theorem dX10_readingsBy_37 : ml_d cX10_readingsBy 37 (.iload 4) 2 39 := ⟨by decide +kernel, rfl⟩
theorem dX10_readingsBy_39 : ml_d cX10_readingsBy 39 (.iaload) 1 40 := ⟨by decide +kernel, rfl⟩
theorem dX10_readingsBy_40 : ml_d cX10_readingsBy 40 (.iadd) 1 41 := ⟨by decide +kernel, rfl⟩
theorem dX10_readingsBy_41 : ml_d cX10_readingsBy 41 (.istore_n 3) 1 42 := ⟨by decide +kernel, rfl⟩
theorem dX10_readingsBy_42 : ml_d cX10_readingsBy 42 (.iload 5) 2 44 := ⟨by decide +kernel, rfl⟩
theorem dX10_readingsBy_44 : ml_d cX10_readingsBy 44 (.aload_n 1) 1 45 := ⟨by decide +kernel, rfl⟩
theorem dX10_readingsBy_45 : ml_d cX10_readingsBy 45 (.arraylength) 1 46 := ⟨by decide +kernel, rfl⟩
theorem dX10_readingsBy_46 : ml_j cX10_readingsBy 46 (.if_icmp .lt) 52 49 := ⟨6, by decide +kernel, by decide, rfl⟩
theorem dX10_readingsBy_49 : ml_j cX10_readingsBy 49 .goto 111 52 := ⟨62, by decide +kernel, by decide, rfl⟩
theorem dX10_readingsBy_52 : ml_d cX10_readingsBy 52 (.iconst 0) 1 53 := ⟨by decide +kernel, rfl⟩
theorem dX10_readingsBy_53 : ml_d cX10_readingsBy 53 (.istore 6) 2 55 := ⟨by decide +kernel, rfl⟩
theorem dX10_readingsBy_55 : ml_d cX10_readingsBy 55 (.iload 6) 2 57 := ⟨by decide +kernel, rfl⟩
theorem dX10_readingsBy_57 : ml_d cX10_readingsBy 57 (.aload_n 0) 1 58 := ⟨by decide +kernel, rfl⟩
theorem dX10_readingsBy_58 : ml_d cX10_readingsBy 58 (.getfield 26) 3 61 := ⟨by decide +kernel, rfl⟩
theorem dX10_readingsBy_61 : ml_d cX10_readingsBy 61 (.getfield 135) 3 64 := ⟨by decide +kernel, rfl⟩
theorem dX10_readingsBy_64 : ml_j cX10_readingsBy 64 (.if_icmp .ge) 111 67 := ⟨47, by decide +kernel, by decide, rfl⟩
theorem dX10_readingsBy_67 : ml_d cX10_readingsBy 67 (.aload_n 1) 1 68 := ⟨by decide +kernel, rfl⟩
theorem dX10_readingsBy_68 : ml_d cX10_readingsBy 68 (.iload 5) 2 70 := ⟨by decide +kernel, rfl⟩
theorem dX10_readingsBy_70 : ml_d cX10_readingsBy 70 (.iaload) 1 71 := ⟨by decide +kernel, rfl⟩
theorem dX10_readingsBy_71 : ml_d cX10_readingsBy 71 (.iload 6) 2 73 := ⟨by decide +kernel, rfl⟩
theorem dX10_readingsBy_73 : ml_d cX10_readingsBy 73 (.invokestatic 216) 3 76 := ⟨by decide +kernel, rfl⟩
theorem dX10_readingsBy_76 : ml_j cX10_readingsBy 76 (.ifCond .eq) 105 79 := ⟨29, by decide +kernel, by decide, rfl⟩
theorem dX10_readingsBy_79 : ml_d cX10_readingsBy 79 (.iload 4) 2 81 := ⟨by decide +kernel, rfl⟩
theorem dX10_readingsBy_81 : ml_d cX10_readingsBy 81 (.iload 6) 2 83 := ⟨by decide +kernel, rfl⟩
theorem dX10_readingsBy_83 : ml_d cX10_readingsBy 83 (.invokestatic 216) 3 86 := ⟨by decide +kernel, rfl⟩
theorem dX10_readingsBy_86 : ml_j cX10_readingsBy 86 (.ifCond .ne) 105 89 := ⟨19, by decide +kernel, by decide, rfl⟩
theorem dX10_readingsBy_89 : ml_d cX10_readingsBy 89 (.aload_n 2) 1 90 := ⟨by decide +kernel, rfl⟩
theorem dX10_readingsBy_90 : ml_d cX10_readingsBy 90 (.iload 4) 2 92 := ⟨by decide +kernel, rfl⟩
theorem dX10_readingsBy_92 : ml_d cX10_readingsBy 92 (.iconst 1) 1 93 := ⟨by decide +kernel, rfl⟩
theorem dX10_readingsBy_93 : ml_d cX10_readingsBy 93 (.iload 6) 2 95 := ⟨by decide +kernel, rfl⟩
theorem dX10_readingsBy_95 : ml_d cX10_readingsBy 95 (.ishl) 1 96 := ⟨by decide +kernel, rfl⟩
theorem dX10_readingsBy_96 : ml_d cX10_readingsBy 96 (.ior) 1 97 := ⟨by decide +kernel, rfl⟩
theorem dX10_readingsBy_97 : ml_d cX10_readingsBy 97 (.dup2) 1 98 := ⟨by decide +kernel, rfl⟩
theorem dX10_readingsBy_98 : ml_d cX10_readingsBy 98 (.iaload) 1 99 := ⟨by decide +kernel, rfl⟩
theorem dX10_readingsBy_99 : ml_d cX10_readingsBy 99 (.aload_n 2) 1 100 := ⟨by decide +kernel, rfl⟩
theorem dX10_readingsBy_100 : ml_d cX10_readingsBy 100 (.iload 4) 2 102 := ⟨by decide +kernel, rfl⟩
theorem dX10_readingsBy_102 : ml_d cX10_readingsBy 102 (.iaload) 1 103 := ⟨by decide +kernel, rfl⟩
theorem dX10_readingsBy_103 : ml_d cX10_readingsBy 103 (.iadd) 1 104 := ⟨by decide +kernel, rfl⟩
theorem dX10_readingsBy_104 : ml_d cX10_readingsBy 104 (.iastore) 1 105 := ⟨by decide +kernel, rfl⟩
theorem dX10_readingsBy_105 : ml_d cX10_readingsBy 105 (.iinc 6 1) 3 108 := ⟨by decide +kernel, rfl⟩
theorem dX10_readingsBy_108 : ml_j cX10_readingsBy 108 .goto 55 111 := ⟨(-53), by decide +kernel, by decide, rfl⟩
theorem dX10_readingsBy_111 : ml_d cX10_readingsBy 111 (.iinc 4 1) 3 114 := ⟨by decide +kernel, rfl⟩
theorem dX10_readingsBy_114 : ml_j cX10_readingsBy 114 .goto 14 117 := ⟨(-100), by decide +kernel, by decide, rfl⟩
theorem dX10_readingsBy_117 : ml_d cX10_readingsBy 117 (.iload_n 3) 1 118 := ⟨by decide +kernel, rfl⟩
theorem dX10_readingsBy_118 : ml_d cX10_readingsBy 118 (.ireturn) 1 119 := ⟨by decide +kernel, rfl⟩
def fX10_readingsBy_105 (k14 : Nat → Nat → Nat → Int32 → Int32 → ml_M → Option (Int32 × ml_M)) (k55 : Nat → Nat → Nat → Int32 → Int32 → Int32 → Int32 → ml_M → Option (Int32 × ml_M)) (l0 : Nat) (l1 : Nat) (l2 : Nat) (l3 : Int32) (l4 : Int32) (l5 : Int32) (l6 : Int32) (m : ml_M) : Option (Int32 × ml_M) :=
    k55 l0 l1 l2 l3 l4 l5 (l6 + (1 : Int32)) m
theorem vX10_readingsBy_105 {E : ml_E} (hL : ml_eL E = 7) {rv : Int32} {rm : ml_M} (hr : ∀ (pc pc' : Nat) (lv : List (Nat × ml_X)), ml_d cX10_readingsBy pc .ireturn 1 pc' → True → ml_V E "LostRoom" cX10_readingsBy 3 false rm pc lv [ml_i rv]) {k14 : Nat → Nat → Nat → Int32 → Int32 → ml_M → Option (Int32 × ml_M)} (hk14 : ∀ (l0 : Nat) (l1 : Nat) (l2 : Nat) (l3 : Int32) (l4 : Int32) (m : ml_M), k14 l0 l1 l2 l3 l4 m = some (rv, rm) → ml_V E "LostRoom" cX10_readingsBy 3 false m 14 [(0, ml_r l0), (1, ml_r l1), (2, ml_r l2), (3, ml_i l3), (4, ml_i l4)] []) {k55 : Nat → Nat → Nat → Int32 → Int32 → Int32 → Int32 → ml_M → Option (Int32 × ml_M)} (hk55 : ∀ (l0 : Nat) (l1 : Nat) (l2 : Nat) (l3 : Int32) (l4 : Int32) (l5 : Int32) (l6 : Int32) (m : ml_M), k55 l0 l1 l2 l3 l4 l5 l6 m = some (rv, rm) → ml_V E "LostRoom" cX10_readingsBy 3 false m 55 [(0, ml_r l0), (1, ml_r l1), (2, ml_r l2), (3, ml_i l3), (4, ml_i l4), (5, ml_i l5), (6, ml_i l6)] []) : ∀ (l0 : Nat) (l1 : Nat) (l2 : Nat) (l3 : Int32) (l4 : Int32) (l5 : Int32) (l6 : Int32) (m : ml_M), fX10_readingsBy_105 k14 k55 l0 l1 l2 l3 l4 l5 l6 m = some (rv, rm) → ml_V E "LostRoom" cX10_readingsBy 3 false m 105 [(0, ml_r l0), (1, ml_r l1), (2, ml_r l2), (3, ml_i l3), (4, ml_i l4), (5, ml_i l5), (6, ml_i l6)] [] := by
  intro l0 l1 l2 l3 l4 l5 l6 m h
  unfold fX10_readingsBy_105 at h
  exact ml_iinc (lv' := [(6, ml_i (l6 + (1 : Int32))), (0, ml_r l0), (1, ml_r l1), (2, ml_r l2), (3, ml_i l3), (4, ml_i l4), (5, ml_i l5)]) dX10_readingsBy_105 6 rfl (congrArg (l6 + ·) kc_i1) (ml_hn hL rfl) rfl <| ml_goto dX10_readingsBy_108 <| ml_V.sub [1, 2, 3, 4, 5, 6, 0] rfl (hk55 _ _ _ _ _ _ _ _ h)
def fX10_readingsBy_111 (k14 : Nat → Nat → Nat → Int32 → Int32 → ml_M → Option (Int32 × ml_M)) (l0 : Nat) (l1 : Nat) (l2 : Nat) (l3 : Int32) (l4 : Int32) (m : ml_M) : Option (Int32 × ml_M) :=
    k14 l0 l1 l2 l3 (l4 + (1 : Int32)) m
theorem vX10_readingsBy_111 {E : ml_E} (hL : ml_eL E = 7) {rv : Int32} {rm : ml_M} (hr : ∀ (pc pc' : Nat) (lv : List (Nat × ml_X)), ml_d cX10_readingsBy pc .ireturn 1 pc' → True → ml_V E "LostRoom" cX10_readingsBy 3 false rm pc lv [ml_i rv]) {k14 : Nat → Nat → Nat → Int32 → Int32 → ml_M → Option (Int32 × ml_M)} (hk14 : ∀ (l0 : Nat) (l1 : Nat) (l2 : Nat) (l3 : Int32) (l4 : Int32) (m : ml_M), k14 l0 l1 l2 l3 l4 m = some (rv, rm) → ml_V E "LostRoom" cX10_readingsBy 3 false m 14 [(0, ml_r l0), (1, ml_r l1), (2, ml_r l2), (3, ml_i l3), (4, ml_i l4)] []) : ∀ (l0 : Nat) (l1 : Nat) (l2 : Nat) (l3 : Int32) (l4 : Int32) (m : ml_M), fX10_readingsBy_111 k14 l0 l1 l2 l3 l4 m = some (rv, rm) → ml_V E "LostRoom" cX10_readingsBy 3 false m 111 [(0, ml_r l0), (1, ml_r l1), (2, ml_r l2), (3, ml_i l3), (4, ml_i l4)] [] := by
  intro l0 l1 l2 l3 l4 m h
  unfold fX10_readingsBy_111 at h
  exact ml_iinc (lv' := [(4, ml_i (l4 + (1 : Int32))), (0, ml_r l0), (1, ml_r l1), (2, ml_r l2), (3, ml_i l3)]) dX10_readingsBy_111 4 rfl (congrArg (l4 + ·) kc_i1) (ml_hn hL rfl) rfl <| ml_goto dX10_readingsBy_114 <| ml_V.sub [1, 2, 3, 4, 0] rfl (hk14 _ _ _ _ _ _ h)
def fX10_readingsBy_55 (k14 : Nat → Nat → Nat → Int32 → Int32 → ml_M → Option (Int32 × ml_M)) : Nat → Nat → Nat → Nat → Int32 → Int32 → Int32 → Int32 → ml_M → Option (Int32 × ml_M)
  | 0, _, _, _, _, _, _, _, _ => none
  | fu + 1, l0, l1, l2, l3, l4, l5, l6, m =>
    if (ml_K m l0).1 = 10 then
    ml_let (ml_R m l0 2) fun a2872 =>
    if (ml_K m a2872).1 = 1 then
    if (ml_I m a2872 3) ≤ l6 then
    fX10_readingsBy_111 k14 l0 l1 l2 l3 l4 m
    else
    if ml_in m l1 20 l5 then
    ml_b1 (fX10_has (ml_I m l1 l5.toNatClampNeg) l6 m) fun r2876 =>
    if r2876 = 0 then
    fX10_readingsBy_105 k14 (fX10_readingsBy_55 k14 fu) l0 l1 l2 l3 l4 l5 l6 m
    else
    ml_b1 (fX10_has l4 l6 m) fun r2878 =>
    if r2878 = 0 then
    if ml_in m l2 20 (l4 ||| ((1 : Int32) <<< (l6 &&& 31))) then
    if ml_in m l2 20 l4 then
    if ml_in m l2 20 (l4 ||| ((1 : Int32) <<< (l6 &&& 31))) then
    ml_let (ml_sI m l2 (l4 ||| ((1 : Int32) <<< (l6 &&& 31))).toNatClampNeg ((ml_I m l2 (l4 ||| ((1 : Int32) <<< (l6 &&& 31))).toNatClampNeg) + (ml_I m l2 l4.toNatClampNeg))) fun m2882 =>
    fX10_readingsBy_105 k14 (fX10_readingsBy_55 k14 fu) l0 l1 l2 l3 l4 l5 l6 m2882
    else none
    else none
    else none
    else
    fX10_readingsBy_105 k14 (fX10_readingsBy_55 k14 fu) l0 l1 l2 l3 l4 l5 l6 m
    else none
    else none
    else none
theorem vX10_readingsBy_55 {E : ml_E} (hL : ml_eL E = 7) {rv : Int32} {rm : ml_M} (hr : ∀ (pc pc' : Nat) (lv : List (Nat × ml_X)), ml_d cX10_readingsBy pc .ireturn 1 pc' → True → ml_V E "LostRoom" cX10_readingsBy 3 false rm pc lv [ml_i rv]) {k14 : Nat → Nat → Nat → Int32 → Int32 → ml_M → Option (Int32 × ml_M)} (hk14 : ∀ (l0 : Nat) (l1 : Nat) (l2 : Nat) (l3 : Int32) (l4 : Int32) (m : ml_M), k14 l0 l1 l2 l3 l4 m = some (rv, rm) → ml_V E "LostRoom" cX10_readingsBy 3 false m 14 [(0, ml_r l0), (1, ml_r l1), (2, ml_r l2), (3, ml_i l3), (4, ml_i l4)] []) : ∀ (fu : Nat) (l0 : Nat) (l1 : Nat) (l2 : Nat) (l3 : Int32) (l4 : Int32) (l5 : Int32) (l6 : Int32) (m : ml_M), fX10_readingsBy_55 k14 fu l0 l1 l2 l3 l4 l5 l6 m = some (rv, rm) → ml_V E "LostRoom" cX10_readingsBy 3 false m 55 [(0, ml_r l0), (1, ml_r l1), (2, ml_r l2), (3, ml_i l3), (4, ml_i l4), (5, ml_i l5), (6, ml_i l6)] [] := by
  intro fu
  induction fu with
  | zero => intro l0 l1 l2 l3 l4 l5 l6 m h; exact ml_none h
  | succ fu ih =>
    intro l0 l1 l2 l3 l4 l5 l6 m h
    have hk55 := ih
    unfold fX10_readingsBy_55 at h
    exact ml_iload dX10_readingsBy_55 6 rfl <| ml_aload_n dX10_readingsBy_57 0 rfl <| ml_ck_of h fun hc2871 h => ml_getR dX10_readingsBy_58 wb_189 hc2871 <| ml_lx (mk := ml_r) h fun a2872 h => ml_ck_of h fun hc2873 h => ml_getI dX10_readingsBy_61 wb_190 hc2873 <| ml_icmp_ge dX10_readingsBy_64 h (fun _ h => ml_V.sub [0, 1, 2, 3, 4] rfl (vX10_readingsBy_111 hL hr hk14 _ _ _ _ _ _ h)) (fun _ h => ml_aload_n dX10_readingsBy_67 1 rfl <| ml_iload dX10_readingsBy_68 5 rfl <| ml_ck_of h fun hi2874 h => ml_iald dX10_readingsBy_70 hi2874 <| ml_iload dX10_readingsBy_71 6 rfl <| ml_b1_of h fun r2876 hv2875 h => ml_callS dX10_readingsBy_73 wm_489 wb_299 (sX10_has hv2875) rfl (Nat.le_of_ble_eq_true rfl) (Nat.le_of_ble_eq_true rfl) rfl <| ml_if_eq dX10_readingsBy_76 h (fun _ h => ml_V.sub [0, 1, 2, 3, 4, 5, 6] rfl (vX10_readingsBy_105 hL hr hk14 hk55 _ _ _ _ _ _ _ _ h)) (fun _ h => ml_iload dX10_readingsBy_79 4 rfl <| ml_iload dX10_readingsBy_81 6 rfl <| ml_b1_of h fun r2878 hv2877 h => ml_callS dX10_readingsBy_83 wm_489 wb_299 (sX10_has hv2877) rfl (Nat.le_of_ble_eq_true rfl) (Nat.le_of_ble_eq_true rfl) rfl <| ml_if_ne dX10_readingsBy_86 h (fun _ h => ml_V.sub [0, 1, 2, 3, 4, 5, 6] rfl (vX10_readingsBy_105 hL hr hk14 hk55 _ _ _ _ _ _ _ _ h)) (fun _ h => ml_aload_n dX10_readingsBy_89 2 rfl <| ml_iload dX10_readingsBy_90 4 rfl <| ml_iconst dX10_readingsBy_92 kc_i1 <| ml_iload dX10_readingsBy_93 6 rfl <| ml_ishl dX10_readingsBy_95 <| ml_ior dX10_readingsBy_96 <| ml_dup2 dX10_readingsBy_97 rfl rfl <| ml_ck_of h fun hi2879 h => ml_iald dX10_readingsBy_98 hi2879 <| ml_aload_n dX10_readingsBy_99 2 rfl <| ml_iload dX10_readingsBy_100 4 rfl <| ml_ck_of h fun hi2880 h => ml_iald dX10_readingsBy_102 hi2880 <| ml_iadd dX10_readingsBy_103 <| ml_ck_of h fun hi2881 h => ml_iast dX10_readingsBy_104 hi2881 <| ml_lt (m := m) rfl h fun m2882 em2883 h => ml_V.sub [0, 1, 2, 3, 4, 5, 6] rfl (vX10_readingsBy_105 hL hr hk14 hk55 _ _ _ _ _ _ _ _ h))))
def fX10_readingsBy_42 (k14 : Nat → Nat → Nat → Int32 → Int32 → ml_M → Option (Int32 × ml_M)) (l0 : Nat) (l1 : Nat) (l2 : Nat) (l3 : Int32) (l4 : Int32) (l5 : Int32) (m : ml_M) : Option (Int32 × ml_M) :=
    if (ml_K m l1).1 = 20 then
    if l5 < (Int32.ofNat (ml_K m l1).2) then
    fX10_readingsBy_55 k14 ml_fu l0 l1 l2 l3 l4 l5 (0 : Int32) m
    else
    fX10_readingsBy_111 k14 l0 l1 l2 l3 l4 m
    else none
theorem vX10_readingsBy_42 {E : ml_E} (hL : ml_eL E = 7) {rv : Int32} {rm : ml_M} (hr : ∀ (pc pc' : Nat) (lv : List (Nat × ml_X)), ml_d cX10_readingsBy pc .ireturn 1 pc' → True → ml_V E "LostRoom" cX10_readingsBy 3 false rm pc lv [ml_i rv]) {k14 : Nat → Nat → Nat → Int32 → Int32 → ml_M → Option (Int32 × ml_M)} (hk14 : ∀ (l0 : Nat) (l1 : Nat) (l2 : Nat) (l3 : Int32) (l4 : Int32) (m : ml_M), k14 l0 l1 l2 l3 l4 m = some (rv, rm) → ml_V E "LostRoom" cX10_readingsBy 3 false m 14 [(0, ml_r l0), (1, ml_r l1), (2, ml_r l2), (3, ml_i l3), (4, ml_i l4)] []) : ∀ (l0 : Nat) (l1 : Nat) (l2 : Nat) (l3 : Int32) (l4 : Int32) (l5 : Int32) (m : ml_M), fX10_readingsBy_42 k14 l0 l1 l2 l3 l4 l5 m = some (rv, rm) → ml_V E "LostRoom" cX10_readingsBy 3 false m 42 [(0, ml_r l0), (1, ml_r l1), (2, ml_r l2), (3, ml_i l3), (4, ml_i l4), (5, ml_i l5)] [] := by
  intro l0 l1 l2 l3 l4 l5 m h
  unfold fX10_readingsBy_42 at h
  exact ml_iload dX10_readingsBy_42 5 rfl <| ml_aload_n dX10_readingsBy_44 1 rfl <| ml_ck_of h fun hc2884 h => ml_alen (kd := 20) dX10_readingsBy_45 (by decide) hc2884 <| ml_icmp_lt dX10_readingsBy_46 h (fun _ h => ml_iconst dX10_readingsBy_52 kc_i0 <| ml_istore (lv' := [(6, ml_i (0 : Int32)), (0, ml_r l0), (1, ml_r l1), (2, ml_r l2), (3, ml_i l3), (4, ml_i l4), (5, ml_i l5)]) dX10_readingsBy_53 (ml_hn hL rfl) rfl <| ml_V.sub [1, 2, 3, 4, 5, 6, 0] rfl (vX10_readingsBy_55 hL hr hk14 ml_fu _ _ _ _ _ _ _ _ h)) (fun _ h => ml_goto dX10_readingsBy_49 <| ml_V.sub [0, 1, 2, 3, 4] rfl (vX10_readingsBy_111 hL hr hk14 _ _ _ _ _ _ h))
def fX10_readingsBy_14 : Nat → Nat → Nat → Nat → Int32 → Int32 → ml_M → Option (Int32 × ml_M)
  | 0, _, _, _, _, _, _ => none
  | fu + 1, l0, l1, l2, l3, l4, m =>
    if (ml_K m l2).1 = 20 then
    if (Int32.ofNat (ml_K m l2).2) ≤ l4 then
    some (l3, m)
    else
    ml_b1 (fJ6_bitCount_0f7a4 l4 m) fun r2887 =>
    if (ml_K m l1).1 = 20 then
    if r2887 = (Int32.ofNat (ml_K m l1).2) then
    if ml_in m l2 20 l4 then
    ml_let (l3 + (ml_I m l2 l4.toNatClampNeg)) fun x2890 =>
    fX10_readingsBy_42 (fX10_readingsBy_14 fu) l0 l1 l2 x2890 l4 r2887 m
    else none
    else
    fX10_readingsBy_42 (fX10_readingsBy_14 fu) l0 l1 l2 l3 l4 r2887 m
    else none
    else none
theorem vX10_readingsBy_14 {E : ml_E} (hL : ml_eL E = 7) {rv : Int32} {rm : ml_M} (hr : ∀ (pc pc' : Nat) (lv : List (Nat × ml_X)), ml_d cX10_readingsBy pc .ireturn 1 pc' → True → ml_V E "LostRoom" cX10_readingsBy 3 false rm pc lv [ml_i rv]) : ∀ (fu : Nat) (l0 : Nat) (l1 : Nat) (l2 : Nat) (l3 : Int32) (l4 : Int32) (m : ml_M), fX10_readingsBy_14 fu l0 l1 l2 l3 l4 m = some (rv, rm) → ml_V E "LostRoom" cX10_readingsBy 3 false m 14 [(0, ml_r l0), (1, ml_r l1), (2, ml_r l2), (3, ml_i l3), (4, ml_i l4)] [] := by
  intro fu
  induction fu with
  | zero => intro l0 l1 l2 l3 l4 m h; exact ml_none h
  | succ fu ih =>
    intro l0 l1 l2 l3 l4 m h
    have hk14 := ih
    unfold fX10_readingsBy_14 at h
    exact ml_iload dX10_readingsBy_14 4 rfl <| ml_aload_n dX10_readingsBy_16 2 rfl <| ml_ck_of h fun hc2885 h => ml_alen (kd := 20) dX10_readingsBy_17 (by decide) hc2885 <| ml_icmp_ge dX10_readingsBy_18 h (fun _ h => ml_iload_n dX10_readingsBy_117 3 rfl <| ml_rI (mk := ml_i) hr dX10_readingsBy_118 (fun _ => trivial) h) (fun _ h => ml_iload dX10_readingsBy_21 4 rfl <| ml_b1_of h fun r2887 hv2886 h => ml_callS dX10_readingsBy_23 wm_459 wb_287 (sJ6_bitCount_0f7a4 hv2886) rfl (Nat.le_of_ble_eq_true rfl) (Nat.le_of_ble_eq_true rfl) rfl <| ml_istore (lv' := [(5, ml_i r2887), (0, ml_r l0), (1, ml_r l1), (2, ml_r l2), (3, ml_i l3), (4, ml_i l4)]) dX10_readingsBy_26 (ml_hn hL rfl) rfl <| ml_iload dX10_readingsBy_28 0 rfl <| ml_aload_n dX10_readingsBy_30 2 rfl <| ml_ck_of h fun hc2888 h => ml_alen (kd := 20) dX10_readingsBy_31 (by decide) hc2888 <| ml_icmp_ne dX10_readingsBy_32 h (fun _ h => ml_V.sub [1, 2, 3, 4, 5, 0] rfl (vX10_readingsBy_42 hL hr hk14 _ _ _ _ _ _ _ h)) (fun _ h => ml_iload_n dX10_readingsBy_35 4 rfl <| ml_aload_n dX10_readingsBy_36 3 rfl <| ml_iload dX10_readingsBy_37 5 rfl <| ml_ck_of h fun hi2889 h => ml_iald dX10_readingsBy_39 hi2889 <| ml_iadd dX10_readingsBy_40 <| ml_lx (mk := ml_i) h fun x2890 h => ml_istore_n (lv' := [(3, ml_i x2890), (5, ml_i r2887), (0, ml_r l0), (1, ml_r l1), (2, ml_r l2), (4, ml_i l4)]) dX10_readingsBy_41 (ml_hn hL rfl) rfl <| ml_V.sub [2, 3, 4, 0, 5, 1] rfl (vX10_readingsBy_42 hL hr hk14 _ _ _ _ _ _ _ h)))
def fX10_readingsBy (l0 : Nat) (l1 : Nat) (l2 : Nat) (m : ml_M) : Option (Int32 × ml_M) :=
    ml_b1 (fJ7_fill_53178 l2 (0 : Int32) m) fun m2892 =>
    if ml_in m2892 l2 20 (0 : Int32) then
    ml_let (ml_sI m2892 l2 (0 : Int32).toNatClampNeg (1 : Int32)) fun m2894 =>
    fX10_readingsBy_14 ml_fu l0 l1 l2 (0 : Int32) (0 : Int32) m2894
    else none
theorem wX10_readingsBy_0 {E : ml_E} (hL : ml_eL E = 7) {rv : Int32} {rm : ml_M} (hr : ∀ (pc pc' : Nat) (lv : List (Nat × ml_X)), ml_d cX10_readingsBy pc .ireturn 1 pc' → True → ml_V E "LostRoom" cX10_readingsBy 3 false rm pc lv [ml_i rv]) : ∀ (l0 : Nat) (l1 : Nat) (l2 : Nat) (m : ml_M), fX10_readingsBy l0 l1 l2 m = some (rv, rm) → ml_V E "LostRoom" cX10_readingsBy 3 false m 0 [(0, ml_r l0), (1, ml_r l1), (2, ml_r l2)] [] := by
  intro l0 l1 l2 m h
  unfold fX10_readingsBy at h
  exact ml_aload_n dX10_readingsBy_0 2 rfl <| ml_iconst dX10_readingsBy_1 kc_i0 <| ml_b1_of h fun m2892 hv2891 h => ml_callS dX10_readingsBy_2 wm_647 wb_319 (sJ7_fill_53178 hv2891) rfl (Nat.le_of_ble_eq_true rfl) (Nat.le_of_ble_eq_true rfl) rfl <| ml_aload_n dX10_readingsBy_5 2 rfl <| ml_iconst dX10_readingsBy_6 kc_i0 <| ml_iconst dX10_readingsBy_7 kc_i1 <| ml_ck_of h fun hi2893 h => ml_iast dX10_readingsBy_8 hi2893 <| ml_lt (m := m2892) rfl h fun m2894 em2895 h => ml_iconst dX10_readingsBy_9 kc_i0 <| ml_istore_n (lv' := [(3, ml_i (0 : Int32)), (0, ml_r l0), (1, ml_r l1), (2, ml_r l2)]) dX10_readingsBy_10 (ml_hn hL rfl) rfl <| ml_iconst dX10_readingsBy_11 kc_i0 <| ml_istore (lv' := [(4, ml_i (0 : Int32)), (3, ml_i (0 : Int32)), (0, ml_r l0), (1, ml_r l1), (2, ml_r l2)]) dX10_readingsBy_12 (ml_hn hL rfl) rfl <| ml_V.sub [2, 3, 4, 1, 0] rfl (vX10_readingsBy_14 hL hr  ml_fu _ _ _ _ _ _ h)
theorem sX10_readingsBy {l0 : Nat} {l1 : Nat} {l2 : Nat} {m : ml_M} {rv : Int32} {rm : ml_M} (h : fX10_readingsBy l0 l1 l2 m = some (rv, rm)) : ml_Sn yX10_readingsBy cX10_readingsBy 7 (some .int) 3 [ml_r l0, ml_r l1, ml_r l2] m (some (ml_i rv)) rm :=
  ml_Sn_of (P := True) (ini := false) (by decide +kernel) (Nat.le_of_ble_eq_true rfl) (fun h => by cases h) (fun _ => ml_RkI rv) fun E hL hr => wX10_readingsBy_0 hL hr _ _ _ _ h
theorem dX10_readings_0 : ml_d cX10_readings 0 (.aload_n 0) 1 1 := ⟨by decide +kernel, rfl⟩
theorem dX10_readings_1 : ml_d cX10_readings 1 (.aload_n 0) 1 2 := ⟨by decide +kernel, rfl⟩
theorem dX10_readings_2 : ml_d cX10_readings 2 (.invokevirtual 273) 3 5 := ⟨by decide +kernel, rfl⟩
theorem dX10_readings_5 : ml_d cX10_readings 5 (.iconst 1) 1 6 := ⟨by decide +kernel, rfl⟩
theorem dX10_readings_6 : ml_d cX10_readings 6 (.aload_n 0) 1 7 := ⟨by decide +kernel, rfl⟩
theorem dX10_readings_7 : ml_d cX10_readings 7 (.getfield 26) 3 10 := ⟨by decide +kernel, rfl⟩
theorem dX10_readings_10 : ml_d cX10_readings 10 (.getfield 135) 3 13 := ⟨by decide +kernel, rfl⟩
theorem dX10_readings_13 : ml_d cX10_readings 13 (.ishl) 1 14 := ⟨by decide +kernel, rfl⟩
theorem dX10_readings_14 : ml_d cX10_readings 14 (.newarray .int) 2 16 := ⟨by decide +kernel, rfl⟩
theorem dX10_readings_16 : ml_d cX10_readings 16 (.invokevirtual 277) 3 19 := ⟨by decide +kernel, rfl⟩
theorem dX10_readings_19 : ml_d cX10_readings 19 (.ireturn) 1 20 := ⟨by decide +kernel, rfl⟩
def fX10_readings (l0 : Nat) (m : ml_M) : Option (Int32 × ml_M) :=
    if (ml_K m l0).1 = 10 then
    ml_b2 (fX10_trunksForLines l0 m) fun a2898 m2899 =>
    if (ml_K m2899 l0).1 = 10 then
    ml_let (ml_R m2899 l0 2) fun a2901 =>
    if (ml_K m2899 a2901).1 = 1 then
    if ml_len ((1 : Int32) <<< ((ml_I m2899 a2901 3) &&& 31)) then
    ml_let (ml_n m2899 + 1) fun a2904 =>
    ml_let (ml_al m2899 20 ((1 : Int32) <<< ((ml_I m2899 a2901 3) &&& 31)).toNatClampNeg ((1 : Int32) <<< ((ml_I m2899 a2901 3) &&& 31)).toNatClampNeg) fun m2905 =>
    if (ml_K m2905 l0).1 = 10 then
    ml_b2 (fX10_readingsBy l0 a2898 a2904 m2905) fun r2910 m2911 =>
    some (r2910, m2911)
    else none
    else none
    else none
    else none
    else none
theorem wX10_readings_0 {E : ml_E} (hL : ml_eL E = 1) {rv : Int32} {rm : ml_M} (hr : ∀ (pc pc' : Nat) (lv : List (Nat × ml_X)), ml_d cX10_readings pc .ireturn 1 pc' → True → ml_V E "LostRoom" cX10_readings 4 false rm pc lv [ml_i rv]) : ∀ (l0 : Nat) (m : ml_M), fX10_readings l0 m = some (rv, rm) → ml_V E "LostRoom" cX10_readings 4 false m 0 [(0, ml_r l0)] [] := by
  intro l0 m h
  unfold fX10_readings at h
  exact ml_aload_n dX10_readings_0 0 rfl <| ml_aload_n dX10_readings_1 0 rfl <| ml_ck_of h fun hc2897 h => ml_b2_of h fun a2898 m2899 hv2896 h => ml_callV dX10_readings_2 wm_651 wb_390 hc2897 (sX10_trunksForLines hv2896) rfl (Nat.le_of_ble_eq_true rfl) (Nat.le_of_ble_eq_true rfl) rfl <| ml_iconst dX10_readings_5 kc_i1 <| ml_aload_n dX10_readings_6 0 rfl <| ml_ck_of h fun hc2900 h => ml_getR dX10_readings_7 wb_189 hc2900 <| ml_lx (mk := ml_r) h fun a2901 h => ml_ck_of h fun hc2902 h => ml_getI dX10_readings_10 wb_190 hc2902 <| ml_ishl dX10_readings_13 <| ml_ck_of h fun hl2903 h => ml_newAs (kd := 20) dX10_readings_14 wb_0 hl2903 h fun a2904 m2905 hn2906 hc2907 h => ml_ck_of h fun hc2909 h => ml_b2_of h fun r2910 m2911 hv2908 h => ml_callV dX10_readings_16 wm_655 wb_391 hc2909 (sX10_readingsBy hv2908) rfl (Nat.le_of_ble_eq_true rfl) (Nat.le_of_ble_eq_true rfl) rfl <| ml_rI (mk := ml_i) hr dX10_readings_19 (fun _ => trivial) h
theorem sX10_readings {l0 : Nat} {m : ml_M} {rv : Int32} {rm : ml_M} (h : fX10_readings l0 m = some (rv, rm)) : ml_Sn yX10_readings cX10_readings 1 (some .int) 4 [ml_r l0] m (some (ml_i rv)) rm :=
  ml_Sn_of (P := True) (ini := false) (by decide +kernel) (Nat.le_of_ble_eq_true rfl) (fun h => by cases h) (fun _ => ml_RkI rv) fun E hL hr => wX10_readings_0 hL hr _ _ h
theorem dX11_lineFits_0 : ml_d cX11_lineFits 0 (.aload_n 0) 1 1 := ⟨by decide +kernel, rfl⟩
theorem dX11_lineFits_1 : ml_d cX11_lineFits 1 (.iload_n 2) 1 2 := ⟨by decide +kernel, rfl⟩
theorem dX11_lineFits_2 : ml_d cX11_lineFits 2 (.invokevirtual 196) 3 5 := ⟨by decide +kernel, rfl⟩
theorem dX11_lineFits_5 : ml_d cX11_lineFits 5 (.aload_n 0) 1 6 := ⟨by decide +kernel, rfl⟩
theorem dX11_lineFits_6 : ml_d cX11_lineFits 6 (.getfield 62) 3 9 := ⟨by decide +kernel, rfl⟩
theorem dX11_lineFits_9 : ml_d cX11_lineFits 9 (.iconst 3) 1 10 := ⟨by decide +kernel, rfl⟩
theorem dX11_lineFits_10 : ml_d cX11_lineFits 10 (.iload_n 1) 1 11 := ⟨by decide +kernel, rfl⟩
theorem dX11_lineFits_11 : ml_d cX11_lineFits 11 (.imul) 1 12 := ⟨by decide +kernel, rfl⟩
theorem dX11_lineFits_12 : ml_d cX11_lineFits 12 (.iaload) 1 13 := ⟨by decide +kernel, rfl⟩
theorem dX11_lineFits_13 : ml_j cX11_lineFits 13 (.if_icmp .ne) 20 16 := ⟨7, by decide +kernel, by decide, rfl⟩
theorem dX11_lineFits_16 : ml_d cX11_lineFits 16 (.iconst 1) 1 17 := ⟨by decide +kernel, rfl⟩
theorem dX11_lineFits_17 : ml_j cX11_lineFits 17 .goto 21 20 := ⟨4, by decide +kernel, by decide, rfl⟩
theorem dX11_lineFits_20 : ml_d cX11_lineFits 20 (.iconst 0) 1 21 := ⟨by decide +kernel, rfl⟩
theorem dX11_lineFits_21 : ml_d cX11_lineFits 21 (.istore_n 3) 1 22 := ⟨by decide +kernel, rfl⟩
theorem dX11_lineFits_22 : ml_d cX11_lineFits 22 (.iconst 0) 1 23 := ⟨by decide +kernel, rfl⟩
theorem dX11_lineFits_23 : ml_d cX11_lineFits 23 (.istore 4) 2 25 := ⟨by decide +kernel, rfl⟩
theorem dX11_lineFits_25 : ml_d cX11_lineFits 25 (.iload 4) 2 27 := ⟨by decide +kernel, rfl⟩
theorem dX11_lineFits_27 : ml_d cX11_lineFits 27 (.aload_n 0) 1 28 := ⟨by decide +kernel, rfl⟩
theorem dX11_lineFits_28 : ml_d cX11_lineFits 28 (.getfield 181) 3 31 := ⟨by decide +kernel, rfl⟩
theorem dX11_lineFits_31 : ml_j cX11_lineFits 31 (.if_icmp .ge) 111 34 := ⟨80, by decide +kernel, by decide, rfl⟩
theorem dX11_lineFits_34 : ml_d cX11_lineFits 34 (.iload_n 3) 1 35 := ⟨by decide +kernel, rfl⟩
theorem dX11_lineFits_35 : ml_j cX11_lineFits 35 (.ifCond .eq) 111 38 := ⟨76, by decide +kernel, by decide, rfl⟩
theorem dX11_lineFits_38 : ml_d cX11_lineFits 38 (.aload_n 0) 1 39 := ⟨by decide +kernel, rfl⟩
theorem dX11_lineFits_39 : ml_d cX11_lineFits 39 (.iload 4) 2 41 := ⟨by decide +kernel, rfl⟩
theorem dX11_lineFits_41 : ml_d cX11_lineFits 41 (.invokevirtual 205) 3 44 := ⟨by decide +kernel, rfl⟩
theorem dX11_lineFits_44 : ml_d cX11_lineFits 44 (.iload_n 2) 1 45 := ⟨by decide +kernel, rfl⟩
theorem dX11_lineFits_45 : ml_j cX11_lineFits 45 (.if_icmp .ne) 99 48 := ⟨54, by decide +kernel, by decide, rfl⟩
theorem dX11_lineFits_48 : ml_d cX11_lineFits 48 (.aload_n 0) 1 49 := ⟨by decide +kernel, rfl⟩
theorem dX11_lineFits_49 : ml_d cX11_lineFits 49 (.aload_n 0) 1 50 := ⟨by decide +kernel, rfl⟩
theorem dX11_lineFits_50 : ml_d cX11_lineFits 50 (.getfield 62) 3 53 := ⟨by decide +kernel, rfl⟩
theorem dX11_lineFits_53 : ml_d cX11_lineFits 53 (.iconst 3) 1 54 := ⟨by decide +kernel, rfl⟩
theorem dX11_lineFits_54 : ml_d cX11_lineFits 54 (.iload_n 1) 1 55 := ⟨by decide +kernel, rfl⟩
theorem dX11_lineFits_55 : ml_d cX11_lineFits 55 (.imul) 1 56 := ⟨by decide +kernel, rfl⟩
theorem dX11_lineFits_56 : ml_d cX11_lineFits 56 (.iconst 1) 1 57 := ⟨by decide +kernel, rfl⟩
theorem dX11_lineFits_57 : ml_d cX11_lineFits 57 (.iadd) 1 58 := ⟨by decide +kernel, rfl⟩
theorem dX11_lineFits_58 : ml_d cX11_lineFits 58 (.iaload) 1 59 := ⟨by decide +kernel, rfl⟩
theorem dX11_lineFits_59 : ml_d cX11_lineFits 59 (.aload_n 0) 1 60 := ⟨by decide +kernel, rfl⟩
theorem dX11_lineFits_60 : ml_d cX11_lineFits 60 (.getfield 62) 3 63 := ⟨by decide +kernel, rfl⟩
theorem dX11_lineFits_63 : ml_d cX11_lineFits 63 (.iconst 3) 1 64 := ⟨by decide +kernel, rfl⟩
theorem dX11_lineFits_64 : ml_d cX11_lineFits 64 (.iload_n 1) 1 65 := ⟨by decide +kernel, rfl⟩
theorem dX11_lineFits_65 : ml_d cX11_lineFits 65 (.imul) 1 66 := ⟨by decide +kernel, rfl⟩
theorem dX11_lineFits_66 : ml_d cX11_lineFits 66 (.iconst 2) 1 67 := ⟨by decide +kernel, rfl⟩
theorem dX11_lineFits_67 : ml_d cX11_lineFits 67 (.iadd) 1 68 := ⟨by decide +kernel, rfl⟩
theorem dX11_lineFits_68 : ml_d cX11_lineFits 68 (.iaload) 1 69 := ⟨by decide +kernel, rfl⟩
theorem dX11_lineFits_69 : ml_d cX11_lineFits 69 (.aload_n 0) 1 70 := ⟨by decide +kernel, rfl⟩
theorem dX11_lineFits_70 : ml_d cX11_lineFits 70 (.getfield 47) 3 73 := ⟨by decide +kernel, rfl⟩
theorem dX11_lineFits_73 : ml_d cX11_lineFits 73 (.bipush 7) 2 75 := ⟨by decide +kernel, rfl⟩
theorem dX11_lineFits_75 : ml_d cX11_lineFits 75 (.iload 4) 2 77 := ⟨by decide +kernel, rfl⟩
theorem dX11_lineFits_77 : ml_d cX11_lineFits 77 (.imul) 1 78 := ⟨by decide +kernel, rfl⟩
theorem dX11_lineFits_78 : ml_d cX11_lineFits 78 (.iconst 1) 1 79 := ⟨by decide +kernel, rfl⟩
theorem dX11_lineFits_79 : ml_d cX11_lineFits 79 (.iadd) 1 80 := ⟨by decide +kernel, rfl⟩
theorem dX11_lineFits_80 : ml_d cX11_lineFits 80 (.iaload) 1 81 := ⟨by decide +kernel, rfl⟩
theorem dX11_lineFits_81 : ml_d cX11_lineFits 81 (.aload_n 0) 1 82 := ⟨by decide +kernel, rfl⟩
theorem dX11_lineFits_82 : ml_d cX11_lineFits 82 (.getfield 47) 3 85 := ⟨by decide +kernel, rfl⟩
theorem dX11_lineFits_85 : ml_d cX11_lineFits 85 (.bipush 7) 2 87 := ⟨by decide +kernel, rfl⟩
theorem dX11_lineFits_87 : ml_d cX11_lineFits 87 (.iload 4) 2 89 := ⟨by decide +kernel, rfl⟩
theorem dX11_lineFits_89 : ml_d cX11_lineFits 89 (.imul) 1 90 := ⟨by decide +kernel, rfl⟩
theorem dX11_lineFits_90 : ml_d cX11_lineFits 90 (.iconst 2) 1 91 := ⟨by decide +kernel, rfl⟩
theorem dX11_lineFits_91 : ml_d cX11_lineFits 91 (.iadd) 1 92 := ⟨by decide +kernel, rfl⟩
theorem dX11_lineFits_92 : ml_d cX11_lineFits 92 (.iaload) 1 93 := ⟨by decide +kernel, rfl⟩
theorem dX11_lineFits_93 : ml_d cX11_lineFits 93 (.invokevirtual 235) 3 96 := ⟨by decide +kernel, rfl⟩
theorem dX11_lineFits_96 : ml_j cX11_lineFits 96 (.ifCond .eq) 103 99 := ⟨7, by decide +kernel, by decide, rfl⟩
theorem dX11_lineFits_99 : ml_d cX11_lineFits 99 (.iconst 1) 1 100 := ⟨by decide +kernel, rfl⟩
theorem dX11_lineFits_100 : ml_j cX11_lineFits 100 .goto 104 103 := ⟨4, by decide +kernel, by decide, rfl⟩
theorem dX11_lineFits_103 : ml_d cX11_lineFits 103 (.iconst 0) 1 104 := ⟨by decide +kernel, rfl⟩
theorem dX11_lineFits_104 : ml_d cX11_lineFits 104 (.istore_n 3) 1 105 := ⟨by decide +kernel, rfl⟩
theorem dX11_lineFits_105 : ml_d cX11_lineFits 105 (.iinc 4 1) 3 108 := ⟨by decide +kernel, rfl⟩
theorem dX11_lineFits_108 : ml_j cX11_lineFits 108 .goto 25 111 := ⟨(-83), by decide +kernel, by decide, rfl⟩
theorem dX11_lineFits_111 : ml_d cX11_lineFits 111 (.iload_n 3) 1 112 := ⟨by decide +kernel, rfl⟩
theorem dX11_lineFits_112 : ml_d cX11_lineFits 112 (.ireturn) 1 113 := ⟨by decide +kernel, rfl⟩
def fX11_lineFits_104 (k25 : Nat → Int32 → Int32 → Int32 → Int32 → ml_M → Option Int32) (l0 : Nat) (l1 : Int32) (l2 : Int32) (l4 : Int32) (t0 : Int32) (m : ml_M) : Option Int32 :=
    k25 l0 l1 l2 t0 (l4 + (1 : Int32)) m
theorem vX11_lineFits_104 {E : ml_E} (hL : ml_eL E = 5) {rv : Int32} {m : ml_M} (hr : ∀ (pc pc' : Nat) (lv : List (Nat × ml_X)), ml_d cX11_lineFits pc .ireturn 1 pc' → (rv = 0 ∨ rv = 1) → ml_V E "LostRoomModel" cX11_lineFits 4 false m pc lv [ml_i rv]) {k25 : Nat → Int32 → Int32 → Int32 → Int32 → ml_M → Option Int32} (hk25 : ∀ (l0 : Nat) (l1 : Int32) (l2 : Int32) (l3 : Int32) (l4 : Int32), k25 l0 l1 l2 l3 l4 m = some rv → ml_V E "LostRoomModel" cX11_lineFits 4 false m 25 [(0, ml_r l0), (1, ml_i l1), (2, ml_i l2), (3, ml_i l3), (4, ml_i l4)] []) : ∀ (l0 : Nat) (l1 : Int32) (l2 : Int32) (l4 : Int32) (t0 : Int32), fX11_lineFits_104 k25 l0 l1 l2 l4 t0 m = some rv → ml_V E "LostRoomModel" cX11_lineFits 4 false m 104 [(0, ml_r l0), (1, ml_i l1), (2, ml_i l2), (4, ml_i l4)] [ml_i t0] := by
  intro l0 l1 l2 l4 t0 h
  unfold fX11_lineFits_104 at h
  exact ml_istore_n (lv' := [(3, ml_i t0), (0, ml_r l0), (1, ml_i l1), (2, ml_i l2), (4, ml_i l4)]) dX11_lineFits_104 (ml_hn hL rfl) rfl <| ml_iinc (lv' := [(4, ml_i (l4 + (1 : Int32))), (3, ml_i t0), (0, ml_r l0), (1, ml_i l1), (2, ml_i l2)]) dX11_lineFits_105 4 rfl (congrArg (l4 + ·) kc_i1) (ml_hn hL rfl) rfl <| ml_goto dX11_lineFits_108 <| ml_V.sub [2, 3, 4, 1, 0] rfl (hk25 _ _ _ _ _ h)
def fX11_lineFits_99 (k25 : Nat → Int32 → Int32 → Int32 → Int32 → ml_M → Option Int32) (l0 : Nat) (l1 : Int32) (l2 : Int32) (l4 : Int32) (m : ml_M) : Option Int32 :=
    fX11_lineFits_104 k25 l0 l1 l2 l4 (1 : Int32) m
theorem vX11_lineFits_99 {E : ml_E} (hL : ml_eL E = 5) {rv : Int32} {m : ml_M} (hr : ∀ (pc pc' : Nat) (lv : List (Nat × ml_X)), ml_d cX11_lineFits pc .ireturn 1 pc' → (rv = 0 ∨ rv = 1) → ml_V E "LostRoomModel" cX11_lineFits 4 false m pc lv [ml_i rv]) {k25 : Nat → Int32 → Int32 → Int32 → Int32 → ml_M → Option Int32} (hk25 : ∀ (l0 : Nat) (l1 : Int32) (l2 : Int32) (l3 : Int32) (l4 : Int32), k25 l0 l1 l2 l3 l4 m = some rv → ml_V E "LostRoomModel" cX11_lineFits 4 false m 25 [(0, ml_r l0), (1, ml_i l1), (2, ml_i l2), (3, ml_i l3), (4, ml_i l4)] []) : ∀ (l0 : Nat) (l1 : Int32) (l2 : Int32) (l4 : Int32), fX11_lineFits_99 k25 l0 l1 l2 l4 m = some rv → ml_V E "LostRoomModel" cX11_lineFits 4 false m 99 [(0, ml_r l0), (1, ml_i l1), (2, ml_i l2), (4, ml_i l4)] [] := by
  intro l0 l1 l2 l4 h
  unfold fX11_lineFits_99 at h
  exact ml_iconst dX11_lineFits_99 kc_i1 <| ml_goto dX11_lineFits_100 <| ml_V.sub [0, 1, 2, 3] rfl (vX11_lineFits_104 hL hr hk25 _ _ _ _ _ h)
def fX11_lineFits_25 : Nat → Nat → Int32 → Int32 → Int32 → Int32 → ml_M → Option Int32
  | 0, _, _, _, _, _, _ => none
  | fu + 1, l0, l1, l2, l3, l4, m =>
    if (ml_K m l0).1 = 11 then
    if (ml_I m l0 24) ≤ l4 then
    if l3 = 0 ∨ l3 = 1 then some l3 else none
    else
    if l3 = 0 then
    if l3 = 0 ∨ l3 = 1 then some l3 else none
    else
    ml_b1 (fX11_trunkOf l0 l4 m) fun r2916 =>
    if r2916 = l2 then
    ml_let (ml_R m l0 35) fun a2917 =>
    if ml_in m a2917 20 (((3 : Int32) * l1) + (1 : Int32)) then
    ml_let (ml_R m l0 35) fun a2919 =>
    if ml_in m a2919 20 (((3 : Int32) * l1) + (2 : Int32)) then
    ml_let (ml_R m l0 25) fun a2921 =>
    if ml_in m a2921 20 (((7 : Int32) * l4) + (1 : Int32)) then
    ml_let (ml_R m l0 25) fun a2923 =>
    if ml_in m a2923 20 (((7 : Int32) * l4) + (2 : Int32)) then
    ml_b1 (fX11_meetYears l0 (ml_I m a2917 (((3 : Int32) * l1) + (1 : Int32)).toNatClampNeg) (ml_I m a2919 (((3 : Int32) * l1) + (2 : Int32)).toNatClampNeg) (ml_I m a2921 (((7 : Int32) * l4) + (1 : Int32)).toNatClampNeg) (ml_I m a2923 (((7 : Int32) * l4) + (2 : Int32)).toNatClampNeg) m) fun r2926 =>
    if r2926 = 0 then
    fX11_lineFits_104 (fX11_lineFits_25 fu) l0 l1 l2 l4 (0 : Int32) m
    else
    fX11_lineFits_99 (fX11_lineFits_25 fu) l0 l1 l2 l4 m
    else none
    else none
    else none
    else none
    else
    fX11_lineFits_99 (fX11_lineFits_25 fu) l0 l1 l2 l4 m
    else none
theorem vX11_lineFits_25 {E : ml_E} (hL : ml_eL E = 5) {rv : Int32} {m : ml_M} (hr : ∀ (pc pc' : Nat) (lv : List (Nat × ml_X)), ml_d cX11_lineFits pc .ireturn 1 pc' → (rv = 0 ∨ rv = 1) → ml_V E "LostRoomModel" cX11_lineFits 4 false m pc lv [ml_i rv]) : ∀ (fu : Nat) (l0 : Nat) (l1 : Int32) (l2 : Int32) (l3 : Int32) (l4 : Int32), fX11_lineFits_25 fu l0 l1 l2 l3 l4 m = some rv → ml_V E "LostRoomModel" cX11_lineFits 4 false m 25 [(0, ml_r l0), (1, ml_i l1), (2, ml_i l2), (3, ml_i l3), (4, ml_i l4)] [] := by
  intro fu
  induction fu with
  | zero => intro l0 l1 l2 l3 l4 h; exact ml_none h
  | succ fu ih =>
    intro l0 l1 l2 l3 l4 h
    have hk25 := ih
    unfold fX11_lineFits_25 at h
    exact ml_iload dX11_lineFits_25 4 rfl <| ml_aload_n dX11_lineFits_27 0 rfl <| ml_ck_of h fun hc2912 h => ml_getI dX11_lineFits_28 wb_228 hc2912 <| ml_icmp_ge dX11_lineFits_31 h (fun _ h => ml_iload_n dX11_lineFits_111 3 rfl <| ml_ck_of h fun hz2913 h => ml_rp (mk := ml_i) hr dX11_lineFits_112 (fun e => e ▸ hz2913) h) (fun _ h => ml_iload_n dX11_lineFits_34 3 rfl <| ml_if_eq dX11_lineFits_35 h (fun _ h => ml_iload_n dX11_lineFits_111 3 rfl <| ml_ck_of h fun hz2914 h => ml_rp (mk := ml_i) hr dX11_lineFits_112 (fun e => e ▸ hz2914) h) (fun _ h => ml_aload_n dX11_lineFits_38 0 rfl <| ml_iload dX11_lineFits_39 4 rfl <| ml_b1_of h fun r2916 hv2915 h => ml_callV dX11_lineFits_41 wm_325 wb_229 hc2912 (sX11_trunkOf hv2915) rfl (Nat.le_of_ble_eq_true rfl) (Nat.le_of_ble_eq_true rfl) rfl <| ml_iload_n dX11_lineFits_44 2 rfl <| ml_icmp_ne dX11_lineFits_45 h (fun _ h => ml_V.sub [0, 1, 2, 4] rfl (vX11_lineFits_99 hL hr hk25 _ _ _ _ h)) (fun _ h => ml_aload_n dX11_lineFits_48 0 rfl <| ml_aload_n dX11_lineFits_49 0 rfl <| ml_getR dX11_lineFits_50 wb_385 hc2912 <| ml_lx (mk := ml_r) h fun a2917 h => ml_iconst dX11_lineFits_53 kc_i3 <| ml_iload_n dX11_lineFits_54 1 rfl <| ml_imul dX11_lineFits_55 <| ml_iconst dX11_lineFits_56 kc_i1 <| ml_iadd dX11_lineFits_57 <| ml_ck_of h fun hi2918 h => ml_iald dX11_lineFits_58 hi2918 <| ml_aload_n dX11_lineFits_59 0 rfl <| ml_getR dX11_lineFits_60 wb_385 hc2912 <| ml_lx (mk := ml_r) h fun a2919 h => ml_iconst dX11_lineFits_63 kc_i3 <| ml_iload_n dX11_lineFits_64 1 rfl <| ml_imul dX11_lineFits_65 <| ml_iconst dX11_lineFits_66 kc_i2 <| ml_iadd dX11_lineFits_67 <| ml_ck_of h fun hi2920 h => ml_iald dX11_lineFits_68 hi2920 <| ml_aload_n dX11_lineFits_69 0 rfl <| ml_getR dX11_lineFits_70 wb_227 hc2912 <| ml_lx (mk := ml_r) h fun a2921 h => ml_bipush dX11_lineFits_73 kc_b7 <| ml_iload dX11_lineFits_75 4 rfl <| ml_imul dX11_lineFits_77 <| ml_iconst dX11_lineFits_78 kc_i1 <| ml_iadd dX11_lineFits_79 <| ml_ck_of h fun hi2922 h => ml_iald dX11_lineFits_80 hi2922 <| ml_aload_n dX11_lineFits_81 0 rfl <| ml_getR dX11_lineFits_82 wb_227 hc2912 <| ml_lx (mk := ml_r) h fun a2923 h => ml_bipush dX11_lineFits_85 kc_b7 <| ml_iload dX11_lineFits_87 4 rfl <| ml_imul dX11_lineFits_89 <| ml_iconst dX11_lineFits_90 kc_i2 <| ml_iadd dX11_lineFits_91 <| ml_ck_of h fun hi2924 h => ml_iald dX11_lineFits_92 hi2924 <| ml_b1_of h fun r2926 hv2925 h => ml_callV dX11_lineFits_93 wm_440 wb_282 hc2912 (sX11_meetYears hv2925) rfl (Nat.le_of_ble_eq_true rfl) (Nat.le_of_ble_eq_true rfl) rfl <| ml_if_eq dX11_lineFits_96 h (fun _ h => ml_iconst dX11_lineFits_103 kc_i0 <| ml_V.sub [0, 1, 2, 4] rfl (vX11_lineFits_104 hL hr hk25 _ _ _ _ _ h)) (fun _ h => ml_V.sub [0, 1, 2, 4] rfl (vX11_lineFits_99 hL hr hk25 _ _ _ _ h)))))
def fX11_lineFits_21 (l0 : Nat) (l1 : Int32) (l2 : Int32) (t0 : Int32) (m : ml_M) : Option Int32 :=
    fX11_lineFits_25 ml_fu l0 l1 l2 t0 (0 : Int32) m
theorem vX11_lineFits_21 {E : ml_E} (hL : ml_eL E = 5) {rv : Int32} {m : ml_M} (hr : ∀ (pc pc' : Nat) (lv : List (Nat × ml_X)), ml_d cX11_lineFits pc .ireturn 1 pc' → (rv = 0 ∨ rv = 1) → ml_V E "LostRoomModel" cX11_lineFits 4 false m pc lv [ml_i rv]) : ∀ (l0 : Nat) (l1 : Int32) (l2 : Int32) (t0 : Int32), fX11_lineFits_21 l0 l1 l2 t0 m = some rv → ml_V E "LostRoomModel" cX11_lineFits 4 false m 21 [(0, ml_r l0), (1, ml_i l1), (2, ml_i l2)] [ml_i t0] := by
  intro l0 l1 l2 t0 h
  unfold fX11_lineFits_21 at h
  exact ml_istore_n (lv' := [(3, ml_i t0), (0, ml_r l0), (1, ml_i l1), (2, ml_i l2)]) dX11_lineFits_21 (ml_hn hL rfl) rfl <| ml_iconst dX11_lineFits_22 kc_i0 <| ml_istore (lv' := [(4, ml_i (0 : Int32)), (3, ml_i t0), (0, ml_r l0), (1, ml_i l1), (2, ml_i l2)]) dX11_lineFits_23 (ml_hn hL rfl) rfl <| ml_V.sub [2, 3, 4, 1, 0] rfl (vX11_lineFits_25 hL hr  ml_fu _ _ _ _ _ h)
def fX11_lineFits (l0 : Nat) (l1 : Int32) (l2 : Int32) (m : ml_M) : Option Int32 :=
    if (ml_K m l0).1 = 11 then
    ml_b1 (fX11_lyingMany l0 l2 m) fun r2929 =>
    ml_let (ml_R m l0 35) fun a2930 =>
    if ml_in m a2930 20 ((3 : Int32) * l1) then
    if r2929 = (ml_I m a2930 ((3 : Int32) * l1).toNatClampNeg) then
    fX11_lineFits_21 l0 l1 l2 (1 : Int32) m
    else
    fX11_lineFits_21 l0 l1 l2 (0 : Int32) m
    else none
    else none
theorem wX11_lineFits_0 {E : ml_E} (hL : ml_eL E = 5) {rv : Int32} {m : ml_M} (hr : ∀ (pc pc' : Nat) (lv : List (Nat × ml_X)), ml_d cX11_lineFits pc .ireturn 1 pc' → (rv = 0 ∨ rv = 1) → ml_V E "LostRoomModel" cX11_lineFits 4 false m pc lv [ml_i rv]) : ∀ (l0 : Nat) (l1 : Int32) (l2 : Int32), fX11_lineFits l0 l1 l2 m = some rv → ml_V E "LostRoomModel" cX11_lineFits 4 false m 0 [(0, ml_r l0), (1, ml_i l1), (2, ml_i l2)] [] := by
  intro l0 l1 l2 h
  unfold fX11_lineFits at h
  exact ml_aload_n dX11_lineFits_0 0 rfl <| ml_iload_n dX11_lineFits_1 2 rfl <| ml_ck_of h fun hc2928 h => ml_b1_of h fun r2929 hv2927 h => ml_callV dX11_lineFits_2 wm_329 wb_230 hc2928 (sX11_lyingMany hv2927) rfl (Nat.le_of_ble_eq_true rfl) (Nat.le_of_ble_eq_true rfl) rfl <| ml_aload_n dX11_lineFits_5 0 rfl <| ml_getR dX11_lineFits_6 wb_385 hc2928 <| ml_lx (mk := ml_r) h fun a2930 h => ml_iconst dX11_lineFits_9 kc_i3 <| ml_iload_n dX11_lineFits_10 1 rfl <| ml_imul dX11_lineFits_11 <| ml_ck_of h fun hi2931 h => ml_iald dX11_lineFits_12 hi2931 <| ml_icmp_ne dX11_lineFits_13 h (fun _ h => ml_iconst dX11_lineFits_20 kc_i0 <| ml_V.sub [0, 1, 2] rfl (vX11_lineFits_21 hL hr  _ _ _ _ h)) (fun _ h => ml_iconst dX11_lineFits_16 kc_i1 <| ml_goto dX11_lineFits_17 <| ml_V.sub [0, 1, 2] rfl (vX11_lineFits_21 hL hr  _ _ _ _ h))
theorem sX11_lineFits {l0 : Nat} {l1 : Int32} {l2 : Int32} {m : ml_M} {rv : Int32} (h : fX11_lineFits l0 l1 l2 m = some rv) : ml_Sn yX11_lineFits cX11_lineFits 5 (some .boolean) 4 [ml_r l0, ml_i l1, ml_i l2] m (some (ml_i rv)) m :=
  ml_Sn_of (P := (rv = 0 ∨ rv = 1)) (ini := false) (by decide +kernel) (Nat.le_of_ble_eq_true rfl) (fun h => by cases h) (fun hz => ml_RkZ rv hz) fun E hL hr => wX11_lineFits_0 hL hr _ _ _ h
theorem dX11_readingsBy_0 : ml_d cX11_readingsBy 0 (.iconst 1) 1 1 := ⟨by decide +kernel, rfl⟩
theorem dX11_readingsBy_1 : ml_d cX11_readingsBy 1 (.aload_n 0) 1 2 := ⟨by decide +kernel, rfl⟩
theorem dX11_readingsBy_2 : ml_d cX11_readingsBy 2 (.getfield 175) 3 5 := ⟨by decide +kernel, rfl⟩
theorem dX11_readingsBy_5 : ml_d cX11_readingsBy 5 (.ishl) 1 6 := ⟨by decide +kernel, rfl⟩
theorem dX11_readingsBy_6 : ml_d cX11_readingsBy 6 (.istore_n 3) 1 7 := ⟨by decide +kernel, rfl⟩
theorem dX11_readingsBy_7 : ml_d cX11_readingsBy 7 (.aload_n 0) 1 8 := ⟨by decide +kernel, rfl⟩
theorem dX11_readingsBy_8 : ml_d cX11_readingsBy 8 (.getfield 184) 3 11 := ⟨by decide +kernel, rfl⟩
theorem dX11_readingsBy_11 : ml_d cX11_readingsBy 11 (.istore 4) 2 13 := ⟨by decide +kernel, rfl⟩
theorem dX11_readingsBy_13 : ml_d cX11_readingsBy 13 (.iload 4) 2 15 := ⟨by decide +kernel, rfl⟩
theorem dX11_readingsBy_15 : ml_j cX11_readingsBy 15 (.ifCond .lt) 173 18 := ⟨158, by decide +kernel, by decide, rfl⟩
theorem dX11_readingsBy_18 : ml_d cX11_readingsBy 18 (.iconst 0) 1 19 := ⟨by decide +kernel, rfl⟩
theorem dX11_readingsBy_19 : ml_d cX11_readingsBy 19 (.istore 5) 2 21 := ⟨by decide +kernel, rfl⟩
theorem dX11_readingsBy_21 : ml_d cX11_readingsBy 21 (.iload 5) 2 23 := ⟨by decide +kernel, rfl⟩
theorem dX11_readingsBy_23 : ml_d cX11_readingsBy 23 (.iload_n 3) 1 24 := ⟨by decide +kernel, rfl⟩
theorem dX11_readingsBy_24 : ml_j cX11_readingsBy 24 (.if_icmp .ge) 167 27 := ⟨143, by decide +kernel, by decide, rfl⟩
theorem dX11_readingsBy_27 : ml_d cX11_readingsBy 27 (.iload 4) 2 29 := ⟨by decide +kernel, rfl⟩
theorem dX11_readingsBy_29 : ml_d cX11_readingsBy 29 (.aload_n 0) 1 30 := ⟨by decide +kernel, rfl⟩
theorem dX11_readingsBy_30 : ml_d cX11_readingsBy 30 (.getfield 184) 3 33 := ⟨by decide +kernel, rfl⟩
theorem dX11_readingsBy_33 : ml_j cX11_readingsBy 33 (.if_icmp .ne) 40 36 := ⟨7, by decide +kernel, by decide, rfl⟩
theorem dX11_readingsBy_36 : ml_d cX11_readingsBy 36 (.iconst 1) 1 37 := ⟨by decide +kernel, rfl⟩
theorem dX11_readingsBy_37 : ml_j cX11_readingsBy 37 .goto 41 40 := ⟨4, by decide +kernel, by decide, rfl⟩
theorem dX11_readingsBy_40 : ml_d cX11_readingsBy 40 (.iconst 0) 1 41 := ⟨by decide +kernel, rfl⟩
theorem dX11_readingsBy_41 : ml_d cX11_readingsBy 41 (.istore 6) 2 43 := ⟨by decide +kernel, rfl⟩
theorem dX11_readingsBy_43 : ml_d cX11_readingsBy 43 (.iconst 0) 1 44 := ⟨by decide +kernel, rfl⟩
theorem dX11_readingsBy_44 : ml_d cX11_readingsBy 44 (.istore 7) 2 46 := ⟨by decide +kernel, rfl⟩
theorem dX11_readingsBy_46 : ml_d cX11_readingsBy 46 (.iload 7) 2 48 := ⟨by decide +kernel, rfl⟩
theorem dX11_readingsBy_48 : ml_d cX11_readingsBy 48 (.aload_n 0) 1 49 := ⟨by decide +kernel, rfl⟩
theorem dX11_readingsBy_49 : ml_d cX11_readingsBy 49 (.getfield 175) 3 52 := ⟨by decide +kernel, rfl⟩
theorem dX11_readingsBy_52 : ml_j cX11_readingsBy 52 (.if_icmp .ge) 145 55 := ⟨93, by decide +kernel, by decide, rfl⟩
theorem dX11_readingsBy_55 : ml_d cX11_readingsBy 55 (.iload 4) 2 57 := ⟨by decide +kernel, rfl⟩
theorem dX11_readingsBy_57 : ml_d cX11_readingsBy 57 (.aload_n 0) 1 58 := ⟨by decide +kernel, rfl⟩
theorem dX11_readingsBy_58 : ml_d cX11_readingsBy 58 (.getfield 184) 3 61 := ⟨by decide +kernel, rfl⟩
theorem dX11_readingsBy_61 : ml_j cX11_readingsBy 61 (.if_icmp .ge) 145 64 := ⟨84, by decide +kernel, by decide, rfl⟩
theorem dX11_readingsBy_64 : ml_d cX11_readingsBy 64 (.iload 5) 2 66 := ⟨by decide +kernel, rfl⟩
theorem dX11_readingsBy_66 : ml_d cX11_readingsBy 66 (.iload 7) 2 68 := ⟨by decide +kernel, rfl⟩
theorem dX11_readingsBy_68 : ml_d cX11_readingsBy 68 (.invokestatic 260) 3 71 := ⟨by decide +kernel, rfl⟩
theorem dX11_readingsBy_71 : ml_j cX11_readingsBy 71 (.ifCond .ne) 101 74 := ⟨30, by decide +kernel, by decide, rfl⟩
theorem dX11_readingsBy_74 : ml_d cX11_readingsBy 74 (.iload 4) 2 76 := ⟨by decide +kernel, rfl⟩
theorem dX11_readingsBy_76 : ml_d cX11_readingsBy 76 (.iload_n 1) 1 77 := ⟨by decide +kernel, rfl⟩
theorem dX11_readingsBy_77 : ml_j cX11_readingsBy 77 (.if_icmp .ne) 86 80 := ⟨9, by decide +kernel, by decide, rfl⟩
theorem dX11_readingsBy_80 : ml_d cX11_readingsBy 80 (.iload 7) 2 82 := ⟨by decide +kernel, rfl⟩
theorem dX11_readingsBy_82 : ml_d cX11_readingsBy 82 (.iload_n 2) 1 83 := ⟨by decide +kernel, rfl⟩
theorem dX11_readingsBy_83 : ml_j cX11_readingsBy 83 (.if_icmp .ne) 101 86 := ⟨18, by decide +kernel, by decide, rfl⟩
theorem dX11_readingsBy_86 : ml_d cX11_readingsBy 86 (.aload_n 0) 1 87 := ⟨by decide +kernel, rfl⟩
theorem dX11_readingsBy_87 : ml_d cX11_readingsBy 87 (.iload 4) 2 89 := ⟨by decide +kernel, rfl⟩
theorem dX11_readingsBy_89 : ml_d cX11_readingsBy 89 (.iload 7) 2 91 := ⟨by decide +kernel, rfl⟩
theorem dX11_readingsBy_91 : ml_d cX11_readingsBy 91 (.invokevirtual 319) 3 94 := ⟨by decide +kernel, rfl⟩
theorem dX11_readingsBy_94 : ml_j cX11_readingsBy 94 (.ifCond .eq) 101 97 := ⟨7, by decide +kernel, by decide, rfl⟩
theorem dX11_readingsBy_97 : ml_d cX11_readingsBy 97 (.iconst 1) 1 98 := ⟨by decide +kernel, rfl⟩
theorem dX11_readingsBy_98 : ml_j cX11_readingsBy 98 .goto 102 101 := ⟨4, by decide +kernel, by decide, rfl⟩
theorem dX11_readingsBy_101 : ml_d cX11_readingsBy 101 (.iconst 0) 1 102 := ⟨by decide +kernel, rfl⟩
theorem dX11_readingsBy_102 : ml_d cX11_readingsBy 102 (.istore 8) 2 104 := ⟨by decide +kernel, rfl⟩
theorem dX11_readingsBy_104 : ml_d cX11_readingsBy 104 (.iload 6) 2 106 := ⟨by decide +kernel, rfl⟩
theorem dX11_readingsBy_106 : ml_d cX11_readingsBy 106 (.iload 8) 2 108 := ⟨by decide +kernel, rfl⟩
theorem dX11_readingsBy_108 : ml_j cX11_readingsBy 108 (.ifCond .eq) 135 111 := ⟨27, by decide +kernel, by decide, rfl⟩
theorem dX11_readingsBy_111 : ml_d cX11_readingsBy 111 (.aload_n 0) 1 112 := ⟨by decide +kernel, rfl⟩
theorem dX11_readingsBy_112 : ml_d cX11_readingsBy 112 (.getfield 65) 3 115 := ⟨by decide +kernel, rfl⟩
theorem dX11_readingsBy_115 : ml_d cX11_readingsBy 115 (.sipush 256) 3 118 := ⟨by decide +kernel, rfl⟩
theorem dX11_readingsBy_118 : ml_d cX11_readingsBy 118 (.iload 4) 2 120 := ⟨by decide +kernel, rfl⟩
theorem dX11_readingsBy_120 : ml_d cX11_readingsBy 120 (.iconst 1) 1 121 := ⟨by decide +kernel, rfl⟩
theorem dX11_readingsBy_121 : ml_d cX11_readingsBy 121 (.iadd) 1 122 := ⟨by decide +kernel, rfl⟩
theorem dX11_readingsBy_122 : ml_d cX11_readingsBy 122 (.imul) 1 123 := ⟨by decide +kernel, rfl⟩
theorem dX11_readingsBy_123 : ml_d cX11_readingsBy 123 (.iload 5) 2 125 := ⟨by decide +kernel, rfl⟩
theorem dX11_readingsBy_125 : ml_d cX11_readingsBy 125 (.iconst 1) 1 126 := ⟨by decide +kernel, rfl⟩
theorem dX11_readingsBy_126 : ml_d cX11_readingsBy 126 (.iload 7) 2 128 := ⟨by decide +kernel, rfl⟩
theorem dX11_readingsBy_128 : ml_d cX11_readingsBy 128 (.ishl) 1 129 := ⟨by decide +kernel, rfl⟩
theorem dX11_readingsBy_129 : ml_d cX11_readingsBy 129 (.ior) 1 130 := ⟨by decide +kernel, rfl⟩
theorem dX11_readingsBy_130 : ml_d cX11_readingsBy 130 (.iadd) 1 131 := ⟨by decide +kernel, rfl⟩
theorem dX11_readingsBy_131 : ml_d cX11_readingsBy 131 (.iaload) 1 132 := ⟨by decide +kernel, rfl⟩
theorem dX11_readingsBy_132 : ml_j cX11_readingsBy 132 .goto 136 135 := ⟨4, by decide +kernel, by decide, rfl⟩
theorem dX11_readingsBy_135 : ml_d cX11_readingsBy 135 (.iconst 0) 1 136 := ⟨by decide +kernel, rfl⟩
theorem dX11_readingsBy_136 : ml_d cX11_readingsBy 136 (.iadd) 1 137 := ⟨by decide +kernel, rfl⟩
theorem dX11_readingsBy_137 : ml_d cX11_readingsBy 137 (.istore 6) 2 139 := ⟨by decide +kernel, rfl⟩
theorem dX11_readingsBy_139 : ml_d cX11_readingsBy 139 (.iinc 7 1) 3 142 := ⟨by decide +kernel, rfl⟩
theorem dX11_readingsBy_142 : ml_j cX11_readingsBy 142 .goto 46 145 := ⟨(-96), by decide +kernel, by decide, rfl⟩
theorem dX11_readingsBy_145 : ml_d cX11_readingsBy 145 (.aload_n 0) 1 146 := ⟨by decide +kernel, rfl⟩
theorem dX11_readingsBy_146 : ml_d cX11_readingsBy 146 (.getfield 65) 3 149 := ⟨by decide +kernel, rfl⟩
theorem dX11_readingsBy_149 : ml_d cX11_readingsBy 149 (.sipush 256) 3 152 := ⟨by decide +kernel, rfl⟩
theorem dX11_readingsBy_152 : ml_d cX11_readingsBy 152 (.iload 4) 2 154 := ⟨by decide +kernel, rfl⟩
theorem dX11_readingsBy_154 : ml_d cX11_readingsBy 154 (.imul) 1 155 := ⟨by decide +kernel, rfl⟩
theorem dX11_readingsBy_155 : ml_d cX11_readingsBy 155 (.iload 5) 2 157 := ⟨by decide +kernel, rfl⟩
theorem dX11_readingsBy_157 : ml_d cX11_readingsBy 157 (.iadd) 1 158 := ⟨by decide +kernel, rfl⟩
theorem dX11_readingsBy_158 : ml_d cX11_readingsBy 158 (.iload 6) 2 160 := ⟨by decide +kernel, rfl⟩
theorem dX11_readingsBy_160 : ml_d cX11_readingsBy 160 (.iastore) 1 161 := ⟨by decide +kernel, rfl⟩
theorem dX11_readingsBy_161 : ml_d cX11_readingsBy 161 (.iinc 5 1) 3 164 := ⟨by decide +kernel, rfl⟩
theorem dX11_readingsBy_164 : ml_j cX11_readingsBy 164 .goto 21 167 := ⟨(-143), by decide +kernel, by decide, rfl⟩
theorem dX11_readingsBy_167 : ml_d cX11_readingsBy 167 (.iinc 4 (-1)) 3 170 := ⟨by decide +kernel, rfl⟩
theorem dX11_readingsBy_170 : ml_j cX11_readingsBy 170 .goto 13 173 := ⟨(-157), by decide +kernel, by decide, rfl⟩
theorem dX11_readingsBy_173 : ml_d cX11_readingsBy 173 (.aload_n 0) 1 174 := ⟨by decide +kernel, rfl⟩
theorem dX11_readingsBy_174 : ml_d cX11_readingsBy 174 (.getfield 65) 3 177 := ⟨by decide +kernel, rfl⟩
theorem dX11_readingsBy_177 : ml_d cX11_readingsBy 177 (.iconst 0) 1 178 := ⟨by decide +kernel, rfl⟩
theorem dX11_readingsBy_178 : ml_d cX11_readingsBy 178 (.iaload) 1 179 := ⟨by decide +kernel, rfl⟩
theorem dX11_readingsBy_179 : ml_d cX11_readingsBy 179 (.ireturn) 1 180 := ⟨by decide +kernel, rfl⟩
def fX11_readingsBy_136 (k13 : Nat → Int32 → Int32 → Int32 → Int32 → ml_M → Option (Int32 × ml_M)) (k21 : Nat → Int32 → Int32 → Int32 → Int32 → Int32 → ml_M → Option (Int32 × ml_M)) (k46 : Nat → Int32 → Int32 → Int32 → Int32 → Int32 → Int32 → Int32 → ml_M → Option (Int32 × ml_M)) (l0 : Nat) (l1 : Int32) (l2 : Int32) (l3 : Int32) (l4 : Int32) (l5 : Int32) (l7 : Int32) (t0 : Int32) (t1 : Int32) (m : ml_M) : Option (Int32 × ml_M) :=
    ml_let (t1 + t0) fun x2932 =>
    k46 l0 l1 l2 l3 l4 l5 x2932 (l7 + (1 : Int32)) m
theorem vX11_readingsBy_136 {E : ml_E} (hL : ml_eL E = 9) {rv : Int32} {rm : ml_M} (hr : ∀ (pc pc' : Nat) (lv : List (Nat × ml_X)), ml_d cX11_readingsBy pc .ireturn 1 pc' → True → ml_V E "LostRoomModel" cX11_readingsBy 5 false rm pc lv [ml_i rv]) {k13 : Nat → Int32 → Int32 → Int32 → Int32 → ml_M → Option (Int32 × ml_M)} (hk13 : ∀ (l0 : Nat) (l1 : Int32) (l2 : Int32) (l3 : Int32) (l4 : Int32) (m : ml_M), k13 l0 l1 l2 l3 l4 m = some (rv, rm) → ml_V E "LostRoomModel" cX11_readingsBy 5 false m 13 [(0, ml_r l0), (1, ml_i l1), (2, ml_i l2), (3, ml_i l3), (4, ml_i l4)] []) {k21 : Nat → Int32 → Int32 → Int32 → Int32 → Int32 → ml_M → Option (Int32 × ml_M)} (hk21 : ∀ (l0 : Nat) (l1 : Int32) (l2 : Int32) (l3 : Int32) (l4 : Int32) (l5 : Int32) (m : ml_M), k21 l0 l1 l2 l3 l4 l5 m = some (rv, rm) → ml_V E "LostRoomModel" cX11_readingsBy 5 false m 21 [(0, ml_r l0), (1, ml_i l1), (2, ml_i l2), (3, ml_i l3), (4, ml_i l4), (5, ml_i l5)] []) {k46 : Nat → Int32 → Int32 → Int32 → Int32 → Int32 → Int32 → Int32 → ml_M → Option (Int32 × ml_M)} (hk46 : ∀ (l0 : Nat) (l1 : Int32) (l2 : Int32) (l3 : Int32) (l4 : Int32) (l5 : Int32) (l6 : Int32) (l7 : Int32) (m : ml_M), k46 l0 l1 l2 l3 l4 l5 l6 l7 m = some (rv, rm) → ml_V E "LostRoomModel" cX11_readingsBy 5 false m 46 [(0, ml_r l0), (1, ml_i l1), (2, ml_i l2), (3, ml_i l3), (4, ml_i l4), (5, ml_i l5), (6, ml_i l6), (7, ml_i l7)] []) : ∀ (l0 : Nat) (l1 : Int32) (l2 : Int32) (l3 : Int32) (l4 : Int32) (l5 : Int32) (l7 : Int32) (t0 : Int32) (t1 : Int32) (m : ml_M), fX11_readingsBy_136 k13 k21 k46 l0 l1 l2 l3 l4 l5 l7 t0 t1 m = some (rv, rm) → ml_V E "LostRoomModel" cX11_readingsBy 5 false m 136 [(0, ml_r l0), (1, ml_i l1), (2, ml_i l2), (3, ml_i l3), (4, ml_i l4), (5, ml_i l5), (7, ml_i l7)] [ml_i t0, ml_i t1] := by
  intro l0 l1 l2 l3 l4 l5 l7 t0 t1 m h
  unfold fX11_readingsBy_136 at h
  exact ml_iadd dX11_readingsBy_136 <| ml_lx (mk := ml_i) h fun x2932 h => ml_istore (lv' := [(6, ml_i x2932), (0, ml_r l0), (1, ml_i l1), (2, ml_i l2), (3, ml_i l3), (4, ml_i l4), (5, ml_i l5), (7, ml_i l7)]) dX11_readingsBy_137 (ml_hn hL rfl) rfl <| ml_iinc (lv' := [(7, ml_i (l7 + (1 : Int32))), (6, ml_i x2932), (0, ml_r l0), (1, ml_i l1), (2, ml_i l2), (3, ml_i l3), (4, ml_i l4), (5, ml_i l5)]) dX11_readingsBy_139 7 rfl (congrArg (l7 + ·) kc_i1) (ml_hn hL rfl) rfl <| ml_goto dX11_readingsBy_142 <| ml_V.sub [2, 3, 4, 5, 6, 7, 1, 0] rfl (hk46 _ _ _ _ _ _ _ _ _ h)
def fX11_readingsBy_102 (k13 : Nat → Int32 → Int32 → Int32 → Int32 → ml_M → Option (Int32 × ml_M)) (k21 : Nat → Int32 → Int32 → Int32 → Int32 → Int32 → ml_M → Option (Int32 × ml_M)) (k46 : Nat → Int32 → Int32 → Int32 → Int32 → Int32 → Int32 → Int32 → ml_M → Option (Int32 × ml_M)) (l0 : Nat) (l1 : Int32) (l2 : Int32) (l3 : Int32) (l4 : Int32) (l5 : Int32) (l6 : Int32) (l7 : Int32) (t0 : Int32) (m : ml_M) : Option (Int32 × ml_M) :=
    if t0 = 0 then
    fX11_readingsBy_136 k13 k21 k46 l0 l1 l2 l3 l4 l5 l7 (0 : Int32) l6 m
    else
    if (ml_K m l0).1 = 11 then
    ml_let (ml_R m l0 36) fun a2934 =>
    if ml_in m a2934 20 (((256 : Int32) * (l4 + (1 : Int32))) + (l5 ||| ((1 : Int32) <<< (l7 &&& 31)))) then
    fX11_readingsBy_136 k13 k21 k46 l0 l1 l2 l3 l4 l5 l7 (ml_I m a2934 (((256 : Int32) * (l4 + (1 : Int32))) + (l5 ||| ((1 : Int32) <<< (l7 &&& 31)))).toNatClampNeg) l6 m
    else none
    else none
theorem vX11_readingsBy_102 {E : ml_E} (hL : ml_eL E = 9) {rv : Int32} {rm : ml_M} (hr : ∀ (pc pc' : Nat) (lv : List (Nat × ml_X)), ml_d cX11_readingsBy pc .ireturn 1 pc' → True → ml_V E "LostRoomModel" cX11_readingsBy 5 false rm pc lv [ml_i rv]) {k13 : Nat → Int32 → Int32 → Int32 → Int32 → ml_M → Option (Int32 × ml_M)} (hk13 : ∀ (l0 : Nat) (l1 : Int32) (l2 : Int32) (l3 : Int32) (l4 : Int32) (m : ml_M), k13 l0 l1 l2 l3 l4 m = some (rv, rm) → ml_V E "LostRoomModel" cX11_readingsBy 5 false m 13 [(0, ml_r l0), (1, ml_i l1), (2, ml_i l2), (3, ml_i l3), (4, ml_i l4)] []) {k21 : Nat → Int32 → Int32 → Int32 → Int32 → Int32 → ml_M → Option (Int32 × ml_M)} (hk21 : ∀ (l0 : Nat) (l1 : Int32) (l2 : Int32) (l3 : Int32) (l4 : Int32) (l5 : Int32) (m : ml_M), k21 l0 l1 l2 l3 l4 l5 m = some (rv, rm) → ml_V E "LostRoomModel" cX11_readingsBy 5 false m 21 [(0, ml_r l0), (1, ml_i l1), (2, ml_i l2), (3, ml_i l3), (4, ml_i l4), (5, ml_i l5)] []) {k46 : Nat → Int32 → Int32 → Int32 → Int32 → Int32 → Int32 → Int32 → ml_M → Option (Int32 × ml_M)} (hk46 : ∀ (l0 : Nat) (l1 : Int32) (l2 : Int32) (l3 : Int32) (l4 : Int32) (l5 : Int32) (l6 : Int32) (l7 : Int32) (m : ml_M), k46 l0 l1 l2 l3 l4 l5 l6 l7 m = some (rv, rm) → ml_V E "LostRoomModel" cX11_readingsBy 5 false m 46 [(0, ml_r l0), (1, ml_i l1), (2, ml_i l2), (3, ml_i l3), (4, ml_i l4), (5, ml_i l5), (6, ml_i l6), (7, ml_i l7)] []) : ∀ (l0 : Nat) (l1 : Int32) (l2 : Int32) (l3 : Int32) (l4 : Int32) (l5 : Int32) (l6 : Int32) (l7 : Int32) (t0 : Int32) (m : ml_M), fX11_readingsBy_102 k13 k21 k46 l0 l1 l2 l3 l4 l5 l6 l7 t0 m = some (rv, rm) → ml_V E "LostRoomModel" cX11_readingsBy 5 false m 102 [(0, ml_r l0), (1, ml_i l1), (2, ml_i l2), (3, ml_i l3), (4, ml_i l4), (5, ml_i l5), (6, ml_i l6), (7, ml_i l7)] [ml_i t0] := by
  intro l0 l1 l2 l3 l4 l5 l6 l7 t0 m h
  unfold fX11_readingsBy_102 at h
  exact ml_istore (lv' := [(8, ml_i t0), (0, ml_r l0), (1, ml_i l1), (2, ml_i l2), (3, ml_i l3), (4, ml_i l4), (5, ml_i l5), (6, ml_i l6), (7, ml_i l7)]) dX11_readingsBy_102 (ml_hn hL rfl) rfl <| ml_iload dX11_readingsBy_104 7 rfl <| ml_iload dX11_readingsBy_106 0 rfl <| ml_if_eq dX11_readingsBy_108 h (fun _ h => ml_iconst dX11_readingsBy_135 kc_i0 <| ml_V.sub [1, 2, 3, 4, 5, 6, 8] rfl (vX11_readingsBy_136 hL hr hk13 hk21 hk46 _ _ _ _ _ _ _ _ _ _ h)) (fun _ h => ml_aload_n dX11_readingsBy_111 1 rfl <| ml_ck_of h fun hc2933 h => ml_getR dX11_readingsBy_112 wb_392 hc2933 <| ml_lx (mk := ml_r) h fun a2934 h => ml_sipush dX11_readingsBy_115 kc_s256 <| ml_iload dX11_readingsBy_118 5 rfl <| ml_iconst dX11_readingsBy_120 kc_i1 <| ml_iadd dX11_readingsBy_121 <| ml_imul dX11_readingsBy_122 <| ml_iload dX11_readingsBy_123 6 rfl <| ml_iconst dX11_readingsBy_125 kc_i1 <| ml_iload dX11_readingsBy_126 8 rfl <| ml_ishl dX11_readingsBy_128 <| ml_ior dX11_readingsBy_129 <| ml_iadd dX11_readingsBy_130 <| ml_ck_of h fun hi2935 h => ml_iald dX11_readingsBy_131 hi2935 <| ml_goto dX11_readingsBy_132 <| ml_V.sub [1, 2, 3, 4, 5, 6, 8] rfl (vX11_readingsBy_136 hL hr hk13 hk21 hk46 _ _ _ _ _ _ _ _ _ _ h))
def fX11_readingsBy_101 (k13 : Nat → Int32 → Int32 → Int32 → Int32 → ml_M → Option (Int32 × ml_M)) (k21 : Nat → Int32 → Int32 → Int32 → Int32 → Int32 → ml_M → Option (Int32 × ml_M)) (k46 : Nat → Int32 → Int32 → Int32 → Int32 → Int32 → Int32 → Int32 → ml_M → Option (Int32 × ml_M)) (l0 : Nat) (l1 : Int32) (l2 : Int32) (l3 : Int32) (l4 : Int32) (l5 : Int32) (l6 : Int32) (l7 : Int32) (m : ml_M) : Option (Int32 × ml_M) :=
    fX11_readingsBy_102 k13 k21 k46 l0 l1 l2 l3 l4 l5 l6 l7 (0 : Int32) m
theorem vX11_readingsBy_101 {E : ml_E} (hL : ml_eL E = 9) {rv : Int32} {rm : ml_M} (hr : ∀ (pc pc' : Nat) (lv : List (Nat × ml_X)), ml_d cX11_readingsBy pc .ireturn 1 pc' → True → ml_V E "LostRoomModel" cX11_readingsBy 5 false rm pc lv [ml_i rv]) {k13 : Nat → Int32 → Int32 → Int32 → Int32 → ml_M → Option (Int32 × ml_M)} (hk13 : ∀ (l0 : Nat) (l1 : Int32) (l2 : Int32) (l3 : Int32) (l4 : Int32) (m : ml_M), k13 l0 l1 l2 l3 l4 m = some (rv, rm) → ml_V E "LostRoomModel" cX11_readingsBy 5 false m 13 [(0, ml_r l0), (1, ml_i l1), (2, ml_i l2), (3, ml_i l3), (4, ml_i l4)] []) {k21 : Nat → Int32 → Int32 → Int32 → Int32 → Int32 → ml_M → Option (Int32 × ml_M)} (hk21 : ∀ (l0 : Nat) (l1 : Int32) (l2 : Int32) (l3 : Int32) (l4 : Int32) (l5 : Int32) (m : ml_M), k21 l0 l1 l2 l3 l4 l5 m = some (rv, rm) → ml_V E "LostRoomModel" cX11_readingsBy 5 false m 21 [(0, ml_r l0), (1, ml_i l1), (2, ml_i l2), (3, ml_i l3), (4, ml_i l4), (5, ml_i l5)] []) {k46 : Nat → Int32 → Int32 → Int32 → Int32 → Int32 → Int32 → Int32 → ml_M → Option (Int32 × ml_M)} (hk46 : ∀ (l0 : Nat) (l1 : Int32) (l2 : Int32) (l3 : Int32) (l4 : Int32) (l5 : Int32) (l6 : Int32) (l7 : Int32) (m : ml_M), k46 l0 l1 l2 l3 l4 l5 l6 l7 m = some (rv, rm) → ml_V E "LostRoomModel" cX11_readingsBy 5 false m 46 [(0, ml_r l0), (1, ml_i l1), (2, ml_i l2), (3, ml_i l3), (4, ml_i l4), (5, ml_i l5), (6, ml_i l6), (7, ml_i l7)] []) : ∀ (l0 : Nat) (l1 : Int32) (l2 : Int32) (l3 : Int32) (l4 : Int32) (l5 : Int32) (l6 : Int32) (l7 : Int32) (m : ml_M), fX11_readingsBy_101 k13 k21 k46 l0 l1 l2 l3 l4 l5 l6 l7 m = some (rv, rm) → ml_V E "LostRoomModel" cX11_readingsBy 5 false m 101 [(0, ml_r l0), (1, ml_i l1), (2, ml_i l2), (3, ml_i l3), (4, ml_i l4), (5, ml_i l5), (6, ml_i l6), (7, ml_i l7)] [] := by
  intro l0 l1 l2 l3 l4 l5 l6 l7 m h
  unfold fX11_readingsBy_101 at h
  exact ml_iconst dX11_readingsBy_101 kc_i0 <| ml_V.sub [0, 1, 2, 3, 4, 5, 6, 7] rfl (vX11_readingsBy_102 hL hr hk13 hk21 hk46 _ _ _ _ _ _ _ _ _ _ h)
def fX11_readingsBy_86 (k13 : Nat → Int32 → Int32 → Int32 → Int32 → ml_M → Option (Int32 × ml_M)) (k21 : Nat → Int32 → Int32 → Int32 → Int32 → Int32 → ml_M → Option (Int32 × ml_M)) (k46 : Nat → Int32 → Int32 → Int32 → Int32 → Int32 → Int32 → Int32 → ml_M → Option (Int32 × ml_M)) (l0 : Nat) (l1 : Int32) (l2 : Int32) (l3 : Int32) (l4 : Int32) (l5 : Int32) (l6 : Int32) (l7 : Int32) (m : ml_M) : Option (Int32 × ml_M) :=
    if (ml_K m l0).1 = 11 then
    ml_b1 (fX11_lineFits l0 l4 l7 m) fun r2938 =>
    if r2938 = 0 then
    fX11_readingsBy_101 k13 k21 k46 l0 l1 l2 l3 l4 l5 l6 l7 m
    else
    fX11_readingsBy_102 k13 k21 k46 l0 l1 l2 l3 l4 l5 l6 l7 (1 : Int32) m
    else none
theorem vX11_readingsBy_86 {E : ml_E} (hL : ml_eL E = 9) {rv : Int32} {rm : ml_M} (hr : ∀ (pc pc' : Nat) (lv : List (Nat × ml_X)), ml_d cX11_readingsBy pc .ireturn 1 pc' → True → ml_V E "LostRoomModel" cX11_readingsBy 5 false rm pc lv [ml_i rv]) {k13 : Nat → Int32 → Int32 → Int32 → Int32 → ml_M → Option (Int32 × ml_M)} (hk13 : ∀ (l0 : Nat) (l1 : Int32) (l2 : Int32) (l3 : Int32) (l4 : Int32) (m : ml_M), k13 l0 l1 l2 l3 l4 m = some (rv, rm) → ml_V E "LostRoomModel" cX11_readingsBy 5 false m 13 [(0, ml_r l0), (1, ml_i l1), (2, ml_i l2), (3, ml_i l3), (4, ml_i l4)] []) {k21 : Nat → Int32 → Int32 → Int32 → Int32 → Int32 → ml_M → Option (Int32 × ml_M)} (hk21 : ∀ (l0 : Nat) (l1 : Int32) (l2 : Int32) (l3 : Int32) (l4 : Int32) (l5 : Int32) (m : ml_M), k21 l0 l1 l2 l3 l4 l5 m = some (rv, rm) → ml_V E "LostRoomModel" cX11_readingsBy 5 false m 21 [(0, ml_r l0), (1, ml_i l1), (2, ml_i l2), (3, ml_i l3), (4, ml_i l4), (5, ml_i l5)] []) {k46 : Nat → Int32 → Int32 → Int32 → Int32 → Int32 → Int32 → Int32 → ml_M → Option (Int32 × ml_M)} (hk46 : ∀ (l0 : Nat) (l1 : Int32) (l2 : Int32) (l3 : Int32) (l4 : Int32) (l5 : Int32) (l6 : Int32) (l7 : Int32) (m : ml_M), k46 l0 l1 l2 l3 l4 l5 l6 l7 m = some (rv, rm) → ml_V E "LostRoomModel" cX11_readingsBy 5 false m 46 [(0, ml_r l0), (1, ml_i l1), (2, ml_i l2), (3, ml_i l3), (4, ml_i l4), (5, ml_i l5), (6, ml_i l6), (7, ml_i l7)] []) : ∀ (l0 : Nat) (l1 : Int32) (l2 : Int32) (l3 : Int32) (l4 : Int32) (l5 : Int32) (l6 : Int32) (l7 : Int32) (m : ml_M), fX11_readingsBy_86 k13 k21 k46 l0 l1 l2 l3 l4 l5 l6 l7 m = some (rv, rm) → ml_V E "LostRoomModel" cX11_readingsBy 5 false m 86 [(0, ml_r l0), (1, ml_i l1), (2, ml_i l2), (3, ml_i l3), (4, ml_i l4), (5, ml_i l5), (6, ml_i l6), (7, ml_i l7)] [] := by
  intro l0 l1 l2 l3 l4 l5 l6 l7 m h
  unfold fX11_readingsBy_86 at h
  exact ml_aload_n dX11_readingsBy_86 0 rfl <| ml_iload dX11_readingsBy_87 4 rfl <| ml_iload dX11_readingsBy_89 7 rfl <| ml_ck_of h fun hc2937 h => ml_b1_of h fun r2938 hv2936 h => ml_callV dX11_readingsBy_91 wm_659 wb_393 hc2937 (sX11_lineFits hv2936) rfl (Nat.le_of_ble_eq_true rfl) (Nat.le_of_ble_eq_true rfl) rfl <| ml_if_eq dX11_readingsBy_94 h (fun _ h => ml_V.sub [0, 1, 2, 3, 4, 5, 6, 7] rfl (vX11_readingsBy_101 hL hr hk13 hk21 hk46 _ _ _ _ _ _ _ _ _ h)) (fun _ h => ml_iconst dX11_readingsBy_97 kc_i1 <| ml_goto dX11_readingsBy_98 <| ml_V.sub [0, 1, 2, 3, 4, 5, 6, 7] rfl (vX11_readingsBy_102 hL hr hk13 hk21 hk46 _ _ _ _ _ _ _ _ _ _ h))
def fX11_readingsBy_145 (k13 : Nat → Int32 → Int32 → Int32 → Int32 → ml_M → Option (Int32 × ml_M)) (k21 : Nat → Int32 → Int32 → Int32 → Int32 → Int32 → ml_M → Option (Int32 × ml_M)) (l0 : Nat) (l1 : Int32) (l2 : Int32) (l3 : Int32) (l4 : Int32) (l5 : Int32) (l6 : Int32) (m : ml_M) : Option (Int32 × ml_M) :=
    if (ml_K m l0).1 = 11 then
    ml_let (ml_R m l0 36) fun a2940 =>
    if ml_in m a2940 20 (((256 : Int32) * l4) + l5) then
    ml_let (ml_sI m a2940 (((256 : Int32) * l4) + l5).toNatClampNeg l6) fun m2942 =>
    k21 l0 l1 l2 l3 l4 (l5 + (1 : Int32)) m2942
    else none
    else none
theorem vX11_readingsBy_145 {E : ml_E} (hL : ml_eL E = 9) {rv : Int32} {rm : ml_M} (hr : ∀ (pc pc' : Nat) (lv : List (Nat × ml_X)), ml_d cX11_readingsBy pc .ireturn 1 pc' → True → ml_V E "LostRoomModel" cX11_readingsBy 5 false rm pc lv [ml_i rv]) {k13 : Nat → Int32 → Int32 → Int32 → Int32 → ml_M → Option (Int32 × ml_M)} (hk13 : ∀ (l0 : Nat) (l1 : Int32) (l2 : Int32) (l3 : Int32) (l4 : Int32) (m : ml_M), k13 l0 l1 l2 l3 l4 m = some (rv, rm) → ml_V E "LostRoomModel" cX11_readingsBy 5 false m 13 [(0, ml_r l0), (1, ml_i l1), (2, ml_i l2), (3, ml_i l3), (4, ml_i l4)] []) {k21 : Nat → Int32 → Int32 → Int32 → Int32 → Int32 → ml_M → Option (Int32 × ml_M)} (hk21 : ∀ (l0 : Nat) (l1 : Int32) (l2 : Int32) (l3 : Int32) (l4 : Int32) (l5 : Int32) (m : ml_M), k21 l0 l1 l2 l3 l4 l5 m = some (rv, rm) → ml_V E "LostRoomModel" cX11_readingsBy 5 false m 21 [(0, ml_r l0), (1, ml_i l1), (2, ml_i l2), (3, ml_i l3), (4, ml_i l4), (5, ml_i l5)] []) : ∀ (l0 : Nat) (l1 : Int32) (l2 : Int32) (l3 : Int32) (l4 : Int32) (l5 : Int32) (l6 : Int32) (m : ml_M), fX11_readingsBy_145 k13 k21 l0 l1 l2 l3 l4 l5 l6 m = some (rv, rm) → ml_V E "LostRoomModel" cX11_readingsBy 5 false m 145 [(0, ml_r l0), (1, ml_i l1), (2, ml_i l2), (3, ml_i l3), (4, ml_i l4), (5, ml_i l5), (6, ml_i l6)] [] := by
  intro l0 l1 l2 l3 l4 l5 l6 m h
  unfold fX11_readingsBy_145 at h
  exact ml_aload_n dX11_readingsBy_145 0 rfl <| ml_ck_of h fun hc2939 h => ml_getR dX11_readingsBy_146 wb_392 hc2939 <| ml_lx (mk := ml_r) h fun a2940 h => ml_sipush dX11_readingsBy_149 kc_s256 <| ml_iload dX11_readingsBy_152 4 rfl <| ml_imul dX11_readingsBy_154 <| ml_iload dX11_readingsBy_155 5 rfl <| ml_iadd dX11_readingsBy_157 <| ml_iload dX11_readingsBy_158 6 rfl <| ml_ck_of h fun hi2941 h => ml_iast dX11_readingsBy_160 hi2941 <| ml_lt (m := m) rfl h fun m2942 em2943 h => ml_iinc (lv' := [(5, ml_i (l5 + (1 : Int32))), (0, ml_r l0), (1, ml_i l1), (2, ml_i l2), (3, ml_i l3), (4, ml_i l4), (6, ml_i l6)]) dX11_readingsBy_161 5 rfl (congrArg (l5 + ·) kc_i1) (ml_hn hL rfl) rfl <| ml_goto dX11_readingsBy_164 <| ml_V.sub [1, 2, 3, 4, 5, 0] rfl (hk21 _ _ _ _ _ _ _ h)
def fX11_readingsBy_46 (k13 : Nat → Int32 → Int32 → Int32 → Int32 → ml_M → Option (Int32 × ml_M)) (k21 : Nat → Int32 → Int32 → Int32 → Int32 → Int32 → ml_M → Option (Int32 × ml_M)) : Nat → Nat → Int32 → Int32 → Int32 → Int32 → Int32 → Int32 → Int32 → ml_M → Option (Int32 × ml_M)
  | 0, _, _, _, _, _, _, _, _, _ => none
  | fu + 1, l0, l1, l2, l3, l4, l5, l6, l7, m =>
    if (ml_K m l0).1 = 11 then
    if (ml_I m l0 10) ≤ l7 then
    fX11_readingsBy_145 k13 k21 l0 l1 l2 l3 l4 l5 l6 m
    else
    if (ml_I m l0 34) ≤ l4 then
    fX11_readingsBy_145 k13 k21 l0 l1 l2 l3 l4 l5 l6 m
    else
    ml_b1 (fX11_has l5 l7 m) fun r2946 =>
    if r2946 = 0 then
    if l4 = l1 then
    if l7 = l2 then
    fX11_readingsBy_86 k13 k21 (fX11_readingsBy_46 k13 k21 fu) l0 l1 l2 l3 l4 l5 l6 l7 m
    else
    fX11_readingsBy_101 k13 k21 (fX11_readingsBy_46 k13 k21 fu) l0 l1 l2 l3 l4 l5 l6 l7 m
    else
    fX11_readingsBy_86 k13 k21 (fX11_readingsBy_46 k13 k21 fu) l0 l1 l2 l3 l4 l5 l6 l7 m
    else
    fX11_readingsBy_101 k13 k21 (fX11_readingsBy_46 k13 k21 fu) l0 l1 l2 l3 l4 l5 l6 l7 m
    else none
theorem vX11_readingsBy_46 {E : ml_E} (hL : ml_eL E = 9) {rv : Int32} {rm : ml_M} (hr : ∀ (pc pc' : Nat) (lv : List (Nat × ml_X)), ml_d cX11_readingsBy pc .ireturn 1 pc' → True → ml_V E "LostRoomModel" cX11_readingsBy 5 false rm pc lv [ml_i rv]) {k13 : Nat → Int32 → Int32 → Int32 → Int32 → ml_M → Option (Int32 × ml_M)} (hk13 : ∀ (l0 : Nat) (l1 : Int32) (l2 : Int32) (l3 : Int32) (l4 : Int32) (m : ml_M), k13 l0 l1 l2 l3 l4 m = some (rv, rm) → ml_V E "LostRoomModel" cX11_readingsBy 5 false m 13 [(0, ml_r l0), (1, ml_i l1), (2, ml_i l2), (3, ml_i l3), (4, ml_i l4)] []) {k21 : Nat → Int32 → Int32 → Int32 → Int32 → Int32 → ml_M → Option (Int32 × ml_M)} (hk21 : ∀ (l0 : Nat) (l1 : Int32) (l2 : Int32) (l3 : Int32) (l4 : Int32) (l5 : Int32) (m : ml_M), k21 l0 l1 l2 l3 l4 l5 m = some (rv, rm) → ml_V E "LostRoomModel" cX11_readingsBy 5 false m 21 [(0, ml_r l0), (1, ml_i l1), (2, ml_i l2), (3, ml_i l3), (4, ml_i l4), (5, ml_i l5)] []) : ∀ (fu : Nat) (l0 : Nat) (l1 : Int32) (l2 : Int32) (l3 : Int32) (l4 : Int32) (l5 : Int32) (l6 : Int32) (l7 : Int32) (m : ml_M), fX11_readingsBy_46 k13 k21 fu l0 l1 l2 l3 l4 l5 l6 l7 m = some (rv, rm) → ml_V E "LostRoomModel" cX11_readingsBy 5 false m 46 [(0, ml_r l0), (1, ml_i l1), (2, ml_i l2), (3, ml_i l3), (4, ml_i l4), (5, ml_i l5), (6, ml_i l6), (7, ml_i l7)] [] := by
  intro fu
  induction fu with
  | zero => intro l0 l1 l2 l3 l4 l5 l6 l7 m h; exact ml_none h
  | succ fu ih =>
    intro l0 l1 l2 l3 l4 l5 l6 l7 m h
    have hk46 := ih
    unfold fX11_readingsBy_46 at h
    exact ml_iload dX11_readingsBy_46 7 rfl <| ml_aload_n dX11_readingsBy_48 0 rfl <| ml_ck_of h fun hc2944 h => ml_getI dX11_readingsBy_49 wb_196 hc2944 <| ml_icmp_ge dX11_readingsBy_52 h (fun _ h => ml_V.sub [0, 1, 2, 3, 4, 5, 6] rfl (vX11_readingsBy_145 hL hr hk13 hk21 _ _ _ _ _ _ _ _ h)) (fun _ h => ml_iload dX11_readingsBy_55 4 rfl <| ml_aload_n dX11_readingsBy_57 0 rfl <| ml_getI dX11_readingsBy_58 wb_384 hc2944 <| ml_icmp_ge dX11_readingsBy_61 h (fun _ h => ml_V.sub [0, 1, 2, 3, 4, 5, 6] rfl (vX11_readingsBy_145 hL hr hk13 hk21 _ _ _ _ _ _ _ _ h)) (fun _ h => ml_iload dX11_readingsBy_64 5 rfl <| ml_iload dX11_readingsBy_66 7 rfl <| ml_b1_of h fun r2946 hv2945 h => ml_callS dX11_readingsBy_68 wm_492 wb_300 (sX11_has hv2945) rfl (Nat.le_of_ble_eq_true rfl) (Nat.le_of_ble_eq_true rfl) rfl <| ml_if_ne dX11_readingsBy_71 h (fun _ h => ml_V.sub [0, 1, 2, 3, 4, 5, 6, 7] rfl (vX11_readingsBy_101 hL hr hk13 hk21 hk46 _ _ _ _ _ _ _ _ _ h)) (fun _ h => ml_iload dX11_readingsBy_74 4 rfl <| ml_iload_n dX11_readingsBy_76 1 rfl <| ml_icmp_ne dX11_readingsBy_77 h (fun _ h => ml_V.sub [0, 1, 2, 3, 4, 5, 6, 7] rfl (vX11_readingsBy_86 hL hr hk13 hk21 hk46 _ _ _ _ _ _ _ _ _ h)) (fun _ h => ml_iload dX11_readingsBy_80 7 rfl <| ml_iload_n dX11_readingsBy_82 2 rfl <| ml_icmp_ne dX11_readingsBy_83 h (fun _ h => ml_V.sub [0, 1, 2, 3, 4, 5, 6, 7] rfl (vX11_readingsBy_101 hL hr hk13 hk21 hk46 _ _ _ _ _ _ _ _ _ h)) (fun _ h => ml_V.sub [0, 1, 2, 3, 4, 5, 6, 7] rfl (vX11_readingsBy_86 hL hr hk13 hk21 hk46 _ _ _ _ _ _ _ _ _ h))))))
def fX11_readingsBy_41 (k13 : Nat → Int32 → Int32 → Int32 → Int32 → ml_M → Option (Int32 × ml_M)) (k21 : Nat → Int32 → Int32 → Int32 → Int32 → Int32 → ml_M → Option (Int32 × ml_M)) (l0 : Nat) (l1 : Int32) (l2 : Int32) (l3 : Int32) (l4 : Int32) (l5 : Int32) (t0 : Int32) (m : ml_M) : Option (Int32 × ml_M) :=
    fX11_readingsBy_46 k13 k21 ml_fu l0 l1 l2 l3 l4 l5 t0 (0 : Int32) m
theorem vX11_readingsBy_41 {E : ml_E} (hL : ml_eL E = 9) {rv : Int32} {rm : ml_M} (hr : ∀ (pc pc' : Nat) (lv : List (Nat × ml_X)), ml_d cX11_readingsBy pc .ireturn 1 pc' → True → ml_V E "LostRoomModel" cX11_readingsBy 5 false rm pc lv [ml_i rv]) {k13 : Nat → Int32 → Int32 → Int32 → Int32 → ml_M → Option (Int32 × ml_M)} (hk13 : ∀ (l0 : Nat) (l1 : Int32) (l2 : Int32) (l3 : Int32) (l4 : Int32) (m : ml_M), k13 l0 l1 l2 l3 l4 m = some (rv, rm) → ml_V E "LostRoomModel" cX11_readingsBy 5 false m 13 [(0, ml_r l0), (1, ml_i l1), (2, ml_i l2), (3, ml_i l3), (4, ml_i l4)] []) {k21 : Nat → Int32 → Int32 → Int32 → Int32 → Int32 → ml_M → Option (Int32 × ml_M)} (hk21 : ∀ (l0 : Nat) (l1 : Int32) (l2 : Int32) (l3 : Int32) (l4 : Int32) (l5 : Int32) (m : ml_M), k21 l0 l1 l2 l3 l4 l5 m = some (rv, rm) → ml_V E "LostRoomModel" cX11_readingsBy 5 false m 21 [(0, ml_r l0), (1, ml_i l1), (2, ml_i l2), (3, ml_i l3), (4, ml_i l4), (5, ml_i l5)] []) : ∀ (l0 : Nat) (l1 : Int32) (l2 : Int32) (l3 : Int32) (l4 : Int32) (l5 : Int32) (t0 : Int32) (m : ml_M), fX11_readingsBy_41 k13 k21 l0 l1 l2 l3 l4 l5 t0 m = some (rv, rm) → ml_V E "LostRoomModel" cX11_readingsBy 5 false m 41 [(0, ml_r l0), (1, ml_i l1), (2, ml_i l2), (3, ml_i l3), (4, ml_i l4), (5, ml_i l5)] [ml_i t0] := by
  intro l0 l1 l2 l3 l4 l5 t0 m h
  unfold fX11_readingsBy_41 at h
  exact ml_istore (lv' := [(6, ml_i t0), (0, ml_r l0), (1, ml_i l1), (2, ml_i l2), (3, ml_i l3), (4, ml_i l4), (5, ml_i l5)]) dX11_readingsBy_41 (ml_hn hL rfl) rfl <| ml_iconst dX11_readingsBy_43 kc_i0 <| ml_istore (lv' := [(7, ml_i (0 : Int32)), (6, ml_i t0), (0, ml_r l0), (1, ml_i l1), (2, ml_i l2), (3, ml_i l3), (4, ml_i l4), (5, ml_i l5)]) dX11_readingsBy_44 (ml_hn hL rfl) rfl <| ml_V.sub [2, 3, 4, 5, 6, 7, 1, 0] rfl (vX11_readingsBy_46 hL hr hk13 hk21 ml_fu _ _ _ _ _ _ _ _ _ h)
def fX11_readingsBy_167 (k13 : Nat → Int32 → Int32 → Int32 → Int32 → ml_M → Option (Int32 × ml_M)) (l0 : Nat) (l1 : Int32) (l2 : Int32) (l3 : Int32) (l4 : Int32) (m : ml_M) : Option (Int32 × ml_M) :=
    k13 l0 l1 l2 l3 (l4 + (-1 : Int32)) m
theorem vX11_readingsBy_167 {E : ml_E} (hL : ml_eL E = 9) {rv : Int32} {rm : ml_M} (hr : ∀ (pc pc' : Nat) (lv : List (Nat × ml_X)), ml_d cX11_readingsBy pc .ireturn 1 pc' → True → ml_V E "LostRoomModel" cX11_readingsBy 5 false rm pc lv [ml_i rv]) {k13 : Nat → Int32 → Int32 → Int32 → Int32 → ml_M → Option (Int32 × ml_M)} (hk13 : ∀ (l0 : Nat) (l1 : Int32) (l2 : Int32) (l3 : Int32) (l4 : Int32) (m : ml_M), k13 l0 l1 l2 l3 l4 m = some (rv, rm) → ml_V E "LostRoomModel" cX11_readingsBy 5 false m 13 [(0, ml_r l0), (1, ml_i l1), (2, ml_i l2), (3, ml_i l3), (4, ml_i l4)] []) : ∀ (l0 : Nat) (l1 : Int32) (l2 : Int32) (l3 : Int32) (l4 : Int32) (m : ml_M), fX11_readingsBy_167 k13 l0 l1 l2 l3 l4 m = some (rv, rm) → ml_V E "LostRoomModel" cX11_readingsBy 5 false m 167 [(0, ml_r l0), (1, ml_i l1), (2, ml_i l2), (3, ml_i l3), (4, ml_i l4)] [] := by
  intro l0 l1 l2 l3 l4 m h
  unfold fX11_readingsBy_167 at h
  exact ml_iinc (lv' := [(4, ml_i (l4 + (-1 : Int32))), (0, ml_r l0), (1, ml_i l1), (2, ml_i l2), (3, ml_i l3)]) dX11_readingsBy_167 4 rfl (congrArg (l4 + ·) kc_im1) (ml_hn hL rfl) rfl <| ml_goto dX11_readingsBy_170 <| ml_V.sub [1, 2, 3, 4, 0] rfl (hk13 _ _ _ _ _ _ h)
def fX11_readingsBy_21 (k13 : Nat → Int32 → Int32 → Int32 → Int32 → ml_M → Option (Int32 × ml_M)) : Nat → Nat → Int32 → Int32 → Int32 → Int32 → Int32 → ml_M → Option (Int32 × ml_M)
  | 0, _, _, _, _, _, _, _ => none
  | fu + 1, l0, l1, l2, l3, l4, l5, m =>
    if l3 ≤ l5 then
    fX11_readingsBy_167 k13 l0 l1 l2 l3 l4 m
    else
    if (ml_K m l0).1 = 11 then
    if l4 = (ml_I m l0 34) then
    fX11_readingsBy_41 k13 (fX11_readingsBy_21 k13 fu) l0 l1 l2 l3 l4 l5 (1 : Int32) m
    else
    fX11_readingsBy_41 k13 (fX11_readingsBy_21 k13 fu) l0 l1 l2 l3 l4 l5 (0 : Int32) m
    else none
theorem vX11_readingsBy_21 {E : ml_E} (hL : ml_eL E = 9) {rv : Int32} {rm : ml_M} (hr : ∀ (pc pc' : Nat) (lv : List (Nat × ml_X)), ml_d cX11_readingsBy pc .ireturn 1 pc' → True → ml_V E "LostRoomModel" cX11_readingsBy 5 false rm pc lv [ml_i rv]) {k13 : Nat → Int32 → Int32 → Int32 → Int32 → ml_M → Option (Int32 × ml_M)} (hk13 : ∀ (l0 : Nat) (l1 : Int32) (l2 : Int32) (l3 : Int32) (l4 : Int32) (m : ml_M), k13 l0 l1 l2 l3 l4 m = some (rv, rm) → ml_V E "LostRoomModel" cX11_readingsBy 5 false m 13 [(0, ml_r l0), (1, ml_i l1), (2, ml_i l2), (3, ml_i l3), (4, ml_i l4)] []) : ∀ (fu : Nat) (l0 : Nat) (l1 : Int32) (l2 : Int32) (l3 : Int32) (l4 : Int32) (l5 : Int32) (m : ml_M), fX11_readingsBy_21 k13 fu l0 l1 l2 l3 l4 l5 m = some (rv, rm) → ml_V E "LostRoomModel" cX11_readingsBy 5 false m 21 [(0, ml_r l0), (1, ml_i l1), (2, ml_i l2), (3, ml_i l3), (4, ml_i l4), (5, ml_i l5)] [] := by
  intro fu
  induction fu with
  | zero => intro l0 l1 l2 l3 l4 l5 m h; exact ml_none h
  | succ fu ih =>
    intro l0 l1 l2 l3 l4 l5 m h
    have hk21 := ih
    unfold fX11_readingsBy_21 at h
    exact ml_iload dX11_readingsBy_21 5 rfl <| ml_iload_n dX11_readingsBy_23 3 rfl <| ml_icmp_ge dX11_readingsBy_24 h (fun _ h => ml_V.sub [0, 1, 2, 3, 4] rfl (vX11_readingsBy_167 hL hr hk13 _ _ _ _ _ _ h)) (fun _ h => ml_iload dX11_readingsBy_27 4 rfl <| ml_aload_n dX11_readingsBy_29 0 rfl <| ml_ck_of h fun hc2947 h => ml_getI dX11_readingsBy_30 wb_384 hc2947 <| ml_icmp_ne dX11_readingsBy_33 h (fun _ h => ml_iconst dX11_readingsBy_40 kc_i0 <| ml_V.sub [0, 1, 2, 3, 4, 5] rfl (vX11_readingsBy_41 hL hr hk13 hk21 _ _ _ _ _ _ _ _ h)) (fun _ h => ml_iconst dX11_readingsBy_36 kc_i1 <| ml_goto dX11_readingsBy_37 <| ml_V.sub [0, 1, 2, 3, 4, 5] rfl (vX11_readingsBy_41 hL hr hk13 hk21 _ _ _ _ _ _ _ _ h)))
def fX11_readingsBy_173 (l0 : Nat) (m : ml_M) : Option (Int32 × ml_M) :=
    if (ml_K m l0).1 = 11 then
    ml_let (ml_R m l0 36) fun a2949 =>
    if ml_in m a2949 20 (0 : Int32) then
    some ((ml_I m a2949 (0 : Int32).toNatClampNeg), m)
    else none
    else none
theorem vX11_readingsBy_173 {E : ml_E} (hL : ml_eL E = 9) {rv : Int32} {rm : ml_M} (hr : ∀ (pc pc' : Nat) (lv : List (Nat × ml_X)), ml_d cX11_readingsBy pc .ireturn 1 pc' → True → ml_V E "LostRoomModel" cX11_readingsBy 5 false rm pc lv [ml_i rv]) : ∀ (l0 : Nat) (m : ml_M), fX11_readingsBy_173 l0 m = some (rv, rm) → ml_V E "LostRoomModel" cX11_readingsBy 5 false m 173 [(0, ml_r l0)] [] := by
  intro l0 m h
  unfold fX11_readingsBy_173 at h
  exact ml_aload_n dX11_readingsBy_173 0 rfl <| ml_ck_of h fun hc2948 h => ml_getR dX11_readingsBy_174 wb_392 hc2948 <| ml_lx (mk := ml_r) h fun a2949 h => ml_iconst dX11_readingsBy_177 kc_i0 <| ml_ck_of h fun hi2950 h => ml_iald dX11_readingsBy_178 hi2950 <| ml_rI (mk := ml_i) hr dX11_readingsBy_179 (fun _ => trivial) h
def fX11_readingsBy_13 : Nat → Nat → Int32 → Int32 → Int32 → Int32 → ml_M → Option (Int32 × ml_M)
  | 0, _, _, _, _, _, _ => none
  | fu + 1, l0, l1, l2, l3, l4, m =>
    if l4 < 0 then
    fX11_readingsBy_173 l0 m
    else
    fX11_readingsBy_21 (fX11_readingsBy_13 fu) ml_fu l0 l1 l2 l3 l4 (0 : Int32) m
theorem vX11_readingsBy_13 {E : ml_E} (hL : ml_eL E = 9) {rv : Int32} {rm : ml_M} (hr : ∀ (pc pc' : Nat) (lv : List (Nat × ml_X)), ml_d cX11_readingsBy pc .ireturn 1 pc' → True → ml_V E "LostRoomModel" cX11_readingsBy 5 false rm pc lv [ml_i rv]) : ∀ (fu : Nat) (l0 : Nat) (l1 : Int32) (l2 : Int32) (l3 : Int32) (l4 : Int32) (m : ml_M), fX11_readingsBy_13 fu l0 l1 l2 l3 l4 m = some (rv, rm) → ml_V E "LostRoomModel" cX11_readingsBy 5 false m 13 [(0, ml_r l0), (1, ml_i l1), (2, ml_i l2), (3, ml_i l3), (4, ml_i l4)] [] := by
  intro fu
  induction fu with
  | zero => intro l0 l1 l2 l3 l4 m h; exact ml_none h
  | succ fu ih =>
    intro l0 l1 l2 l3 l4 m h
    have hk13 := ih
    unfold fX11_readingsBy_13 at h
    exact ml_iload dX11_readingsBy_13 4 rfl <| ml_if_lt dX11_readingsBy_15 h (fun _ h => ml_V.sub [0] rfl (vX11_readingsBy_173 hL hr  _ _ h)) (fun _ h => ml_iconst dX11_readingsBy_18 kc_i0 <| ml_istore (lv' := [(5, ml_i (0 : Int32)), (0, ml_r l0), (1, ml_i l1), (2, ml_i l2), (3, ml_i l3), (4, ml_i l4)]) dX11_readingsBy_19 (ml_hn hL rfl) rfl <| ml_V.sub [1, 2, 3, 4, 5, 0] rfl (vX11_readingsBy_21 hL hr hk13 ml_fu _ _ _ _ _ _ _ h))
def fX11_readingsBy (l0 : Nat) (l1 : Int32) (l2 : Int32) (m : ml_M) : Option (Int32 × ml_M) :=
    if (ml_K m l0).1 = 11 then
    ml_let ((1 : Int32) <<< ((ml_I m l0 10) &&& 31)) fun x2952 =>
    ml_let (ml_I m l0 34) fun x2953 =>
    fX11_readingsBy_13 ml_fu l0 l1 l2 x2952 x2953 m
    else none
theorem wX11_readingsBy_0 {E : ml_E} (hL : ml_eL E = 9) {rv : Int32} {rm : ml_M} (hr : ∀ (pc pc' : Nat) (lv : List (Nat × ml_X)), ml_d cX11_readingsBy pc .ireturn 1 pc' → True → ml_V E "LostRoomModel" cX11_readingsBy 5 false rm pc lv [ml_i rv]) : ∀ (l0 : Nat) (l1 : Int32) (l2 : Int32) (m : ml_M), fX11_readingsBy l0 l1 l2 m = some (rv, rm) → ml_V E "LostRoomModel" cX11_readingsBy 5 false m 0 [(0, ml_r l0), (1, ml_i l1), (2, ml_i l2)] [] := by
  intro l0 l1 l2 m h
  unfold fX11_readingsBy at h
  exact ml_iconst dX11_readingsBy_0 kc_i1 <| ml_aload_n dX11_readingsBy_1 0 rfl <| ml_ck_of h fun hc2951 h => ml_getI dX11_readingsBy_2 wb_196 hc2951 <| ml_ishl dX11_readingsBy_5 <| ml_lx (mk := ml_i) h fun x2952 h => ml_istore_n (lv' := [(3, ml_i x2952), (0, ml_r l0), (1, ml_i l1), (2, ml_i l2)]) dX11_readingsBy_6 (ml_hn hL rfl) rfl <| ml_aload_n dX11_readingsBy_7 1 rfl <| ml_getI dX11_readingsBy_8 wb_384 hc2951 <| ml_lx (mk := ml_i) h fun x2953 h => ml_istore (lv' := [(4, ml_i x2953), (3, ml_i x2952), (0, ml_r l0), (1, ml_i l1), (2, ml_i l2)]) dX11_readingsBy_11 (ml_hn hL rfl) rfl <| ml_V.sub [2, 3, 4, 1, 0] rfl (vX11_readingsBy_13 hL hr  ml_fu _ _ _ _ _ _ h)
theorem sX11_readingsBy {l0 : Nat} {l1 : Int32} {l2 : Int32} {m : ml_M} {rv : Int32} {rm : ml_M} (h : fX11_readingsBy l0 l1 l2 m = some (rv, rm)) : ml_Sn yX11_readingsBy cX11_readingsBy 9 (some .int) 5 [ml_r l0, ml_i l1, ml_i l2] m (some (ml_i rv)) rm :=
  ml_Sn_of (P := True) (ini := false) (by decide +kernel) (Nat.le_of_ble_eq_true rfl) (fun h => by cases h) (fun _ => ml_RkI rv) fun E hL hr => wX11_readingsBy_0 hL hr _ _ _ _ h
theorem dX11_readings_0 : ml_d cX11_readings 0 (.aload_n 0) 1 1 := ⟨by decide +kernel, rfl⟩
theorem dX11_readings_1 : ml_d cX11_readings 1 (.bipush (-9)) 2 3 := ⟨by decide +kernel, rfl⟩
theorem dX11_readings_3 : ml_d cX11_readings 3 (.bipush (-9)) 2 5 := ⟨by decide +kernel, rfl⟩
theorem dX11_readings_5 : ml_d cX11_readings 5 (.invokevirtual 322) 3 8 := ⟨by decide +kernel, rfl⟩
theorem dX11_readings_8 : ml_d cX11_readings 8 (.ireturn) 1 9 := ⟨by decide +kernel, rfl⟩
def fX11_readings (l0 : Nat) (m : ml_M) : Option (Int32 × ml_M) :=
    if (ml_K m l0).1 = 11 then
    ml_b2 (fX11_readingsBy l0 (-9 : Int32) (-9 : Int32) m) fun r2956 m2957 =>
    some (r2956, m2957)
    else none
theorem wX11_readings_0 {E : ml_E} (hL : ml_eL E = 1) {rv : Int32} {rm : ml_M} (hr : ∀ (pc pc' : Nat) (lv : List (Nat × ml_X)), ml_d cX11_readings pc .ireturn 1 pc' → True → ml_V E "LostRoomModel" cX11_readings 6 false rm pc lv [ml_i rv]) : ∀ (l0 : Nat) (m : ml_M), fX11_readings l0 m = some (rv, rm) → ml_V E "LostRoomModel" cX11_readings 6 false m 0 [(0, ml_r l0)] [] := by
  intro l0 m h
  unfold fX11_readings at h
  exact ml_aload_n dX11_readings_0 0 rfl <| ml_bipush dX11_readings_1 kc_bm9 <| ml_bipush dX11_readings_3 kc_bm9 <| ml_ck_of h fun hc2955 h => ml_b2_of h fun r2956 m2957 hv2954 h => ml_callV dX11_readings_5 wm_663 wb_394 hc2955 (sX11_readingsBy hv2954) rfl (Nat.le_of_ble_eq_true rfl) (Nat.le_of_ble_eq_true rfl) rfl <| ml_rI (mk := ml_i) hr dX11_readings_8 (fun _ => trivial) h
theorem sX11_readings {l0 : Nat} {m : ml_M} {rv : Int32} {rm : ml_M} (h : fX11_readings l0 m = some (rv, rm)) : ml_Sn yX11_readings cX11_readings 1 (some .int) 6 [ml_r l0] m (some (ml_i rv)) rm :=
  ml_Sn_of (P := True) (ini := false) (by decide +kernel) (Nat.le_of_ble_eq_true rfl) (fun h => by cases h) (fun _ => ml_RkI rv) fun E hL hr => wX11_readings_0 hL hr _ _ h
theorem dX10_lineOf_0 : ml_d cX10_lineOf 0 (.iload_n 1) 1 1 := ⟨by decide +kernel, rfl⟩
theorem dX10_lineOf_1 : ml_d cX10_lineOf 1 (.iconst 0) 1 2 := ⟨by decide +kernel, rfl⟩
theorem dX10_lineOf_2 : ml_d cX10_lineOf 2 (.aload_n 0) 1 3 := ⟨by decide +kernel, rfl⟩
theorem dX10_lineOf_3 : ml_d cX10_lineOf 3 (.getfield 121) 3 6 := ⟨by decide +kernel, rfl⟩
theorem dX10_lineOf_6 : ml_d cX10_lineOf 6 (.iconst 1) 1 7 := ⟨by decide +kernel, rfl⟩
theorem dX10_lineOf_7 : ml_d cX10_lineOf 7 (.isub) 1 8 := ⟨by decide +kernel, rfl⟩
theorem dX10_lineOf_8 : ml_d cX10_lineOf 8 (.invokestatic 138) 3 11 := ⟨by decide +kernel, rfl⟩
theorem dX10_lineOf_11 : ml_j cX10_lineOf 11 (.ifCond .ne) 16 14 := ⟨5, by decide +kernel, by decide, rfl⟩
theorem dX10_lineOf_14 : ml_d cX10_lineOf 14 (.iconst (-1)) 1 15 := ⟨by decide +kernel, rfl⟩
theorem dX10_lineOf_15 : ml_d cX10_lineOf 15 (.ireturn) 1 16 := ⟨by decide +kernel, rfl⟩
theorem dX10_lineOf_16 : ml_d cX10_lineOf 16 (.aload_n 0) 1 17 := ⟨by decide +kernel, rfl⟩
theorem dX10_lineOf_17 : ml_d cX10_lineOf 17 (.invokevirtual 273) 3 20 := ⟨by decide +kernel, rfl⟩
theorem dX10_lineOf_20 : ml_d cX10_lineOf 20 (.astore_n 2) 1 21 := ⟨by decide +kernel, rfl⟩
theorem dX10_lineOf_21 : ml_d cX10_lineOf 21 (.iconst 1) 1 22 := ⟨by decide +kernel, rfl⟩
theorem dX10_lineOf_22 : ml_d cX10_lineOf 22 (.aload_n 0) 1 23 := ⟨by decide +kernel, rfl⟩
theorem dX10_lineOf_23 : ml_d cX10_lineOf 23 (.getfield 26) 3 26 := ⟨by decide +kernel, rfl⟩
theorem dX10_lineOf_26 : ml_d cX10_lineOf 26 (.getfield 135) 3 29 := ⟨by decide +kernel, rfl⟩
theorem dX10_lineOf_29 : ml_d cX10_lineOf 29 (.ishl) 1 30 := ⟨by decide +kernel, rfl⟩
theorem dX10_lineOf_30 : ml_d cX10_lineOf 30 (.newarray .int) 2 32 := ⟨by decide +kernel, rfl⟩
theorem dX10_lineOf_32 : ml_d cX10_lineOf 32 (.astore_n 3) 1 33 := ⟨by decide +kernel, rfl⟩
theorem dX10_lineOf_33 : ml_d cX10_lineOf 33 (.aload_n 2) 1 34 := ⟨by decide +kernel, rfl⟩
theorem dX10_lineOf_34 : ml_d cX10_lineOf 34 (.iload_n 1) 1 35 := ⟨by decide +kernel, rfl⟩
theorem dX10_lineOf_35 : ml_d cX10_lineOf 35 (.iaload) 1 36 := ⟨by decide +kernel, rfl⟩
theorem dX10_lineOf_36 : ml_d cX10_lineOf 36 (.istore 4) 2 38 := ⟨by decide +kernel, rfl⟩
theorem dX10_lineOf_38 : ml_d cX10_lineOf 38 (.iconst 0) 1 39 := ⟨by decide +kernel, rfl⟩
theorem dX10_lineOf_39 : ml_d cX10_lineOf 39 (.istore 5) 2 41 := ⟨by decide +kernel, rfl⟩
theorem dX10_lineOf_41 : ml_d cX10_lineOf 41 (.iconst 0) 1 42 := ⟨by decide +kernel, rfl⟩
theorem dX10_lineOf_42 : ml_d cX10_lineOf 42 (.istore 6) 2 44 := ⟨by decide +kernel, rfl⟩
theorem dX10_lineOf_44 : ml_d cX10_lineOf 44 (.iload 6) 2 46 := ⟨by decide +kernel, rfl⟩
theorem dX10_lineOf_46 : ml_d cX10_lineOf 46 (.aload_n 0) 1 47 := ⟨by decide +kernel, rfl⟩
theorem dX10_lineOf_47 : ml_d cX10_lineOf 47 (.getfield 26) 3 50 := ⟨by decide +kernel, rfl⟩
theorem dX10_lineOf_50 : ml_d cX10_lineOf 50 (.getfield 135) 3 53 := ⟨by decide +kernel, rfl⟩
theorem dX10_lineOf_53 : ml_j cX10_lineOf 53 (.if_icmp .ge) 90 56 := ⟨37, by decide +kernel, by decide, rfl⟩
theorem dX10_lineOf_56 : ml_d cX10_lineOf 56 (.aload_n 2) 1 57 := ⟨by decide +kernel, rfl⟩
theorem dX10_lineOf_57 : ml_d cX10_lineOf 57 (.iload_n 1) 1 58 := ⟨by decide +kernel, rfl⟩
theorem dX10_lineOf_58 : ml_d cX10_lineOf 58 (.iload 4) 2 60 := ⟨by decide +kernel, rfl⟩
theorem dX10_lineOf_60 : ml_d cX10_lineOf 60 (.iconst 1) 1 61 := ⟨by decide +kernel, rfl⟩
theorem dX10_lineOf_61 : ml_d cX10_lineOf 61 (.iload 6) 2 63 := ⟨by decide +kernel, rfl⟩
theorem dX10_lineOf_63 : ml_d cX10_lineOf 63 (.ishl) 1 64 := ⟨by decide +kernel, rfl⟩
theorem dX10_lineOf_64 : ml_d cX10_lineOf 64 (.iand) 1 65 := ⟨by decide +kernel, rfl⟩
theorem dX10_lineOf_65 : ml_d cX10_lineOf 65 (.iastore) 1 66 := ⟨by decide +kernel, rfl⟩
theorem dX10_lineOf_66 : ml_d cX10_lineOf 66 (.aload_n 0) 1 67 := ⟨by decide +kernel, rfl⟩
theorem dX10_lineOf_67 : ml_d cX10_lineOf 67 (.aload_n 2) 1 68 := ⟨by decide +kernel, rfl⟩
theorem dX10_lineOf_68 : ml_d cX10_lineOf 68 (.aload_n 3) 1 69 := ⟨by decide +kernel, rfl⟩
theorem dX10_lineOf_69 : ml_d cX10_lineOf 69 (.invokevirtual 277) 3 72 := ⟨by decide +kernel, rfl⟩
theorem dX10_lineOf_72 : ml_j cX10_lineOf 72 (.ifCond .le) 84 75 := ⟨12, by decide +kernel, by decide, rfl⟩
theorem dX10_lineOf_75 : ml_d cX10_lineOf 75 (.iload 5) 2 77 := ⟨by decide +kernel, rfl⟩
theorem dX10_lineOf_77 : ml_d cX10_lineOf 77 (.iconst 1) 1 78 := ⟨by decide +kernel, rfl⟩
theorem dX10_lineOf_78 : ml_d cX10_lineOf 78 (.iload 6) 2 80 := ⟨by decide +kernel, rfl⟩
theorem dX10_lineOf_80 : ml_d cX10_lineOf 80 (.ishl) 1 81 := ⟨by decide +kernel, rfl⟩
theorem dX10_lineOf_81 : ml_d cX10_lineOf 81 (.ior) 1 82 := ⟨by decide +kernel, rfl⟩
theorem dX10_lineOf_82 : ml_d cX10_lineOf 82 (.istore 5) 2 84 := ⟨by decide +kernel, rfl⟩
theorem dX10_lineOf_84 : ml_d cX10_lineOf 84 (.iinc 6 1) 3 87 := ⟨by decide +kernel, rfl⟩
theorem dX10_lineOf_87 : ml_j cX10_lineOf 87 .goto 44 90 := ⟨(-43), by decide +kernel, by decide, rfl⟩
theorem dX10_lineOf_90 : ml_d cX10_lineOf 90 (.iload 5) 2 92 := ⟨by decide +kernel, rfl⟩
theorem dX10_lineOf_92 : ml_d cX10_lineOf 92 (.ireturn) 1 93 := ⟨by decide +kernel, rfl⟩
def fX10_lineOf_84 (k44 : Nat → Int32 → Nat → Nat → Int32 → Int32 → Int32 → ml_M → Option (Int32 × ml_M)) (l0 : Nat) (l1 : Int32) (l2 : Nat) (l3 : Nat) (l4 : Int32) (l5 : Int32) (l6 : Int32) (m : ml_M) : Option (Int32 × ml_M) :=
    k44 l0 l1 l2 l3 l4 l5 (l6 + (1 : Int32)) m
theorem vX10_lineOf_84 {E : ml_E} (hL : ml_eL E = 7) {rv : Int32} {rm : ml_M} (hr : ∀ (pc pc' : Nat) (lv : List (Nat × ml_X)), ml_d cX10_lineOf pc .ireturn 1 pc' → True → ml_V E "LostRoom" cX10_lineOf 4 false rm pc lv [ml_i rv]) {k44 : Nat → Int32 → Nat → Nat → Int32 → Int32 → Int32 → ml_M → Option (Int32 × ml_M)} (hk44 : ∀ (l0 : Nat) (l1 : Int32) (l2 : Nat) (l3 : Nat) (l4 : Int32) (l5 : Int32) (l6 : Int32) (m : ml_M), k44 l0 l1 l2 l3 l4 l5 l6 m = some (rv, rm) → ml_V E "LostRoom" cX10_lineOf 4 false m 44 [(0, ml_r l0), (1, ml_i l1), (2, ml_r l2), (3, ml_r l3), (4, ml_i l4), (5, ml_i l5), (6, ml_i l6)] []) : ∀ (l0 : Nat) (l1 : Int32) (l2 : Nat) (l3 : Nat) (l4 : Int32) (l5 : Int32) (l6 : Int32) (m : ml_M), fX10_lineOf_84 k44 l0 l1 l2 l3 l4 l5 l6 m = some (rv, rm) → ml_V E "LostRoom" cX10_lineOf 4 false m 84 [(0, ml_r l0), (1, ml_i l1), (2, ml_r l2), (3, ml_r l3), (4, ml_i l4), (5, ml_i l5), (6, ml_i l6)] [] := by
  intro l0 l1 l2 l3 l4 l5 l6 m h
  unfold fX10_lineOf_84 at h
  exact ml_iinc (lv' := [(6, ml_i (l6 + (1 : Int32))), (0, ml_r l0), (1, ml_i l1), (2, ml_r l2), (3, ml_r l3), (4, ml_i l4), (5, ml_i l5)]) dX10_lineOf_84 6 rfl (congrArg (l6 + ·) kc_i1) (ml_hn hL rfl) rfl <| ml_goto dX10_lineOf_87 <| ml_V.sub [1, 2, 3, 4, 5, 6, 0] rfl (hk44 _ _ _ _ _ _ _ _ h)
def fX10_lineOf_44 : Nat → Nat → Int32 → Nat → Nat → Int32 → Int32 → Int32 → ml_M → Option (Int32 × ml_M)
  | 0, _, _, _, _, _, _, _, _ => none
  | fu + 1, l0, l1, l2, l3, l4, l5, l6, m =>
    if (ml_K m l0).1 = 10 then
    ml_let (ml_R m l0 2) fun a2959 =>
    if (ml_K m a2959).1 = 1 then
    if (ml_I m a2959 3) ≤ l6 then
    some (l5, m)
    else
    if ml_in m l2 20 l1 then
    ml_let (ml_sI m l2 l1.toNatClampNeg (l4 &&& ((1 : Int32) <<< (l6 &&& 31)))) fun m2962 =>
    ml_b2 (fX10_readingsBy l0 l2 l3 m2962) fun r2965 m2966 =>
    if r2965 ≤ 0 then
    fX10_lineOf_84 (fX10_lineOf_44 fu) l0 l1 l2 l3 l4 l5 l6 m2966
    else
    ml_let (l5 ||| ((1 : Int32) <<< (l6 &&& 31))) fun x2967 =>
    fX10_lineOf_84 (fX10_lineOf_44 fu) l0 l1 l2 l3 l4 x2967 l6 m2966
    else none
    else none
    else none
theorem vX10_lineOf_44 {E : ml_E} (hL : ml_eL E = 7) {rv : Int32} {rm : ml_M} (hr : ∀ (pc pc' : Nat) (lv : List (Nat × ml_X)), ml_d cX10_lineOf pc .ireturn 1 pc' → True → ml_V E "LostRoom" cX10_lineOf 4 false rm pc lv [ml_i rv]) : ∀ (fu : Nat) (l0 : Nat) (l1 : Int32) (l2 : Nat) (l3 : Nat) (l4 : Int32) (l5 : Int32) (l6 : Int32) (m : ml_M), fX10_lineOf_44 fu l0 l1 l2 l3 l4 l5 l6 m = some (rv, rm) → ml_V E "LostRoom" cX10_lineOf 4 false m 44 [(0, ml_r l0), (1, ml_i l1), (2, ml_r l2), (3, ml_r l3), (4, ml_i l4), (5, ml_i l5), (6, ml_i l6)] [] := by
  intro fu
  induction fu with
  | zero => intro l0 l1 l2 l3 l4 l5 l6 m h; exact ml_none h
  | succ fu ih =>
    intro l0 l1 l2 l3 l4 l5 l6 m h
    have hk44 := ih
    unfold fX10_lineOf_44 at h
    exact ml_iload dX10_lineOf_44 6 rfl <| ml_aload_n dX10_lineOf_46 0 rfl <| ml_ck_of h fun hc2958 h => ml_getR dX10_lineOf_47 wb_189 hc2958 <| ml_lx (mk := ml_r) h fun a2959 h => ml_ck_of h fun hc2960 h => ml_getI dX10_lineOf_50 wb_190 hc2960 <| ml_icmp_ge dX10_lineOf_53 h (fun _ h => ml_iload dX10_lineOf_90 5 rfl <| ml_rI (mk := ml_i) hr dX10_lineOf_92 (fun _ => trivial) h) (fun _ h => ml_aload_n dX10_lineOf_56 2 rfl <| ml_iload_n dX10_lineOf_57 1 rfl <| ml_iload dX10_lineOf_58 4 rfl <| ml_iconst dX10_lineOf_60 kc_i1 <| ml_iload dX10_lineOf_61 6 rfl <| ml_ishl dX10_lineOf_63 <| ml_iand dX10_lineOf_64 <| ml_ck_of h fun hi2961 h => ml_iast dX10_lineOf_65 hi2961 <| ml_lt (m := m) rfl h fun m2962 em2963 h => ml_aload_n dX10_lineOf_66 0 rfl <| ml_aload_n dX10_lineOf_67 2 rfl <| ml_aload_n dX10_lineOf_68 3 rfl <| ml_b2_of h fun r2965 m2966 hv2964 h => ml_callV dX10_lineOf_69 wm_655 wb_391 (ml_kk em2963 hc2958) (sX10_readingsBy hv2964) rfl (Nat.le_of_ble_eq_true rfl) (Nat.le_of_ble_eq_true rfl) rfl <| ml_if_le dX10_lineOf_72 h (fun _ h => ml_V.sub [0, 1, 2, 3, 4, 5, 6] rfl (vX10_lineOf_84 hL hr hk44 _ _ _ _ _ _ _ _ h)) (fun _ h => ml_iload dX10_lineOf_75 5 rfl <| ml_iconst dX10_lineOf_77 kc_i1 <| ml_iload dX10_lineOf_78 6 rfl <| ml_ishl dX10_lineOf_80 <| ml_ior dX10_lineOf_81 <| ml_lx (mk := ml_i) h fun x2967 h => ml_istore (lv' := [(5, ml_i x2967), (0, ml_r l0), (1, ml_i l1), (2, ml_r l2), (3, ml_r l3), (4, ml_i l4), (6, ml_i l6)]) dX10_lineOf_82 (ml_hn hL rfl) rfl <| ml_V.sub [1, 2, 3, 4, 5, 0, 6] rfl (vX10_lineOf_84 hL hr hk44 _ _ _ _ _ _ _ _ h)))
def fX10_lineOf (l0 : Nat) (l1 : Int32) (m : ml_M) : Option (Int32 × ml_M) :=
    if (ml_K m l0).1 = 10 then
    ml_b1 (fX10_within l1 (0 : Int32) ((ml_I m l0 7) - (1 : Int32)) m) fun r2970 =>
    if r2970 = 0 then
    some ((-1 : Int32), m)
    else
    ml_b2 (fX10_trunksForLines l0 m) fun a2972 m2973 =>
    if (ml_K m2973 l0).1 = 10 then
    ml_let (ml_R m2973 l0 2) fun a2975 =>
    if (ml_K m2973 a2975).1 = 1 then
    if ml_len ((1 : Int32) <<< ((ml_I m2973 a2975 3) &&& 31)) then
    ml_let (ml_n m2973 + 1) fun a2978 =>
    ml_let (ml_al m2973 20 ((1 : Int32) <<< ((ml_I m2973 a2975 3) &&& 31)).toNatClampNeg ((1 : Int32) <<< ((ml_I m2973 a2975 3) &&& 31)).toNatClampNeg) fun m2979 =>
    if ml_in m2979 a2972 20 l1 then
    ml_let (ml_I m2979 a2972 l1.toNatClampNeg) fun x2983 =>
    fX10_lineOf_44 ml_fu l0 l1 a2972 a2978 x2983 (0 : Int32) (0 : Int32) m2979
    else none
    else none
    else none
    else none
    else none
theorem wX10_lineOf_0 {E : ml_E} (hL : ml_eL E = 7) {rv : Int32} {rm : ml_M} (hr : ∀ (pc pc' : Nat) (lv : List (Nat × ml_X)), ml_d cX10_lineOf pc .ireturn 1 pc' → True → ml_V E "LostRoom" cX10_lineOf 4 false rm pc lv [ml_i rv]) : ∀ (l0 : Nat) (l1 : Int32) (m : ml_M), fX10_lineOf l0 l1 m = some (rv, rm) → ml_V E "LostRoom" cX10_lineOf 4 false m 0 [(0, ml_r l0), (1, ml_i l1)] [] := by
  intro l0 l1 m h
  unfold fX10_lineOf at h
  exact ml_iload_n dX10_lineOf_0 1 rfl <| ml_iconst dX10_lineOf_1 kc_i0 <| ml_aload_n dX10_lineOf_2 0 rfl <| ml_ck_of h fun hc2968 h => ml_getI dX10_lineOf_3 wb_380 hc2968 <| ml_iconst dX10_lineOf_6 kc_i1 <| ml_isub dX10_lineOf_7 <| ml_b1_of h fun r2970 hv2969 h => ml_callS dX10_lineOf_8 wm_124 wb_94 (sX10_within hv2969) rfl (Nat.le_of_ble_eq_true rfl) (Nat.le_of_ble_eq_true rfl) rfl <| ml_if_ne dX10_lineOf_11 h (fun _ h => ml_aload_n dX10_lineOf_16 0 rfl <| ml_b2_of h fun a2972 m2973 hv2971 h => ml_callV dX10_lineOf_17 wm_651 wb_390 hc2968 (sX10_trunksForLines hv2971) rfl (Nat.le_of_ble_eq_true rfl) (Nat.le_of_ble_eq_true rfl) rfl <| ml_astore_n (lv' := [(2, ml_r a2972), (0, ml_r l0), (1, ml_i l1)]) dX10_lineOf_20 (ml_hn hL rfl) rfl <| ml_iconst dX10_lineOf_21 kc_i1 <| ml_aload_n dX10_lineOf_22 1 rfl <| ml_ck_of h fun hc2974 h => ml_getR dX10_lineOf_23 wb_189 hc2974 <| ml_lx (mk := ml_r) h fun a2975 h => ml_ck_of h fun hc2976 h => ml_getI dX10_lineOf_26 wb_190 hc2976 <| ml_ishl dX10_lineOf_29 <| ml_ck_of h fun hl2977 h => ml_newAs (kd := 20) dX10_lineOf_30 wb_0 hl2977 h fun a2978 m2979 hn2980 hc2981 h => ml_astore_n (lv' := [(3, ml_r a2978), (2, ml_r a2972), (0, ml_r l0), (1, ml_i l1)]) dX10_lineOf_32 (ml_hn hL rfl) rfl <| ml_aload_n dX10_lineOf_33 1 rfl <| ml_iload_n dX10_lineOf_34 3 rfl <| ml_ck_of h fun hi2982 h => ml_iald dX10_lineOf_35 hi2982 <| ml_lx (mk := ml_i) h fun x2983 h => ml_istore (lv' := [(4, ml_i x2983), (3, ml_r a2978), (2, ml_r a2972), (0, ml_r l0), (1, ml_i l1)]) dX10_lineOf_36 (ml_hn hL rfl) rfl <| ml_iconst dX10_lineOf_38 kc_i0 <| ml_istore (lv' := [(5, ml_i (0 : Int32)), (4, ml_i x2983), (3, ml_r a2978), (2, ml_r a2972), (0, ml_r l0), (1, ml_i l1)]) dX10_lineOf_39 (ml_hn hL rfl) rfl <| ml_iconst dX10_lineOf_41 kc_i0 <| ml_istore (lv' := [(6, ml_i (0 : Int32)), (5, ml_i (0 : Int32)), (4, ml_i x2983), (3, ml_r a2978), (2, ml_r a2972), (0, ml_r l0), (1, ml_i l1)]) dX10_lineOf_42 (ml_hn hL rfl) rfl <| ml_V.sub [5, 6, 4, 3, 2, 1, 0] rfl (vX10_lineOf_44 hL hr  ml_fu _ _ _ _ _ _ _ _ h)) (fun _ h => ml_iconst dX10_lineOf_14 kc_im1 <| ml_rI (mk := ml_i) hr dX10_lineOf_15 (fun _ => trivial) h)
theorem sX10_lineOf {l0 : Nat} {l1 : Int32} {m : ml_M} {rv : Int32} {rm : ml_M} (h : fX10_lineOf l0 l1 m = some (rv, rm)) : ml_Sn yX10_lineOf cX10_lineOf 7 (some .int) 4 [ml_r l0, ml_i l1] m (some (ml_i rv)) rm :=
  ml_Sn_of (P := True) (ini := false) (by decide +kernel) (Nat.le_of_ble_eq_true rfl) (fun h => by cases h) (fun _ => ml_RkI rv) fun E hL hr => wX10_lineOf_0 hL hr _ _ _ h

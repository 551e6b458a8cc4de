/-! printed by wip/whole/emit.py out of the claim's own listing -/
theorem dX11_clear_0 : ml_d cX11_clear 0 (.aload_n 0) 1 1 := ⟨by decide +kernel, rfl⟩
theorem dX11_clear_1 : ml_d cX11_clear 1 (.getfield 13) 3 4 := ⟨by decide +kernel, rfl⟩
theorem dX11_clear_4 : ml_d cX11_clear 4 (.iload_n 1) 1 5 := ⟨by decide +kernel, rfl⟩
theorem dX11_clear_5 : ml_d cX11_clear 5 (.iload_n 2) 1 6 := ⟨by decide +kernel, rfl⟩
theorem dX11_clear_6 : ml_d cX11_clear 6 (.iastore) 1 7 := ⟨by decide +kernel, rfl⟩
theorem dX11_clear_7 : ml_d cX11_clear 7 (.iconst 0) 1 8 := ⟨by decide +kernel, rfl⟩
theorem dX11_clear_8 : ml_d cX11_clear 8 (.istore_n 3) 1 9 := ⟨by decide +kernel, rfl⟩
theorem dX11_clear_9 : ml_d cX11_clear 9 (.iload_n 3) 1 10 := ⟨by decide +kernel, rfl⟩
theorem dX11_clear_10 : ml_d cX11_clear 10 (.bipush 48) 2 12 := ⟨by decide +kernel, rfl⟩
theorem dX11_clear_12 : ml_j cX11_clear 12 (.if_icmp .ge) 33 15 := ⟨21, by decide +kernel, by decide, rfl⟩
theorem dX11_clear_15 : ml_d cX11_clear 15 (.aload_n 0) 1 16 := ⟨by decide +kernel, rfl⟩
theorem dX11_clear_16 : ml_d cX11_clear 16 (.getfield 16) 3 19 := ⟨by decide +kernel, rfl⟩
theorem dX11_clear_19 : ml_d cX11_clear 19 (.bipush 48) 2 21 := ⟨by decide +kernel, rfl⟩
theorem dX11_clear_21 : ml_d cX11_clear 21 (.iload_n 1) 1 22 := ⟨by decide +kernel, rfl⟩
theorem dX11_clear_22 : ml_d cX11_clear 22 (.imul) 1 23 := ⟨by decide +kernel, rfl⟩
theorem dX11_clear_23 : ml_d cX11_clear 23 (.iload_n 3) 1 24 := ⟨by decide +kernel, rfl⟩
theorem dX11_clear_24 : ml_d cX11_clear 24 (.iadd) 1 25 := ⟨by decide +kernel, rfl⟩
theorem dX11_clear_25 : ml_d cX11_clear 25 (.iconst 0) 1 26 := ⟨by decide +kernel, rfl⟩
theorem dX11_clear_26 : ml_d cX11_clear 26 (.iastore) 1 27 := ⟨by decide +kernel, rfl⟩
theorem dX11_clear_27 : ml_d cX11_clear 27 (.iinc 3 1) 3 30 := ⟨by decide +kernel, rfl⟩
theorem dX11_clear_30 : ml_j cX11_clear 30 .goto 9 33 := ⟨(-21), by decide +kernel, by decide, rfl⟩
theorem dX11_clear_33 : ml_d cX11_clear 33 (.return_) 1 34 := ⟨by decide +kernel, rfl⟩
def fX11_clear_9 : Nat → Nat → Int32 → Int32 → ml_M → Option ml_M
  | 0, _, _, _, _ => none
  | fu + 1, l0, l1, l3, m =>
    if (48 : Int32) ≤ l3 then
    some m
    else
    if (ml_K m l0).1 = 11 then
    ml_let (ml_R m l0 5) fun a2121 =>
    if ml_in m a2121 20 (((48 : Int32) * l1) + l3) then
    ml_let (ml_sI m a2121 (((48 : Int32) * l1) + l3).toNatClampNeg (0 : Int32)) fun m2123 =>
    (fX11_clear_9 fu) l0 l1 (l3 + (1 : Int32)) m2123
    else none
    else none
theorem vX11_clear_9 {E : ml_E} (hL : ml_eL E = 4) {rm : ml_M} (hr : ∀ (pc pc' : Nat) (lv : List (Nat × ml_X)), ml_d cX11_clear pc .return_ 1 pc' → True → ml_V E "LostRoomModel" cX11_clear 2 false rm pc lv []) : ∀ (fu : Nat) (l0 : Nat) (l1 : Int32) (l3 : Int32) (m : ml_M), fX11_clear_9 fu l0 l1 l3 m = some rm → ml_V E "LostRoomModel" cX11_clear 2 false m 9 [(0, ml_r l0), (1, ml_i l1), (3, ml_i l3)] [] := by
  intro fu
  induction fu with
  | zero => intro l0 l1 l3 m h; exact ml_none h
  | succ fu ih =>
    intro l0 l1 l3 m h
    have hk9 := ih
    unfold fX11_clear_9 at h
    exact ml_iload_n dX11_clear_9 2 rfl <| ml_bipush dX11_clear_10 kc_b48 <| ml_icmp_ge dX11_clear_12 h (fun _ h => ml_rv hr dX11_clear_33 trivial h) (fun _ h => ml_aload_n dX11_clear_15 0 rfl <| ml_ck_of h fun hc2120 h => ml_getR dX11_clear_16 wb_103 hc2120 <| ml_lx (mk := ml_r) h fun a2121 h => ml_bipush dX11_clear_19 kc_b48 <| ml_iload_n dX11_clear_21 1 rfl <| ml_imul dX11_clear_22 <| ml_iload_n dX11_clear_23 2 rfl <| ml_iadd dX11_clear_24 <| ml_iconst dX11_clear_25 kc_i0 <| ml_ck_of h fun hi2122 h => ml_iast dX11_clear_26 hi2122 <| ml_lt (m := m) rfl h fun m2123 em2124 h => ml_iinc (lv' := [(3, ml_i (l3 + (1 : Int32))), (0, ml_r l0), (1, ml_i l1)]) dX11_clear_27 2 rfl (congrArg (l3 + ·) kc_i1) (ml_hn hL rfl) rfl <| ml_goto dX11_clear_30 <| ml_V.sub [1, 2, 0] rfl (hk9 _ _ _ _ h))
def fX11_clear (l0 : Nat) (l1 : Int32) (l2 : Int32) (m : ml_M) : Option ml_M :=
    if (ml_K m l0).1 = 11 then
    ml_let (ml_R m l0 4) fun a2126 =>
    if ml_in m a2126 20 l1 then
    ml_let (ml_sI m a2126 l1.toNatClampNeg l2) fun m2128 =>
    fX11_clear_9 ml_fu l0 l1 (0 : Int32) m2128
    else none
    else none
theorem wX11_clear_0 {E : ml_E} (hL : ml_eL E = 4) {rm : ml_M} (hr : ∀ (pc pc' : Nat) (lv : List (Nat × ml_X)), ml_d cX11_clear pc .return_ 1 pc' → True → ml_V E "LostRoomModel" cX11_clear 2 false rm pc lv []) : ∀ (l0 : Nat) (l1 : Int32) (l2 : Int32) (m : ml_M), fX11_clear l0 l1 l2 m = some rm → ml_V E "LostRoomModel" cX11_clear 2 false m 0 [(0, ml_r l0), (1, ml_i l1), (2, ml_i l2)] [] := by
  intro l0 l1 l2 m h
  unfold fX11_clear at h
  exact ml_aload_n dX11_clear_0 0 rfl <| ml_ck_of h fun hc2125 h => ml_getR dX11_clear_1 wb_64 hc2125 <| ml_lx (mk := ml_r) h fun a2126 h => ml_iload_n dX11_clear_4 1 rfl <| ml_iload_n dX11_clear_5 2 rfl <| ml_ck_of h fun hi2127 h => ml_iast dX11_clear_6 hi2127 <| ml_lt (m := m) rfl h fun m2128 em2129 h => ml_iconst dX11_clear_7 kc_i0 <| ml_istore_n (lv' := [(3, ml_i (0 : Int32)), (0, ml_r l0), (1, ml_i l1), (2, ml_i l2)]) dX11_clear_8 (ml_hn hL rfl) rfl <| ml_V.sub [1, 2, 0] rfl (vX11_clear_9 hL hr  ml_fu _ _ _ _ h)
theorem sX11_clear {l0 : Nat} {l1 : Int32} {l2 : Int32} {m : ml_M} {rm : ml_M} (h : fX11_clear l0 l1 l2 m = some rm) : ml_Sn yX11_clear cX11_clear 4 none 2 [ml_r l0, ml_i l1, ml_i l2] m none rm :=
  ml_Sn_of (P := True) (ini := false) (by decide +kernel) (Nat.le_of_ble_eq_true rfl) (fun h => by cases h) (fun _ => ml_RkV) fun E hL hr => wX11_clear_0 hL hr _ _ _ _ h
theorem dX11_piling_0 : ml_d cX11_piling 0 (.iload_n 1) 1 1 := ⟨by decide +kernel, rfl⟩
theorem dX11_piling_1 : ml_d cX11_piling 1 (.invokestatic 111) 3 4 := ⟨by decide +kernel, rfl⟩
theorem dX11_piling_4 : ml_j cX11_piling 4 (.ifCond .ne) 9 7 := ⟨5, by decide +kernel, by decide, rfl⟩
theorem dX11_piling_7 : ml_d cX11_piling 7 (.iconst (-1)) 1 8 := ⟨by decide +kernel, rfl⟩
theorem dX11_piling_8 : ml_d cX11_piling 8 (.ireturn) 1 9 := ⟨by decide +kernel, rfl⟩
theorem dX11_piling_9 : ml_d cX11_piling 9 (.iconst 1) 1 10 := ⟨by decide +kernel, rfl⟩
theorem dX11_piling_10 : ml_d cX11_piling 10 (.aload_n 0) 1 11 := ⟨by decide +kernel, rfl⟩
theorem dX11_piling_11 : ml_d cX11_piling 11 (.getfield 175) 3 14 := ⟨by decide +kernel, rfl⟩
theorem dX11_piling_14 : ml_d cX11_piling 14 (.ishl) 1 15 := ⟨by decide +kernel, rfl⟩
theorem dX11_piling_15 : ml_d cX11_piling 15 (.iconst 1) 1 16 := ⟨by decide +kernel, rfl⟩
theorem dX11_piling_16 : ml_d cX11_piling 16 (.isub) 1 17 := ⟨by decide +kernel, rfl⟩
theorem dX11_piling_17 : ml_d cX11_piling 17 (.istore_n 2) 1 18 := ⟨by decide +kernel, rfl⟩
theorem dX11_piling_18 : ml_d cX11_piling 18 (.iload_n 2) 1 19 := ⟨by decide +kernel, rfl⟩
theorem dX11_piling_19 : ml_d cX11_piling 19 (.istore_n 3) 1 20 := ⟨by decide +kernel, rfl⟩
theorem dX11_piling_20 : ml_d cX11_piling 20 (.iload_n 3) 1 21 := ⟨by decide +kernel, rfl⟩
theorem dX11_piling_21 : ml_j cX11_piling 21 (.ifCond .lt) 98 24 := ⟨77, by decide +kernel, by decide, rfl⟩
theorem dX11_piling_24 : ml_d cX11_piling 24 (.aload_n 0) 1 25 := ⟨by decide +kernel, rfl⟩
theorem dX11_piling_25 : ml_d cX11_piling 25 (.getfield 50) 3 28 := ⟨by decide +kernel, rfl⟩
theorem dX11_piling_28 : ml_d cX11_piling 28 (.iload_n 3) 1 29 := ⟨by decide +kernel, rfl⟩
theorem dX11_piling_29 : ml_d cX11_piling 29 (.iload_n 3) 1 30 := ⟨by decide +kernel, rfl⟩
theorem dX11_piling_30 : ml_d cX11_piling 30 (.iload_n 2) 1 31 := ⟨by decide +kernel, rfl⟩
theorem dX11_piling_31 : ml_j cX11_piling 31 (.if_icmp .ne) 38 34 := ⟨7, by decide +kernel, by decide, rfl⟩
theorem dX11_piling_34 : ml_d cX11_piling 34 (.iconst 1) 1 35 := ⟨by decide +kernel, rfl⟩
theorem dX11_piling_35 : ml_j cX11_piling 35 .goto 39 38 := ⟨4, by decide +kernel, by decide, rfl⟩
theorem dX11_piling_38 : ml_d cX11_piling 38 (.iconst 0) 1 39 := ⟨by decide +kernel, rfl⟩
theorem dX11_piling_39 : ml_d cX11_piling 39 (.iastore) 1 40 := ⟨by decide +kernel, rfl⟩
theorem dX11_piling_40 : ml_d cX11_piling 40 (.iconst 0) 1 41 := ⟨by decide +kernel, rfl⟩
theorem dX11_piling_41 : ml_d cX11_piling 41 (.istore 4) 2 43 := ⟨by decide +kernel, rfl⟩
theorem dX11_piling_43 : ml_d cX11_piling 43 (.iload 4) 2 45 := ⟨by decide +kernel, rfl⟩
theorem dX11_piling_45 : ml_d cX11_piling 45 (.aload_n 0) 1 46 := ⟨by decide +kernel, rfl⟩
theorem dX11_piling_46 : ml_d cX11_piling 46 (.getfield 175) 3 49 := ⟨by decide +kernel, rfl⟩
theorem dX11_piling_49 : ml_j cX11_piling 49 (.if_icmp .ge) 92 52 := ⟨43, by decide +kernel, by decide, rfl⟩
theorem dX11_piling_52 : ml_d cX11_piling 52 (.aload_n 0) 1 53 := ⟨by decide +kernel, rfl⟩
theorem dX11_piling_53 : ml_d cX11_piling 53 (.getfield 50) 3 56 := ⟨by decide +kernel, rfl⟩
theorem dX11_piling_56 : ml_d cX11_piling 56 (.iload_n 3) 1 57 := ⟨by decide +kernel, rfl⟩
theorem dX11_piling_57 : ml_d cX11_piling 57 (.dup2) 1 58 := ⟨by decide +kernel, rfl⟩
theorem dX11_piling_58 : ml_d cX11_piling 58 (.iaload) 1 59 := ⟨by decide +kernel, rfl⟩
theorem dX11_piling_59 : ml_d cX11_piling 59 (.aload_n 0) 1 60 := ⟨by decide +kernel, rfl⟩
theorem dX11_piling_60 : ml_d cX11_piling 60 (.iload 4) 2 62 := ⟨by decide +kernel, rfl⟩
theorem dX11_piling_62 : ml_d cX11_piling 62 (.iload_n 3) 1 63 := ⟨by decide +kernel, rfl⟩
theorem dX11_piling_63 : ml_d cX11_piling 63 (.invokevirtual 269) 3 66 := ⟨by decide +kernel, rfl⟩
theorem dX11_piling_66 : ml_j cX11_piling 66 (.ifCond .eq) 83 69 := ⟨17, by decide +kernel, by decide, rfl⟩
theorem dX11_piling_69 : ml_d cX11_piling 69 (.aload_n 0) 1 70 := ⟨by decide +kernel, rfl⟩
theorem dX11_piling_70 : ml_d cX11_piling 70 (.getfield 50) 3 73 := ⟨by decide +kernel, rfl⟩
theorem dX11_piling_73 : ml_d cX11_piling 73 (.iload_n 3) 1 74 := ⟨by decide +kernel, rfl⟩
theorem dX11_piling_74 : ml_d cX11_piling 74 (.iconst 1) 1 75 := ⟨by decide +kernel, rfl⟩
theorem dX11_piling_75 : ml_d cX11_piling 75 (.iload 4) 2 77 := ⟨by decide +kernel, rfl⟩
theorem dX11_piling_77 : ml_d cX11_piling 77 (.ishl) 1 78 := ⟨by decide +kernel, rfl⟩
theorem dX11_piling_78 : ml_d cX11_piling 78 (.ior) 1 79 := ⟨by decide +kernel, rfl⟩
theorem dX11_piling_79 : ml_d cX11_piling 79 (.iaload) 1 80 := ⟨by decide +kernel, rfl⟩
theorem dX11_piling_80 : ml_j cX11_piling 80 .goto 84 83 := ⟨4, by decide +kernel, by decide, rfl⟩
theorem dX11_piling_83 : ml_d cX11_piling 83 (.iconst 0) 1 84 := ⟨by decide +kernel, rfl⟩
theorem dX11_piling_84 : ml_d cX11_piling 84 (.iadd) 1 85 := ⟨by decide +kernel, rfl⟩
theorem dX11_piling_85 : ml_d cX11_piling 85 (.iastore) 1 86 := ⟨by decide +kernel, rfl⟩
theorem dX11_piling_86 : ml_d cX11_piling 86 (.iinc 4 1) 3 89 := ⟨by decide +kernel, rfl⟩
theorem dX11_piling_89 : ml_j cX11_piling 89 .goto 43 92 := ⟨(-46), by decide +kernel, by decide, rfl⟩
theorem dX11_piling_92 : ml_d cX11_piling 92 (.iinc 3 (-1)) 3 95 := ⟨by decide +kernel, rfl⟩
theorem dX11_piling_95 : ml_j cX11_piling 95 .goto 20 98 := ⟨(-75), by decide +kernel, by decide, rfl⟩
theorem dX11_piling_98 : ml_d cX11_piling 98 (.aload_n 0) 1 99 := ⟨by decide +kernel, rfl⟩
theorem dX11_piling_99 : ml_d cX11_piling 99 (.getfield 50) 3 102 := ⟨by decide +kernel, rfl⟩
theorem dX11_piling_102 : ml_d cX11_piling 102 (.iconst 0) 1 103 := ⟨by decide +kernel, rfl⟩
theorem dX11_piling_103 : ml_d cX11_piling 103 (.iaload) 1 104 := ⟨by decide +kernel, rfl⟩
theorem dX11_piling_104 : ml_j cX11_piling 104 (.ifCond .ne) 110 107 := ⟨6, by decide +kernel, by decide, rfl⟩
theorem dX11_piling_107 : ml_d cX11_piling 107 (.bipush (-9)) 2 109 := ⟨by decide +kernel, rfl⟩
theorem dX11_piling_109 : ml_d cX11_piling 109 (.ireturn) 1 110 := ⟨by decide +kernel, rfl⟩
theorem dX11_piling_110 : ml_d cX11_piling 110 (.iconst 0) 1 111 := ⟨by decide +kernel, rfl⟩
theorem dX11_piling_111 : ml_d cX11_piling 111 (.istore_n 3) 1 112 := ⟨by decide +kernel, rfl⟩
theorem dX11_piling_112 : ml_d cX11_piling 112 (.aload_n 0) 1 113 := ⟨by decide +kernel, rfl⟩
theorem dX11_piling_113 : ml_d cX11_piling 113 (.iload_n 1) 1 114 := ⟨by decide +kernel, rfl⟩
theorem dX11_piling_114 : ml_d cX11_piling 114 (.aload_n 0) 1 115 := ⟨by decide +kernel, rfl⟩
theorem dX11_piling_115 : ml_d cX11_piling 115 (.getfield 175) 3 118 := ⟨by decide +kernel, rfl⟩
theorem dX11_piling_118 : ml_d cX11_piling 118 (.invokevirtual 272) 3 121 := ⟨by decide +kernel, rfl⟩
theorem dX11_piling_121 : ml_d cX11_piling 121 (.iconst 0) 1 122 := ⟨by decide +kernel, rfl⟩
theorem dX11_piling_122 : ml_d cX11_piling 122 (.istore 4) 2 124 := ⟨by decide +kernel, rfl⟩
theorem dX11_piling_124 : ml_d cX11_piling 124 (.iload 4) 2 126 := ⟨by decide +kernel, rfl⟩
theorem dX11_piling_126 : ml_d cX11_piling 126 (.aload_n 0) 1 127 := ⟨by decide +kernel, rfl⟩
theorem dX11_piling_127 : ml_d cX11_piling 127 (.getfield 175) 3 130 := ⟨by decide +kernel, rfl⟩
theorem dX11_piling_130 : ml_j cX11_piling 130 (.if_icmp .ge) 193 133 := ⟨63, by decide +kernel, by decide, rfl⟩
theorem dX11_piling_133 : ml_d cX11_piling 133 (.iconst 0) 1 134 := ⟨by decide +kernel, rfl⟩
theorem dX11_piling_134 : ml_d cX11_piling 134 (.istore 5) 2 136 := ⟨by decide +kernel, rfl⟩
theorem dX11_piling_136 : ml_d cX11_piling 136 (.aload_n 0) 1 137 := ⟨by decide +kernel, rfl⟩
theorem dX11_piling_137 : ml_d cX11_piling 137 (.iload 5) 2 139 := ⟨by decide +kernel, rfl⟩
theorem dX11_piling_139 : ml_d cX11_piling 139 (.iload_n 3) 1 140 := ⟨by decide +kernel, rfl⟩
theorem dX11_piling_140 : ml_d cX11_piling 140 (.invokevirtual 269) 3 143 := ⟨by decide +kernel, rfl⟩
theorem dX11_piling_143 : ml_j cX11_piling 143 (.ifCond .eq) 160 146 := ⟨17, by decide +kernel, by decide, rfl⟩
theorem dX11_piling_146 : ml_d cX11_piling 146 (.aload_n 0) 1 147 := ⟨by decide +kernel, rfl⟩
theorem dX11_piling_147 : ml_d cX11_piling 147 (.getfield 50) 3 150 := ⟨by decide +kernel, rfl⟩
theorem dX11_piling_150 : ml_d cX11_piling 150 (.iload_n 3) 1 151 := ⟨by decide +kernel, rfl⟩
theorem dX11_piling_151 : ml_d cX11_piling 151 (.iconst 1) 1 152 := ⟨by decide +kernel, rfl⟩
theorem dX11_piling_152 : ml_d cX11_piling 152 (.iload 5) 2 154 := ⟨by decide +kernel, rfl⟩
theorem dX11_piling_154 : ml_d cX11_piling 154 (.ishl) 1 155 := ⟨by decide +kernel, rfl⟩
theorem dX11_piling_155 : ml_d cX11_piling 155 (.ior) 1 156 := ⟨by decide +kernel, rfl⟩
theorem dX11_piling_156 : ml_d cX11_piling 156 (.iaload) 1 157 := ⟨by decide +kernel, rfl⟩
theorem dX11_piling_157 : ml_j cX11_piling 157 (.ifCond .ne) 166 160 := ⟨9, by decide +kernel, by decide, rfl⟩
theorem dX11_piling_160 : ml_d cX11_piling 160 (.iinc 5 1) 3 163 := ⟨by decide +kernel, rfl⟩
theorem dX11_piling_163 : ml_j cX11_piling 163 .goto 136 166 := ⟨(-27), by decide +kernel, by decide, rfl⟩
theorem dX11_piling_166 : ml_d cX11_piling 166 (.aload_n 0) 1 167 := ⟨by decide +kernel, rfl⟩
theorem dX11_piling_167 : ml_d cX11_piling 167 (.getfield 16) 3 170 := ⟨by decide +kernel, rfl⟩
theorem dX11_piling_170 : ml_d cX11_piling 170 (.bipush 48) 2 172 := ⟨by decide +kernel, rfl⟩
theorem dX11_piling_172 : ml_d cX11_piling 172 (.iload_n 1) 1 173 := ⟨by decide +kernel, rfl⟩
theorem dX11_piling_173 : ml_d cX11_piling 173 (.imul) 1 174 := ⟨by decide +kernel, rfl⟩
theorem dX11_piling_174 : ml_d cX11_piling 174 (.iload 4) 2 176 := ⟨by decide +kernel, rfl⟩
theorem dX11_piling_176 : ml_d cX11_piling 176 (.iadd) 1 177 := ⟨by decide +kernel, rfl⟩
theorem dX11_piling_177 : ml_d cX11_piling 177 (.iload 5) 2 179 := ⟨by decide +kernel, rfl⟩
theorem dX11_piling_179 : ml_d cX11_piling 179 (.iastore) 1 180 := ⟨by decide +kernel, rfl⟩
theorem dX11_piling_180 : ml_d cX11_piling 180 (.iload_n 3) 1 181 := ⟨by decide +kernel, rfl⟩
theorem dX11_piling_181 : ml_d cX11_piling 181 (.iconst 1) 1 182 := ⟨by decide +kernel, rfl⟩
theorem dX11_piling_182 : ml_d cX11_piling 182 (.iload 5) 2 184 := ⟨by decide +kernel, rfl⟩
theorem dX11_piling_184 : ml_d cX11_piling 184 (.ishl) 1 185 := ⟨by decide +kernel, rfl⟩
theorem dX11_piling_185 : ml_d cX11_piling 185 (.ior) 1 186 := ⟨by decide +kernel, rfl⟩
theorem dX11_piling_186 : ml_d cX11_piling 186 (.istore_n 3) 1 187 := ⟨by decide +kernel, rfl⟩
theorem dX11_piling_187 : ml_d cX11_piling 187 (.iinc 4 1) 3 190 := ⟨by decide +kernel, rfl⟩
theorem dX11_piling_190 : ml_j cX11_piling 190 .goto 124 193 := ⟨(-66), by decide +kernel, by decide, rfl⟩
theorem dX11_piling_193 : ml_d cX11_piling 193 (.aload_n 0) 1 194 := ⟨by decide +kernel, rfl⟩
theorem dX11_piling_194 : ml_d cX11_piling 194 (.getfield 50) 3 197 := ⟨by decide +kernel, rfl⟩
theorem dX11_piling_197 : ml_d cX11_piling 197 (.iconst 0) 1 198 := ⟨by decide +kernel, rfl⟩
theorem dX11_piling_198 : ml_d cX11_piling 198 (.iaload) 1 199 := ⟨by decide +kernel, rfl⟩
theorem dX11_piling_199 : ml_d cX11_piling 199 (.ireturn) 1 200 := ⟨by decide +kernel, rfl⟩
def fX11_piling_84 (k20 : Nat → Int32 → Int32 → Int32 → ml_M → Option (Int32 × ml_M)) (k43 : Nat → Int32 → Int32 → Int32 → Int32 → ml_M → Option (Int32 × ml_M)) (l0 : Nat) (l1 : Int32) (l2 : Int32) (l3 : Int32) (l4 : Int32) (t0 : Int32) (t1 : Int32) (t2 : Int32) (t3 : Nat) (m : ml_M) : Option (Int32 × ml_M) :=
    if ml_in m t3 20 t2 then
    ml_let (ml_sI m t3 t2.toNatClampNeg (t1 + t0)) fun m2131 =>
    k43 l0 l1 l2 l3 (l4 + (1 : Int32)) m2131
    else none
theorem vX11_piling_84 {E : ml_E} (hL : ml_eL E = 6) {rv : Int32} {rm : ml_M} (hr : ∀ (pc pc' : Nat) (lv : List (Nat × ml_X)), ml_d cX11_piling pc .ireturn 1 pc' → True → ml_V E "LostRoomModel" cX11_piling 4 false rm pc lv [ml_i rv]) {k20 : Nat → Int32 → Int32 → Int32 → ml_M → Option (Int32 × ml_M)} (hk20 : ∀ (l0 : Nat) (l1 : Int32) (l2 : Int32) (l3 : Int32) (m : ml_M), k20 l0 l1 l2 l3 m = some (rv, rm) → ml_V E "LostRoomModel" cX11_piling 4 false m 20 [(0, ml_r l0), (1, ml_i l1), (2, ml_i l2), (3, ml_i l3)] []) {k43 : Nat → Int32 → Int32 → Int32 → Int32 → ml_M → Option (Int32 × ml_M)} (hk43 : ∀ (l0 : Nat) (l1 : Int32) (l2 : Int32) (l3 : Int32) (l4 : Int32) (m : ml_M), k43 l0 l1 l2 l3 l4 m = some (rv, rm) → ml_V E "LostRoomModel" cX11_piling 4 false m 43 [(0, ml_r l0), (1, ml_i l1), (2, ml_i l2), (3, ml_i l3), (4, ml_i l4)] []) : ∀ (l0 : Nat) (l1 : Int32) (l2 : Int32) (l3 : Int32) (l4 : Int32) (t0 : Int32) (t1 : Int32) (t2 : Int32) (t3 : Nat) (m : ml_M), fX11_piling_84 k20 k43 l0 l1 l2 l3 l4 t0 t1 t2 t3 m = some (rv, rm) → ml_V E "LostRoomModel" cX11_piling 4 false m 84 [(0, ml_r l0), (1, ml_i l1), (2, ml_i l2), (3, ml_i l3), (4, ml_i l4)] [ml_i t0, ml_i t1, ml_i t2, ml_r t3] := by
  intro l0 l1 l2 l3 l4 t0 t1 t2 t3 m h
  unfold fX11_piling_84 at h
  exact ml_iadd dX11_piling_84 <| ml_ck_of h fun hi2130 h => ml_iast dX11_piling_85 hi2130 <| ml_lt (m := m) rfl h fun m2131 em2132 h => ml_iinc (lv' := [(4, ml_i (l4 + (1 : Int32))), (0, ml_r l0), (1, ml_i l1), (2, ml_i l2), (3, ml_i l3)]) dX11_piling_86 4 rfl (congrArg (l4 + ·) kc_i1) (ml_hn hL rfl) rfl <| ml_goto dX11_piling_89 <| ml_V.sub [1, 2, 3, 4, 0] rfl (hk43 _ _ _ _ _ _ h)
def fX11_piling_92 (k20 : Nat → Int32 → Int32 → Int32 → ml_M → Option (Int32 × ml_M)) (l0 : Nat) (l1 : Int32) (l2 : Int32) (l3 : Int32) (m : ml_M) : Option (Int32 × ml_M) :=
    k20 l0 l1 l2 (l3 + (-1 : Int32)) m
theorem vX11_piling_92 {E : ml_E} (hL : ml_eL E = 6) {rv : Int32} {rm : ml_M} (hr : ∀ (pc pc' : Nat) (lv : List (Nat × ml_X)), ml_d cX11_piling pc .ireturn 1 pc' → True → ml_V E "LostRoomModel" cX11_piling 4 false rm pc lv [ml_i rv]) {k20 : Nat → Int32 → Int32 → Int32 → ml_M → Option (Int32 × ml_M)} (hk20 : ∀ (l0 : Nat) (l1 : Int32) (l2 : Int32) (l3 : Int32) (m : ml_M), k20 l0 l1 l2 l3 m = some (rv, rm) → ml_V E "LostRoomModel" cX11_piling 4 false m 20 [(0, ml_r l0), (1, ml_i l1), (2, ml_i l2), (3, ml_i l3)] []) : ∀ (l0 : Nat) (l1 : Int32) (l2 : Int32) (l3 : Int32) (m : ml_M), fX11_piling_92 k20 l0 l1 l2 l3 m = some (rv, rm) → ml_V E "LostRoomModel" cX11_piling 4 false m 92 [(0, ml_r l0), (1, ml_i l1), (2, ml_i l2), (3, ml_i l3)] [] := by
  intro l0 l1 l2 l3 m h
  unfold fX11_piling_92 at h
  exact ml_iinc (lv' := [(3, ml_i (l3 + (-1 : Int32))), (0, ml_r l0), (1, ml_i l1), (2, ml_i l2)]) dX11_piling_92 3 rfl (congrArg (l3 + ·) kc_im1) (ml_hn hL rfl) rfl <| ml_goto dX11_piling_95 <| ml_V.sub [1, 2, 3, 0] rfl (hk20 _ _ _ _ _ h)
def fX11_piling_43 (k20 : Nat → Int32 → Int32 → Int32 → ml_M → Option (Int32 × ml_M)) : Nat → Nat → Int32 → Int32 → Int32 → Int32 → ml_M → Option (Int32 × ml_M)
  | 0, _, _, _, _, _, _ => none
  | fu + 1, l0, l1, l2, l3, l4, m =>
    if (ml_K m l0).1 = 11 then
    if (ml_I m l0 10) ≤ l4 then
    fX11_piling_92 k20 l0 l1 l2 l3 m
    else
    ml_let (ml_R m l0 26) fun a2134 =>
    if ml_in m a2134 20 l3 then
    ml_b1 (fX11_canCome l0 l4 l3 m) fun r2137 =>
    if r2137 = 0 then
    fX11_piling_84 k20 (fX11_piling_43 k20 fu) l0 l1 l2 l3 l4 (0 : Int32) (ml_I m a2134 l3.toNatClampNeg) l3 a2134 m
    else
    ml_let (ml_R m l0 26) fun a2138 =>
    if ml_in m a2138 20 (l3 ||| ((1 : Int32) <<< (l4 &&& 31))) then
    fX11_piling_84 k20 (fX11_piling_43 k20 fu) l0 l1 l2 l3 l4 (ml_I m a2138 (l3 ||| ((1 : Int32) <<< (l4 &&& 31))).toNatClampNeg) (ml_I m a2134 l3.toNatClampNeg) l3 a2134 m
    else none
    else none
    else none
theorem vX11_piling_43 {E : ml_E} (hL : ml_eL E = 6) {rv : Int32} {rm : ml_M} (hr : ∀ (pc pc' : Nat) (lv : List (Nat × ml_X)), ml_d cX11_piling pc .ireturn 1 pc' → True → ml_V E "LostRoomModel" cX11_piling 4 false rm pc lv [ml_i rv]) {k20 : Nat → Int32 → Int32 → Int32 → ml_M → Option (Int32 × ml_M)} (hk20 : ∀ (l0 : Nat) (l1 : Int32) (l2 : Int32) (l3 : Int32) (m : ml_M), k20 l0 l1 l2 l3 m = some (rv, rm) → ml_V E "LostRoomModel" cX11_piling 4 false m 20 [(0, ml_r l0), (1, ml_i l1), (2, ml_i l2), (3, ml_i l3)] []) : ∀ (fu : Nat) (l0 : Nat) (l1 : Int32) (l2 : Int32) (l3 : Int32) (l4 : Int32) (m : ml_M), fX11_piling_43 k20 fu l0 l1 l2 l3 l4 m = some (rv, rm) → ml_V E "LostRoomModel" cX11_piling 4 false m 43 [(0, ml_r l0), (1, ml_i l1), (2, ml_i l2), (3, ml_i l3), (4, ml_i l4)] [] := by
  intro fu
  induction fu with
  | zero => intro l0 l1 l2 l3 l4 m h; exact ml_none h
  | succ fu ih =>
    intro l0 l1 l2 l3 l4 m h
    have hk43 := ih
    unfold fX11_piling_43 at h
    exact ml_iload dX11_piling_43 4 rfl <| ml_aload_n dX11_piling_45 0 rfl <| ml_ck_of h fun hc2133 h => ml_getI dX11_piling_46 wb_196 hc2133 <| ml_icmp_ge dX11_piling_49 h (fun _ h => ml_V.sub [0, 1, 2, 3] rfl (vX11_piling_92 hL hr hk20 _ _ _ _ _ h)) (fun _ h => ml_aload_n dX11_piling_52 0 rfl <| ml_getR dX11_piling_53 wb_309 hc2133 <| ml_lx (mk := ml_r) h fun a2134 h => ml_iload_n dX11_piling_56 3 rfl <| ml_dup2 dX11_piling_57 rfl rfl <| ml_ck_of h fun hi2135 h => ml_iald dX11_piling_58 hi2135 <| ml_aload_n dX11_piling_59 0 rfl <| ml_iload dX11_piling_60 4 rfl <| ml_iload_n dX11_piling_62 3 rfl <| ml_b1_of h fun r2137 hv2136 h => ml_callV dX11_piling_63 wm_521 wb_310 hc2133 (sX11_canCome hv2136) rfl (Nat.le_of_ble_eq_true rfl) (Nat.le_of_ble_eq_true rfl) rfl <| ml_if_eq dX11_piling_66 h (fun _ h => ml_iconst dX11_piling_83 kc_i0 <| ml_V.sub [0, 1, 2, 3, 4] rfl (vX11_piling_84 hL hr hk20 hk43 _ _ _ _ _ _ _ _ _ _ h)) (fun _ h => ml_aload_n dX11_piling_69 0 rfl <| ml_getR dX11_piling_70 wb_309 hc2133 <| ml_lx (mk := ml_r) h fun a2138 h => ml_iload_n dX11_piling_73 3 rfl <| ml_iconst dX11_piling_74 kc_i1 <| ml_iload dX11_piling_75 4 rfl <| ml_ishl dX11_piling_77 <| ml_ior dX11_piling_78 <| ml_ck_of h fun hi2139 h => ml_iald dX11_piling_79 hi2139 <| ml_goto dX11_piling_80 <| ml_V.sub [0, 1, 2, 3, 4] rfl (vX11_piling_84 hL hr hk20 hk43 _ _ _ _ _ _ _ _ _ _ h)))
def fX11_piling_39 (k20 : Nat → Int32 → Int32 → Int32 → ml_M → Option (Int32 × ml_M)) (l0 : Nat) (l1 : Int32) (l2 : Int32) (l3 : Int32) (t0 : Int32) (t1 : Int32) (t2 : Nat) (m : ml_M) : Option (Int32 × ml_M) :=
    if ml_in m t2 20 t1 then
    ml_let (ml_sI m t2 t1.toNatClampNeg t0) fun m2141 =>
    fX11_piling_43 k20 ml_fu l0 l1 l2 l3 (0 : Int32) m2141
    else none
theorem vX11_piling_39 {E : ml_E} (hL : ml_eL E = 6) {rv : Int32} {rm : ml_M} (hr : ∀ (pc pc' : Nat) (lv : List (Nat × ml_X)), ml_d cX11_piling pc .ireturn 1 pc' → True → ml_V E "LostRoomModel" cX11_piling 4 false rm pc lv [ml_i rv]) {k20 : Nat → Int32 → Int32 → Int32 → ml_M → Option (Int32 × ml_M)} (hk20 : ∀ (l0 : Nat) (l1 : Int32) (l2 : Int32) (l3 : Int32) (m : ml_M), k20 l0 l1 l2 l3 m = some (rv, rm) → ml_V E "LostRoomModel" cX11_piling 4 false m 20 [(0, ml_r l0), (1, ml_i l1), (2, ml_i l2), (3, ml_i l3)] []) : ∀ (l0 : Nat) (l1 : Int32) (l2 : Int32) (l3 : Int32) (t0 : Int32) (t1 : Int32) (t2 : Nat) (m : ml_M), fX11_piling_39 k20 l0 l1 l2 l3 t0 t1 t2 m = some (rv, rm) → ml_V E "LostRoomModel" cX11_piling 4 false m 39 [(0, ml_r l0), (1, ml_i l1), (2, ml_i l2), (3, ml_i l3)] [ml_i t0, ml_i t1, ml_r t2] := by
  intro l0 l1 l2 l3 t0 t1 t2 m h
  unfold fX11_piling_39 at h
  exact ml_ck_of h fun hi2140 h => ml_iast dX11_piling_39 hi2140 <| ml_lt (m := m) rfl h fun m2141 em2142 h => ml_iconst dX11_piling_40 kc_i0 <| ml_istore (lv' := [(4, ml_i (0 : Int32)), (0, ml_r l0), (1, ml_i l1), (2, ml_i l2), (3, ml_i l3)]) dX11_piling_41 (ml_hn hL rfl) rfl <| ml_V.sub [1, 2, 3, 4, 0] rfl (vX11_piling_43 hL hr hk20 ml_fu _ _ _ _ _ _ h)
def fX11_piling_160 (k124 : Nat → Int32 → Int32 → Int32 → ml_M → Option (Int32 × ml_M)) (k136 : Nat → Int32 → Int32 → Int32 → Int32 → ml_M → Option (Int32 × ml_M)) (l0 : Nat) (l1 : Int32) (l3 : Int32) (l4 : Int32) (l5 : Int32) (m : ml_M) : Option (Int32 × ml_M) :=
    k136 l0 l1 l3 l4 (l5 + (1 : Int32)) m
theorem vX11_piling_160 {E : ml_E} (hL : ml_eL E = 6) {rv : Int32} {rm : ml_M} (hr : ∀ (pc pc' : Nat) (lv : List (Nat × ml_X)), ml_d cX11_piling pc .ireturn 1 pc' → True → ml_V E "LostRoomModel" cX11_piling 4 false rm pc lv [ml_i rv]) {k124 : Nat → Int32 → Int32 → Int32 → ml_M → Option (Int32 × ml_M)} (hk124 : ∀ (l0 : Nat) (l1 : Int32) (l3 : Int32) (l4 : Int32) (m : ml_M), k124 l0 l1 l3 l4 m = some (rv, rm) → ml_V E "LostRoomModel" cX11_piling 4 false m 124 [(0, ml_r l0), (1, ml_i l1), (3, ml_i l3), (4, ml_i l4)] []) {k136 : Nat → Int32 → Int32 → Int32 → Int32 → ml_M → Option (Int32 × ml_M)} (hk136 : ∀ (l0 : Nat) (l1 : Int32) (l3 : Int32) (l4 : Int32) (l5 : Int32) (m : ml_M), k136 l0 l1 l3 l4 l5 m = some (rv, rm) → ml_V E "LostRoomModel" cX11_piling 4 false m 136 [(0, ml_r l0), (1, ml_i l1), (3, ml_i l3), (4, ml_i l4), (5, ml_i l5)] []) : ∀ (l0 : Nat) (l1 : Int32) (l3 : Int32) (l4 : Int32) (l5 : Int32) (m : ml_M), fX11_piling_160 k124 k136 l0 l1 l3 l4 l5 m = some (rv, rm) → ml_V E "LostRoomModel" cX11_piling 4 false m 160 [(0, ml_r l0), (1, ml_i l1), (3, ml_i l3), (4, ml_i l4), (5, ml_i l5)] [] := by
  intro l0 l1 l3 l4 l5 m h
  unfold fX11_piling_160 at h
  exact ml_iinc (lv' := [(5, ml_i (l5 + (1 : Int32))), (0, ml_r l0), (1, ml_i l1), (3, ml_i l3), (4, ml_i l4)]) dX11_piling_160 4 rfl (congrArg (l5 + ·) kc_i1) (ml_hn hL rfl) rfl <| ml_goto dX11_piling_163 <| ml_V.sub [1, 2, 3, 4, 0] rfl (hk136 _ _ _ _ _ _ h)
def fX11_piling_166 (k124 : Nat → Int32 → Int32 → Int32 → ml_M → Option (Int32 × ml_M)) (l0 : Nat) (l1 : Int32) (l3 : Int32) (l4 : Int32) (l5 : Int32) (m : ml_M) : Option (Int32 × ml_M) :=
    if (ml_K m l0).1 = 11 then
    ml_let (ml_R m l0 5) fun a2144 =>
    if ml_in m a2144 20 (((48 : Int32) * l1) + l4) then
    ml_let (ml_sI m a2144 (((48 : Int32) * l1) + l4).toNatClampNeg l5) fun m2146 =>
    ml_let (l3 ||| ((1 : Int32) <<< (l5 &&& 31))) fun x2148 =>
    k124 l0 l1 x2148 (l4 + (1 : Int32)) m2146
    else none
    else none
theorem vX11_piling_166 {E : ml_E} (hL : ml_eL E = 6) {rv : Int32} {rm : ml_M} (hr : ∀ (pc pc' : Nat) (lv : List (Nat × ml_X)), ml_d cX11_piling pc .ireturn 1 pc' → True → ml_V E "LostRoomModel" cX11_piling 4 false rm pc lv [ml_i rv]) {k124 : Nat → Int32 → Int32 → Int32 → ml_M → Option (Int32 × ml_M)} (hk124 : ∀ (l0 : Nat) (l1 : Int32) (l3 : Int32) (l4 : Int32) (m : ml_M), k124 l0 l1 l3 l4 m = some (rv, rm) → ml_V E "LostRoomModel" cX11_piling 4 false m 124 [(0, ml_r l0), (1, ml_i l1), (3, ml_i l3), (4, ml_i l4)] []) : ∀ (l0 : Nat) (l1 : Int32) (l3 : Int32) (l4 : Int32) (l5 : Int32) (m : ml_M), fX11_piling_166 k124 l0 l1 l3 l4 l5 m = some (rv, rm) → ml_V E "LostRoomModel" cX11_piling 4 false m 166 [(0, ml_r l0), (1, ml_i l1), (3, ml_i l3), (4, ml_i l4), (5, ml_i l5)] [] := by
  intro l0 l1 l3 l4 l5 m h
  unfold fX11_piling_166 at h
  exact ml_aload_n dX11_piling_166 0 rfl <| ml_ck_of h fun hc2143 h => ml_getR dX11_piling_167 wb_103 hc2143 <| ml_lx (mk := ml_r) h fun a2144 h => ml_bipush dX11_piling_170 kc_b48 <| ml_iload_n dX11_piling_172 1 rfl <| ml_imul dX11_piling_173 <| ml_iload dX11_piling_174 3 rfl <| ml_iadd dX11_piling_176 <| ml_iload dX11_piling_177 4 rfl <| ml_ck_of h fun hi2145 h => ml_iast dX11_piling_179 hi2145 <| ml_lt (m := m) rfl h fun m2146 em2147 h => ml_iload_n dX11_piling_180 2 rfl <| ml_iconst dX11_piling_181 kc_i1 <| ml_iload dX11_piling_182 4 rfl <| ml_ishl dX11_piling_184 <| ml_ior dX11_piling_185 <| ml_lx (mk := ml_i) h fun x2148 h => ml_istore_n (lv' := [(3, ml_i x2148), (0, ml_r l0), (1, ml_i l1), (4, ml_i l4), (5, ml_i l5)]) dX11_piling_186 (ml_hn hL rfl) rfl <| ml_iinc (lv' := [(4, ml_i (l4 + (1 : Int32))), (3, ml_i x2148), (0, ml_r l0), (1, ml_i l1), (5, ml_i l5)]) dX11_piling_187 3 rfl (congrArg (l4 + ·) kc_i1) (ml_hn hL rfl) rfl <| ml_goto dX11_piling_190 <| ml_V.sub [2, 3, 1, 0] rfl (hk124 _ _ _ _ _ h)
def fX11_piling_136 (k124 : Nat → Int32 → Int32 → Int32 → ml_M → Option (Int32 × ml_M)) : Nat → Nat → Int32 → Int32 → Int32 → Int32 → ml_M → Option (Int32 × ml_M)
  | 0, _, _, _, _, _, _ => none
  | fu + 1, l0, l1, l3, l4, l5, m =>
    if (ml_K m l0).1 = 11 then
    ml_b1 (fX11_canCome l0 l5 l3 m) fun r2151 =>
    if r2151 = 0 then
    fX11_piling_160 k124 (fX11_piling_136 k124 fu) l0 l1 l3 l4 l5 m
    else
    ml_let (ml_R m l0 26) fun a2152 =>
    if ml_in m a2152 20 (l3 ||| ((1 : Int32) <<< (l5 &&& 31))) then
    if (ml_I m a2152 (l3 ||| ((1 : Int32) <<< (l5 &&& 31))).toNatClampNeg) = 0 then
    fX11_piling_160 k124 (fX11_piling_136 k124 fu) l0 l1 l3 l4 l5 m
    else
    fX11_piling_166 k124 l0 l1 l3 l4 l5 m
    else none
    else none
theorem vX11_piling_136 {E : ml_E} (hL : ml_eL E = 6) {rv : Int32} {rm : ml_M} (hr : ∀ (pc pc' : Nat) (lv : List (Nat × ml_X)), ml_d cX11_piling pc .ireturn 1 pc' → True → ml_V E "LostRoomModel" cX11_piling 4 false rm pc lv [ml_i rv]) {k124 : Nat → Int32 → Int32 → Int32 → ml_M → Option (Int32 × ml_M)} (hk124 : ∀ (l0 : Nat) (l1 : Int32) (l3 : Int32) (l4 : Int32) (m : ml_M), k124 l0 l1 l3 l4 m = some (rv, rm) → ml_V E "LostRoomModel" cX11_piling 4 false m 124 [(0, ml_r l0), (1, ml_i l1), (3, ml_i l3), (4, ml_i l4)] []) : ∀ (fu : Nat) (l0 : Nat) (l1 : Int32) (l3 : Int32) (l4 : Int32) (l5 : Int32) (m : ml_M), fX11_piling_136 k124 fu l0 l1 l3 l4 l5 m = some (rv, rm) → ml_V E "LostRoomModel" cX11_piling 4 false m 136 [(0, ml_r l0), (1, ml_i l1), (3, ml_i l3), (4, ml_i l4), (5, ml_i l5)] [] := by
  intro fu
  induction fu with
  | zero => intro l0 l1 l3 l4 l5 m h; exact ml_none h
  | succ fu ih =>
    intro l0 l1 l3 l4 l5 m h
    have hk136 := ih
    unfold fX11_piling_136 at h
    exact ml_aload_n dX11_piling_136 0 rfl <| ml_iload dX11_piling_137 4 rfl <| ml_iload_n dX11_piling_139 2 rfl <| ml_ck_of h fun hc2150 h => ml_b1_of h fun r2151 hv2149 h => ml_callV dX11_piling_140 wm_521 wb_310 hc2150 (sX11_canCome hv2149) rfl (Nat.le_of_ble_eq_true rfl) (Nat.le_of_ble_eq_true rfl) rfl <| ml_if_eq dX11_piling_143 h (fun _ h => ml_V.sub [0, 1, 2, 3, 4] rfl (vX11_piling_160 hL hr hk124 hk136 _ _ _ _ _ _ h)) (fun _ h => ml_aload_n dX11_piling_146 0 rfl <| ml_getR dX11_piling_147 wb_309 hc2150 <| ml_lx (mk := ml_r) h fun a2152 h => ml_iload_n dX11_piling_150 2 rfl <| ml_iconst dX11_piling_151 kc_i1 <| ml_iload dX11_piling_152 4 rfl <| ml_ishl dX11_piling_154 <| ml_ior dX11_piling_155 <| ml_ck_of h fun hi2153 h => ml_iald dX11_piling_156 hi2153 <| ml_if_ne dX11_piling_157 h (fun _ h => ml_V.sub [0, 1, 2, 3, 4] rfl (vX11_piling_166 hL hr hk124 _ _ _ _ _ _ h)) (fun _ h => ml_V.sub [0, 1, 2, 3, 4] rfl (vX11_piling_160 hL hr hk124 hk136 _ _ _ _ _ _ h)))
def fX11_piling_193 (l0 : Nat) (m : ml_M) : Option (Int32 × ml_M) :=
    if (ml_K m l0).1 = 11 then
    ml_let (ml_R m l0 26) fun a2155 =>
    if ml_in m a2155 20 (0 : Int32) then
    some ((ml_I m a2155 (0 : Int32).toNatClampNeg), m)
    else none
    else none
theorem vX11_piling_193 {E : ml_E} (hL : ml_eL E = 6) {rv : Int32} {rm : ml_M} (hr : ∀ (pc pc' : Nat) (lv : List (Nat × ml_X)), ml_d cX11_piling pc .ireturn 1 pc' → True → ml_V E "LostRoomModel" cX11_piling 4 false rm pc lv [ml_i rv]) : ∀ (l0 : Nat) (m : ml_M), fX11_piling_193 l0 m = some (rv, rm) → ml_V E "LostRoomModel" cX11_piling 4 false m 193 [(0, ml_r l0)] [] := by
  intro l0 m h
  unfold fX11_piling_193 at h
  exact ml_aload_n dX11_piling_193 0 rfl <| ml_ck_of h fun hc2154 h => ml_getR dX11_piling_194 wb_309 hc2154 <| ml_lx (mk := ml_r) h fun a2155 h => ml_iconst dX11_piling_197 kc_i0 <| ml_ck_of h fun hi2156 h => ml_iald dX11_piling_198 hi2156 <| ml_rI (mk := ml_i) hr dX11_piling_199 (fun _ => trivial) h
def fX11_piling_124 : Nat → Nat → Int32 → Int32 → Int32 → ml_M → Option (Int32 × ml_M)
  | 0, _, _, _, _, _ => none
  | fu + 1, l0, l1, l3, l4, m =>
    if (ml_K m l0).1 = 11 then
    if (ml_I m l0 10) ≤ l4 then
    fX11_piling_193 l0 m
    else
    fX11_piling_136 (fX11_piling_124 fu) ml_fu l0 l1 l3 l4 (0 : Int32) m
    else none
theorem vX11_piling_124 {E : ml_E} (hL : ml_eL E = 6) {rv : Int32} {rm : ml_M} (hr : ∀ (pc pc' : Nat) (lv : List (Nat × ml_X)), ml_d cX11_piling pc .ireturn 1 pc' → True → ml_V E "LostRoomModel" cX11_piling 4 false rm pc lv [ml_i rv]) : ∀ (fu : Nat) (l0 : Nat) (l1 : Int32) (l3 : Int32) (l4 : Int32) (m : ml_M), fX11_piling_124 fu l0 l1 l3 l4 m = some (rv, rm) → ml_V E "LostRoomModel" cX11_piling 4 false m 124 [(0, ml_r l0), (1, ml_i l1), (3, ml_i l3), (4, ml_i l4)] [] := by
  intro fu
  induction fu with
  | zero => intro l0 l1 l3 l4 m h; exact ml_none h
  | succ fu ih =>
    intro l0 l1 l3 l4 m h
    have hk124 := ih
    unfold fX11_piling_124 at h
    exact ml_iload dX11_piling_124 3 rfl <| ml_aload_n dX11_piling_126 0 rfl <| ml_ck_of h fun hc2157 h => ml_getI dX11_piling_127 wb_196 hc2157 <| ml_icmp_ge dX11_piling_130 h (fun _ h => ml_V.sub [0] rfl (vX11_piling_193 hL hr  _ _ h)) (fun _ h => ml_iconst dX11_piling_133 kc_i0 <| ml_istore (lv' := [(5, ml_i (0 : Int32)), (0, ml_r l0), (1, ml_i l1), (3, ml_i l3), (4, ml_i l4)]) dX11_piling_134 (ml_hn hL rfl) rfl <| ml_V.sub [1, 2, 3, 4, 0] rfl (vX11_piling_136 hL hr hk124 ml_fu _ _ _ _ _ _ h))
def fX11_piling_98 (l0 : Nat) (l1 : Int32) (m : ml_M) : Option (Int32 × ml_M) :=
    if (ml_K m l0).1 = 11 then
    ml_let (ml_R m l0 26) fun a2159 =>
    if ml_in m a2159 20 (0 : Int32) then
    if (ml_I m a2159 (0 : Int32).toNatClampNeg) = 0 then
    some ((-9 : Int32), m)
    else
    ml_b1 (fX11_clear l0 l1 (ml_I m l0 10) m) fun m2162 =>
    fX11_piling_124 ml_fu l0 l1 (0 : Int32) (0 : Int32) m2162
    else none
    else none
theorem vX11_piling_98 {E : ml_E} (hL : ml_eL E = 6) {rv : Int32} {rm : ml_M} (hr : ∀ (pc pc' : Nat) (lv : List (Nat × ml_X)), ml_d cX11_piling pc .ireturn 1 pc' → True → ml_V E "LostRoomModel" cX11_piling 4 false rm pc lv [ml_i rv]) : ∀ (l0 : Nat) (l1 : Int32) (m : ml_M), fX11_piling_98 l0 l1 m = some (rv, rm) → ml_V E "LostRoomModel" cX11_piling 4 false m 98 [(0, ml_r l0), (1, ml_i l1)] [] := by
  intro l0 l1 m h
  unfold fX11_piling_98 at h
  exact ml_aload_n dX11_piling_98 0 rfl <| ml_ck_of h fun hc2158 h => ml_getR dX11_piling_99 wb_309 hc2158 <| ml_lx (mk := ml_r) h fun a2159 h => ml_iconst dX11_piling_102 kc_i0 <| ml_ck_of h fun hi2160 h => ml_iald dX11_piling_103 hi2160 <| ml_if_ne dX11_piling_104 h (fun _ h => ml_iconst dX11_piling_110 kc_i0 <| ml_istore_n (lv' := [(3, ml_i (0 : Int32)), (0, ml_r l0), (1, ml_i l1)]) dX11_piling_111 (ml_hn hL rfl) rfl <| ml_aload_n dX11_piling_112 1 rfl <| ml_iload_n dX11_piling_113 2 rfl <| ml_aload_n dX11_piling_114 1 rfl <| ml_getI dX11_piling_115 wb_196 hc2158 <| ml_b1_of h fun m2162 hv2161 h => ml_callV dX11_piling_118 wm_525 wb_311 hc2158 (sX11_clear hv2161) rfl (Nat.le_of_ble_eq_true rfl) (Nat.le_of_ble_eq_true rfl) rfl <| ml_iconst dX11_piling_121 kc_i0 <| ml_istore (lv' := [(4, ml_i (0 : Int32)), (3, ml_i (0 : Int32)), (0, ml_r l0), (1, ml_i l1)]) dX11_piling_122 (ml_hn hL rfl) rfl <| ml_V.sub [2, 3, 1, 0] rfl (vX11_piling_124 hL hr  ml_fu _ _ _ _ _ h)) (fun _ h => ml_bipush dX11_piling_107 kc_bm9 <| ml_rI (mk := ml_i) hr dX11_piling_109 (fun _ => trivial) h)
def fX11_piling_20 : Nat → Nat → Int32 → Int32 → Int32 → ml_M → Option (Int32 × ml_M)
  | 0, _, _, _, _, _ => none
  | fu + 1, l0, l1, l2, l3, m =>
    if l3 < 0 then
    fX11_piling_98 l0 l1 m
    else
    if (ml_K m l0).1 = 11 then
    ml_let (ml_R m l0 26) fun a2164 =>
    if l3 = l2 then
    fX11_piling_39 (fX11_piling_20 fu) l0 l1 l2 l3 (1 : Int32) l3 a2164 m
    else
    fX11_piling_39 (fX11_piling_20 fu) l0 l1 l2 l3 (0 : Int32) l3 a2164 m
    else none
theorem vX11_piling_20 {E : ml_E} (hL : ml_eL E = 6) {rv : Int32} {rm : ml_M} (hr : ∀ (pc pc' : Nat) (lv : List (Nat × ml_X)), ml_d cX11_piling pc .ireturn 1 pc' → True → ml_V E "LostRoomModel" cX11_piling 4 false rm pc lv [ml_i rv]) : ∀ (fu : Nat) (l0 : Nat) (l1 : Int32) (l2 : Int32) (l3 : Int32) (m : ml_M), fX11_piling_20 fu l0 l1 l2 l3 m = some (rv, rm) → ml_V E "LostRoomModel" cX11_piling 4 false m 20 [(0, ml_r l0), (1, ml_i l1), (2, ml_i l2), (3, ml_i l3)] [] := by
  intro fu
  induction fu with
  | zero => intro l0 l1 l2 l3 m h; exact ml_none h
  | succ fu ih =>
    intro l0 l1 l2 l3 m h
    have hk20 := ih
    unfold fX11_piling_20 at h
    exact ml_iload_n dX11_piling_20 3 rfl <| ml_if_lt dX11_piling_21 h (fun _ h => ml_V.sub [0, 1] rfl (vX11_piling_98 hL hr  _ _ _ h)) (fun _ h => ml_aload_n dX11_piling_24 0 rfl <| ml_ck_of h fun hc2163 h => ml_getR dX11_piling_25 wb_309 hc2163 <| ml_lx (mk := ml_r) h fun a2164 h => ml_iload_n dX11_piling_28 3 rfl <| ml_iload_n dX11_piling_29 3 rfl <| ml_iload_n dX11_piling_30 2 rfl <| ml_icmp_ne dX11_piling_31 h (fun _ h => ml_iconst dX11_piling_38 kc_i0 <| ml_V.sub [0, 1, 2, 3] rfl (vX11_piling_39 hL hr hk20 _ _ _ _ _ _ _ _ h)) (fun _ h => ml_iconst dX11_piling_34 kc_i1 <| ml_goto dX11_piling_35 <| ml_V.sub [0, 1, 2, 3] rfl (vX11_piling_39 hL hr hk20 _ _ _ _ _ _ _ _ h)))
def fX11_piling (l0 : Nat) (l1 : Int32) (m : ml_M) : Option (Int32 × ml_M) :=
    ml_b1 (fX11_isRow l1 m) fun r2166 =>
    if r2166 = 0 then
    some ((-1 : Int32), m)
    else
    if (ml_K m l0).1 = 11 then
    ml_let (((1 : Int32) <<< ((ml_I m l0 10) &&& 31)) - (1 : Int32)) fun x2168 =>
    fX11_piling_20 ml_fu l0 l1 x2168 x2168 m
    else none
theorem wX11_piling_0 {E : ml_E} (hL : ml_eL E = 6) {rv : Int32} {rm : ml_M} (hr : ∀ (pc pc' : Nat) (lv : List (Nat × ml_X)), ml_d cX11_piling pc .ireturn 1 pc' → True → ml_V E "LostRoomModel" cX11_piling 4 false rm pc lv [ml_i rv]) : ∀ (l0 : Nat) (l1 : Int32) (m : ml_M), fX11_piling l0 l1 m = some (rv, rm) → ml_V E "LostRoomModel" cX11_piling 4 false m 0 [(0, ml_r l0), (1, ml_i l1)] [] := by
  intro l0 l1 m h
  unfold fX11_piling at h
  exact ml_iload_n dX11_piling_0 1 rfl <| ml_b1_of h fun r2166 hv2165 h => ml_callS dX11_piling_1 wm_140 wb_104 (sX11_isRow hv2165) rfl (Nat.le_of_ble_eq_true rfl) (Nat.le_of_ble_eq_true rfl) rfl <| ml_if_ne dX11_piling_4 h (fun _ h => ml_iconst dX11_piling_9 kc_i1 <| ml_aload_n dX11_piling_10 0 rfl <| ml_ck_of h fun hc2167 h => ml_getI dX11_piling_11 wb_196 hc2167 <| ml_ishl dX11_piling_14 <| ml_iconst dX11_piling_15 kc_i1 <| ml_isub dX11_piling_16 <| ml_lx (mk := ml_i) h fun x2168 h => ml_istore_n (lv' := [(2, ml_i x2168), (0, ml_r l0), (1, ml_i l1)]) dX11_piling_17 (ml_hn hL rfl) rfl <| ml_iload_n dX11_piling_18 0 rfl <| ml_istore_n (lv' := [(3, ml_i x2168), (2, ml_i x2168), (0, ml_r l0), (1, ml_i l1)]) dX11_piling_19 (ml_hn hL rfl) rfl <| ml_V.sub [2, 3, 1, 0] rfl (vX11_piling_20 hL hr  ml_fu _ _ _ _ _ h)) (fun _ h => ml_iconst dX11_piling_7 kc_im1 <| ml_rI (mk := ml_i) hr dX11_piling_8 (fun _ => trivial) h)
theorem sX11_piling {l0 : Nat} {l1 : Int32} {m : ml_M} {rv : Int32} {rm : ml_M} (h : fX11_piling l0 l1 m = some (rv, rm)) : ml_Sn yX11_piling cX11_piling 6 (some .int) 4 [ml_r l0, ml_i l1] m (some (ml_i rv)) rm :=
  ml_Sn_of (P := True) (ini := false) (by decide +kernel) (Nat.le_of_ble_eq_true rfl) (fun h => by cases h) (fun _ => ml_RkI rv) fun E hL hr => wX11_piling_0 hL hr _ _ _ h
theorem dX7_compareYears_0 : ml_d cX7_compareYears 0 (.iconst 0) 1 1 := ⟨by decide +kernel, rfl⟩
theorem dX7_compareYears_1 : ml_d cX7_compareYears 1 (.istore_n 2) 1 2 := ⟨by decide +kernel, rfl⟩
theorem dX7_compareYears_2 : ml_d cX7_compareYears 2 (.iload_n 2) 1 3 := ⟨by decide +kernel, rfl⟩
theorem dX7_compareYears_3 : ml_d cX7_compareYears 3 (.aload_n 0) 1 4 := ⟨by decide +kernel, rfl⟩
theorem dX7_compareYears_4 : ml_d cX7_compareYears 4 (.getfield 56) 3 7 := ⟨by decide +kernel, rfl⟩
theorem dX7_compareYears_7 : ml_j cX7_compareYears 7 (.if_icmp .ge) 100 10 := ⟨93, by decide +kernel, by decide, rfl⟩
theorem dX7_compareYears_10 : ml_d cX7_compareYears 10 (.aload_n 0) 1 11 := ⟨by decide +kernel, rfl⟩
theorem dX7_compareYears_11 : ml_d cX7_compareYears 11 (.getfield 32) 3 14 := ⟨by decide +kernel, rfl⟩
theorem dX7_compareYears_14 : ml_d cX7_compareYears 14 (.iload_n 2) 1 15 := ⟨by decide +kernel, rfl⟩
theorem dX7_compareYears_15 : ml_d cX7_compareYears 15 (.iconst 0) 1 16 := ⟨by decide +kernel, rfl⟩
theorem dX7_compareYears_16 : ml_d cX7_compareYears 16 (.iastore) 1 17 := ⟨by decide +kernel, rfl⟩
theorem dX7_compareYears_17 : ml_d cX7_compareYears 17 (.aload_n 0) 1 18 := ⟨by decide +kernel, rfl⟩
theorem dX7_compareYears_18 : ml_d cX7_compareYears 18 (.getfield 35) 3 21 := ⟨by decide +kernel, rfl⟩
theorem dX7_compareYears_21 : ml_d cX7_compareYears 21 (.iload_n 2) 1 22 := ⟨by decide +kernel, rfl⟩
theorem dX7_compareYears_22 : ml_d cX7_compareYears 22 (.iconst 0) 1 23 := ⟨by decide +kernel, rfl⟩
theorem dX7_compareYears_23 : ml_d cX7_compareYears 23 (.iastore) 1 24 := ⟨by decide +kernel, rfl⟩
theorem dX7_compareYears_24 : ml_d cX7_compareYears 24 (.iconst 0) 1 25 := ⟨by decide +kernel, rfl⟩
theorem dX7_compareYears_25 : ml_d cX7_compareYears 25 (.istore_n 3) 1 26 := ⟨by decide +kernel, rfl⟩
theorem dX7_compareYears_26 : ml_d cX7_compareYears 26 (.iload_n 3) 1 27 := ⟨by decide +kernel, rfl⟩
theorem dX7_compareYears_27 : ml_d cX7_compareYears 27 (.aload_n 0) 1 28 := ⟨by decide +kernel, rfl⟩
theorem dX7_compareYears_28 : ml_d cX7_compareYears 28 (.getfield 56) 3 31 := ⟨by decide +kernel, rfl⟩
theorem dX7_compareYears_31 : ml_j cX7_compareYears 31 (.if_icmp .ge) 94 34 := ⟨63, by decide +kernel, by decide, rfl⟩
theorem dX7_compareYears_34 : ml_d cX7_compareYears 34 (.aload_n 1) 1 35 := ⟨by decide +kernel, rfl⟩
theorem dX7_compareYears_35 : ml_d cX7_compareYears 35 (.iload_n 3) 1 36 := ⟨by decide +kernel, rfl⟩
theorem dX7_compareYears_36 : ml_d cX7_compareYears 36 (.aaload) 1 37 := ⟨by decide +kernel, rfl⟩
theorem dX7_compareYears_37 : ml_d cX7_compareYears 37 (.getfield 115) 3 40 := ⟨by decide +kernel, rfl⟩
theorem dX7_compareYears_40 : ml_d cX7_compareYears 40 (.aload_n 1) 1 41 := ⟨by decide +kernel, rfl⟩
theorem dX7_compareYears_41 : ml_d cX7_compareYears 41 (.iload_n 2) 1 42 := ⟨by decide +kernel, rfl⟩
theorem dX7_compareYears_42 : ml_d cX7_compareYears 42 (.aaload) 1 43 := ⟨by decide +kernel, rfl⟩
theorem dX7_compareYears_43 : ml_d cX7_compareYears 43 (.getfield 115) 3 46 := ⟨by decide +kernel, rfl⟩
theorem dX7_compareYears_46 : ml_j cX7_compareYears 46 (.if_icmp .lt) 61 49 := ⟨15, by decide +kernel, by decide, rfl⟩
theorem dX7_compareYears_49 : ml_d cX7_compareYears 49 (.aload_n 0) 1 50 := ⟨by decide +kernel, rfl⟩
theorem dX7_compareYears_50 : ml_d cX7_compareYears 50 (.getfield 32) 3 53 := ⟨by decide +kernel, rfl⟩
theorem dX7_compareYears_53 : ml_d cX7_compareYears 53 (.iload_n 2) 1 54 := ⟨by decide +kernel, rfl⟩
theorem dX7_compareYears_54 : ml_d cX7_compareYears 54 (.dup2) 1 55 := ⟨by decide +kernel, rfl⟩
theorem dX7_compareYears_55 : ml_d cX7_compareYears 55 (.iaload) 1 56 := ⟨by decide +kernel, rfl⟩
theorem dX7_compareYears_56 : ml_d cX7_compareYears 56 (.iconst 1) 1 57 := ⟨by decide +kernel, rfl⟩
theorem dX7_compareYears_57 : ml_d cX7_compareYears 57 (.iload_n 3) 1 58 := ⟨by decide +kernel, rfl⟩
theorem dX7_compareYears_58 : ml_d cX7_compareYears 58 (.ishl) 1 59 := ⟨by decide +kernel, rfl⟩
theorem dX7_compareYears_59 : ml_d cX7_compareYears 59 (.ior) 1 60 := ⟨by decide +kernel, rfl⟩
theorem dX7_compareYears_60 : ml_d cX7_compareYears 60 (.iastore) 1 61 := ⟨by decide +kernel, rfl⟩
theorem dX7_compareYears_61 : ml_d cX7_compareYears 61 (.aload_n 1) 1 62 := ⟨by decide +kernel, rfl⟩
theorem dX7_compareYears_62 : ml_d cX7_compareYears 62 (.iload_n 3) 1 63 := ⟨by decide +kernel, rfl⟩
theorem dX7_compareYears_63 : ml_d cX7_compareYears 63 (.aaload) 1 64 := ⟨by decide +kernel, rfl⟩
theorem dX7_compareYears_64 : ml_d cX7_compareYears 64 (.getfield 115) 3 67 := ⟨by decide +kernel, rfl⟩
theorem dX7_compareYears_67 : ml_d cX7_compareYears 67 (.aload_n 1) 1 68 := ⟨by decide +kernel, rfl⟩
theorem dX7_compareYears_68 : ml_d cX7_compareYears 68 (.iload_n 2) 1 69 := ⟨by decide +kernel, rfl⟩
theorem dX7_compareYears_69 : ml_d cX7_compareYears 69 (.aaload) 1 70 := ⟨by decide +kernel, rfl⟩
theorem dX7_compareYears_70 : ml_d cX7_compareYears 70 (.getfield 115) 3 73 := ⟨by decide +kernel, rfl⟩
theorem dX7_compareYears_73 : ml_j cX7_compareYears 73 (.if_icmp .gt) 88 76 := ⟨15, by decide +kernel, by decide, rfl⟩
theorem dX7_compareYears_76 : ml_d cX7_compareYears 76 (.aload_n 0) 1 77 := ⟨by decide +kernel, rfl⟩
theorem dX7_compareYears_77 : ml_d cX7_compareYears 77 (.getfield 35) 3 80 := ⟨by decide +kernel, rfl⟩
theorem dX7_compareYears_80 : ml_d cX7_compareYears 80 (.iload_n 2) 1 81 := ⟨by decide +kernel, rfl⟩
theorem dX7_compareYears_81 : ml_d cX7_compareYears 81 (.dup2) 1 82 := ⟨by decide +kernel, rfl⟩
theorem dX7_compareYears_82 : ml_d cX7_compareYears 82 (.iaload) 1 83 := ⟨by decide +kernel, rfl⟩
theorem dX7_compareYears_83 : ml_d cX7_compareYears 83 (.iconst 1) 1 84 := ⟨by decide +kernel, rfl⟩
theorem dX7_compareYears_84 : ml_d cX7_compareYears 84 (.iload_n 3) 1 85 := ⟨by decide +kernel, rfl⟩
theorem dX7_compareYears_85 : ml_d cX7_compareYears 85 (.ishl) 1 86 := ⟨by decide +kernel, rfl⟩
theorem dX7_compareYears_86 : ml_d cX7_compareYears 86 (.ior) 1 87 := ⟨by decide +kernel, rfl⟩
theorem dX7_compareYears_87 : ml_d cX7_compareYears 87 (.iastore) 1 88 := ⟨by decide +kernel, rfl⟩
theorem dX7_compareYears_88 : ml_d cX7_compareYears 88 (.iinc 3 1) 3 91 := ⟨by decide +kernel, rfl⟩
theorem dX7_compareYears_91 : ml_j cX7_compareYears 91 .goto 26 94 := ⟨(-65), by decide +kernel, by decide, rfl⟩
theorem dX7_compareYears_94 : ml_d cX7_compareYears 94 (.iinc 2 1) 3 97 := ⟨by decide +kernel, rfl⟩
theorem dX7_compareYears_97 : ml_j cX7_compareYears 97 .goto 2 100 := ⟨(-95), by decide +kernel, by decide, rfl⟩
theorem dX7_compareYears_100 : ml_d cX7_compareYears 100 (.return_) 1 101 := ⟨by decide +kernel, rfl⟩
def fX7_compareYears_88 (k2 : Nat → Nat → Int32 → ml_M → Option ml_M) (k26 : Nat → Nat → Int32 → Int32 → ml_M → Option ml_M) (l0 : Nat) (l1 : Nat) (l2 : Int32) (l3 : Int32) (m : ml_M) : Option ml_M :=
    k26 l0 l1 l2 (l3 + (1 : Int32)) m
theorem vX7_compareYears_88 {E : ml_E} (hL : ml_eL E = 4) {rm : ml_M} (hr : ∀ (pc pc' : Nat) (lv : List (Nat × ml_X)), ml_d cX7_compareYears pc .return_ 1 pc' → True → ml_V E "LostRoom$Sharings" cX7_compareYears 2 false rm pc lv []) {k2 : Nat → Nat → Int32 → ml_M → Option ml_M} (hk2 : ∀ (l0 : Nat) (l1 : Nat) (l2 : Int32) (m : ml_M), k2 l0 l1 l2 m = some rm → ml_V E "LostRoom$Sharings" cX7_compareYears 2 false m 2 [(0, ml_r l0), (1, ml_r l1), (2, ml_i l2)] []) {k26 : Nat → Nat → Int32 → Int32 → ml_M → Option ml_M} (hk26 : ∀ (l0 : Nat) (l1 : Nat) (l2 : Int32) (l3 : Int32) (m : ml_M), k26 l0 l1 l2 l3 m = some rm → ml_V E "LostRoom$Sharings" cX7_compareYears 2 false m 26 [(0, ml_r l0), (1, ml_r l1), (2, ml_i l2), (3, ml_i l3)] []) : ∀ (l0 : Nat) (l1 : Nat) (l2 : Int32) (l3 : Int32) (m : ml_M), fX7_compareYears_88 k2 k26 l0 l1 l2 l3 m = some rm → ml_V E "LostRoom$Sharings" cX7_compareYears 2 false m 88 [(0, ml_r l0), (1, ml_r l1), (2, ml_i l2), (3, ml_i l3)] [] := by
  intro l0 l1 l2 l3 m h
  unfold fX7_compareYears_88 at h
  exact ml_iinc (lv' := [(3, ml_i (l3 + (1 : Int32))), (0, ml_r l0), (1, ml_r l1), (2, ml_i l2)]) dX7_compareYears_88 3 rfl (congrArg (l3 + ·) kc_i1) (ml_hn hL rfl) rfl <| ml_goto dX7_compareYears_91 <| ml_V.sub [1, 2, 3, 0] rfl (hk26 _ _ _ _ _ h)
def fX7_compareYears_61 (k2 : Nat → Nat → Int32 → ml_M → Option ml_M) (k26 : Nat → Nat → Int32 → Int32 → ml_M → Option ml_M) (l0 : Nat) (l1 : Nat) (l2 : Int32) (l3 : Int32) (m : ml_M) : Option ml_M :=
    if ml_in m l1 28 l3 then
    ml_let (ml_R m l1 l3.toNatClampNeg) fun a2170 =>
    if (ml_K m a2170).1 = 6 then
    if ml_in m l1 28 l2 then
    ml_let (ml_R m l1 l2.toNatClampNeg) fun a2173 =>
    if (ml_K m a2173).1 = 6 then
    if (ml_I m a2173 1) < (ml_I m a2170 1) then
    fX7_compareYears_88 k2 k26 l0 l1 l2 l3 m
    else
    if (ml_K m l0).1 = 7 then
    ml_let (ml_R m l0 11) fun a2176 =>
    if ml_in m a2176 20 l2 then
    if ml_in m a2176 20 l2 then
    ml_let (ml_sI m a2176 l2.toNatClampNeg ((ml_I m a2176 l2.toNatClampNeg) ||| ((1 : Int32) <<< (l3 &&& 31)))) fun m2179 =>
    fX7_compareYears_88 k2 k26 l0 l1 l2 l3 m2179
    else none
    else none
    else none
    else none
    else none
    else none
    else none
theorem vX7_compareYears_61 {E : ml_E} (hL : ml_eL E = 4) {rm : ml_M} (hr : ∀ (pc pc' : Nat) (lv : List (Nat × ml_X)), ml_d cX7_compareYears pc .return_ 1 pc' → True → ml_V E "LostRoom$Sharings" cX7_compareYears 2 false rm pc lv []) {k2 : Nat → Nat → Int32 → ml_M → Option ml_M} (hk2 : ∀ (l0 : Nat) (l1 : Nat) (l2 : Int32) (m : ml_M), k2 l0 l1 l2 m = some rm → ml_V E "LostRoom$Sharings" cX7_compareYears 2 false m 2 [(0, ml_r l0), (1, ml_r l1), (2, ml_i l2)] []) {k26 : Nat → Nat → Int32 → Int32 → ml_M → Option ml_M} (hk26 : ∀ (l0 : Nat) (l1 : Nat) (l2 : Int32) (l3 : Int32) (m : ml_M), k26 l0 l1 l2 l3 m = some rm → ml_V E "LostRoom$Sharings" cX7_compareYears 2 false m 26 [(0, ml_r l0), (1, ml_r l1), (2, ml_i l2), (3, ml_i l3)] []) : ∀ (l0 : Nat) (l1 : Nat) (l2 : Int32) (l3 : Int32) (m : ml_M), fX7_compareYears_61 k2 k26 l0 l1 l2 l3 m = some rm → ml_V E "LostRoom$Sharings" cX7_compareYears 2 false m 61 [(0, ml_r l0), (1, ml_r l1), (2, ml_i l2), (3, ml_i l3)] [] := by
  intro l0 l1 l2 l3 m h
  unfold fX7_compareYears_61 at h
  exact ml_aload_n dX7_compareYears_61 1 rfl <| ml_iload_n dX7_compareYears_62 3 rfl <| ml_ck_of h fun hi2169 h => ml_aald (kd := 28) dX7_compareYears_63 (by decide) hi2169 <| ml_lx (mk := ml_r) h fun a2170 h => ml_ck_of h fun hc2171 h => ml_getI dX7_compareYears_64 wb_312 hc2171 <| ml_aload_n dX7_compareYears_67 1 rfl <| ml_iload_n dX7_compareYears_68 2 rfl <| ml_ck_of h fun hi2172 h => ml_aald (kd := 28) dX7_compareYears_69 (by decide) hi2172 <| ml_lx (mk := ml_r) h fun a2173 h => ml_ck_of h fun hc2174 h => ml_getI dX7_compareYears_70 wb_312 hc2174 <| ml_icmp_gt dX7_compareYears_73 h (fun _ h => ml_V.sub [0, 1, 2, 3] rfl (vX7_compareYears_88 hL hr hk2 hk26 _ _ _ _ _ h)) (fun _ h => ml_aload_n dX7_compareYears_76 0 rfl <| ml_ck_of h fun hc2175 h => ml_getR dX7_compareYears_77 wb_313 hc2175 <| ml_lx (mk := ml_r) h fun a2176 h => ml_iload_n dX7_compareYears_80 2 rfl <| ml_dup2 dX7_compareYears_81 rfl rfl <| ml_ck_of h fun hi2177 h => ml_iald dX7_compareYears_82 hi2177 <| ml_iconst dX7_compareYears_83 kc_i1 <| ml_iload_n dX7_compareYears_84 3 rfl <| ml_ishl dX7_compareYears_85 <| ml_ior dX7_compareYears_86 <| ml_ck_of h fun hi2178 h => ml_iast dX7_compareYears_87 hi2178 <| ml_lt (m := m) rfl h fun m2179 em2180 h => ml_V.sub [0, 1, 2, 3] rfl (vX7_compareYears_88 hL hr hk2 hk26 _ _ _ _ _ h))
def fX7_compareYears_94 (k2 : Nat → Nat → Int32 → ml_M → Option ml_M) (l0 : Nat) (l1 : Nat) (l2 : Int32) (m : ml_M) : Option ml_M :=
    k2 l0 l1 (l2 + (1 : Int32)) m
theorem vX7_compareYears_94 {E : ml_E} (hL : ml_eL E = 4) {rm : ml_M} (hr : ∀ (pc pc' : Nat) (lv : List (Nat × ml_X)), ml_d cX7_compareYears pc .return_ 1 pc' → True → ml_V E "LostRoom$Sharings" cX7_compareYears 2 false rm pc lv []) {k2 : Nat → Nat → Int32 → ml_M → Option ml_M} (hk2 : ∀ (l0 : Nat) (l1 : Nat) (l2 : Int32) (m : ml_M), k2 l0 l1 l2 m = some rm → ml_V E "LostRoom$Sharings" cX7_compareYears 2 false m 2 [(0, ml_r l0), (1, ml_r l1), (2, ml_i l2)] []) : ∀ (l0 : Nat) (l1 : Nat) (l2 : Int32) (m : ml_M), fX7_compareYears_94 k2 l0 l1 l2 m = some rm → ml_V E "LostRoom$Sharings" cX7_compareYears 2 false m 94 [(0, ml_r l0), (1, ml_r l1), (2, ml_i l2)] [] := by
  intro l0 l1 l2 m h
  unfold fX7_compareYears_94 at h
  exact ml_iinc (lv' := [(2, ml_i (l2 + (1 : Int32))), (0, ml_r l0), (1, ml_r l1)]) dX7_compareYears_94 2 rfl (congrArg (l2 + ·) kc_i1) (ml_hn hL rfl) rfl <| ml_goto dX7_compareYears_97 <| ml_V.sub [1, 2, 0] rfl (hk2 _ _ _ _ h)
def fX7_compareYears_26 (k2 : Nat → Nat → Int32 → ml_M → Option ml_M) : Nat → Nat → Nat → Int32 → Int32 → ml_M → Option ml_M
  | 0, _, _, _, _, _ => none
  | fu + 1, l0, l1, l2, l3, m =>
    if (ml_K m l0).1 = 7 then
    if (ml_I m l0 7) ≤ l3 then
    fX7_compareYears_94 k2 l0 l1 l2 m
    else
    if ml_in m l1 28 l3 then
    ml_let (ml_R m l1 l3.toNatClampNeg) fun a2183 =>
    if (ml_K m a2183).1 = 6 then
    if ml_in m l1 28 l2 then
    ml_let (ml_R m l1 l2.toNatClampNeg) fun a2186 =>
    if (ml_K m a2186).1 = 6 then
    if (ml_I m a2183 1) < (ml_I m a2186 1) then
    fX7_compareYears_61 k2 (fX7_compareYears_26 k2 fu) l0 l1 l2 l3 m
    else
    ml_let (ml_R m l0 10) fun a2188 =>
    if ml_in m a2188 20 l2 then
    if ml_in m a2188 20 l2 then
    ml_let (ml_sI m a2188 l2.toNatClampNeg ((ml_I m a2188 l2.toNatClampNeg) ||| ((1 : Int32) <<< (l3 &&& 31)))) fun m2191 =>
    fX7_compareYears_61 k2 (fX7_compareYears_26 k2 fu) l0 l1 l2 l3 m2191
    else none
    else none
    else none
    else none
    else none
    else none
    else none
theorem vX7_compareYears_26 {E : ml_E} (hL : ml_eL E = 4) {rm : ml_M} (hr : ∀ (pc pc' : Nat) (lv : List (Nat × ml_X)), ml_d cX7_compareYears pc .return_ 1 pc' → True → ml_V E "LostRoom$Sharings" cX7_compareYears 2 false rm pc lv []) {k2 : Nat → Nat → Int32 → ml_M → Option ml_M} (hk2 : ∀ (l0 : Nat) (l1 : Nat) (l2 : Int32) (m : ml_M), k2 l0 l1 l2 m = some rm → ml_V E "LostRoom$Sharings" cX7_compareYears 2 false m 2 [(0, ml_r l0), (1, ml_r l1), (2, ml_i l2)] []) : ∀ (fu : Nat) (l0 : Nat) (l1 : Nat) (l2 : Int32) (l3 : Int32) (m : ml_M), fX7_compareYears_26 k2 fu l0 l1 l2 l3 m = some rm → ml_V E "LostRoom$Sharings" cX7_compareYears 2 false m 26 [(0, ml_r l0), (1, ml_r l1), (2, ml_i l2), (3, ml_i l3)] [] := by
  intro fu
  induction fu with
  | zero => intro l0 l1 l2 l3 m h; exact ml_none h
  | succ fu ih =>
    intro l0 l1 l2 l3 m h
    have hk26 := ih
    unfold fX7_compareYears_26 at h
    exact ml_iload_n dX7_compareYears_26 3 rfl <| ml_aload_n dX7_compareYears_27 0 rfl <| ml_ck_of h fun hc2181 h => ml_getI dX7_compareYears_28 wb_314 hc2181 <| ml_icmp_ge dX7_compareYears_31 h (fun _ h => ml_V.sub [0, 1, 2] rfl (vX7_compareYears_94 hL hr hk2 _ _ _ _ h)) (fun _ h => ml_aload_n dX7_compareYears_34 1 rfl <| ml_iload_n dX7_compareYears_35 3 rfl <| ml_ck_of h fun hi2182 h => ml_aald (kd := 28) dX7_compareYears_36 (by decide) hi2182 <| ml_lx (mk := ml_r) h fun a2183 h => ml_ck_of h fun hc2184 h => ml_getI dX7_compareYears_37 wb_312 hc2184 <| ml_aload_n dX7_compareYears_40 1 rfl <| ml_iload_n dX7_compareYears_41 2 rfl <| ml_ck_of h fun hi2185 h => ml_aald (kd := 28) dX7_compareYears_42 (by decide) hi2185 <| ml_lx (mk := ml_r) h fun a2186 h => ml_ck_of h fun hc2187 h => ml_getI dX7_compareYears_43 wb_312 hc2187 <| ml_icmp_lt dX7_compareYears_46 h (fun _ h => ml_V.sub [0, 1, 2, 3] rfl (vX7_compareYears_61 hL hr hk2 hk26 _ _ _ _ _ h)) (fun _ h => ml_aload_n dX7_compareYears_49 0 rfl <| ml_getR dX7_compareYears_50 wb_315 hc2181 <| ml_lx (mk := ml_r) h fun a2188 h => ml_iload_n dX7_compareYears_53 2 rfl <| ml_dup2 dX7_compareYears_54 rfl rfl <| ml_ck_of h fun hi2189 h => ml_iald dX7_compareYears_55 hi2189 <| ml_iconst dX7_compareYears_56 kc_i1 <| ml_iload_n dX7_compareYears_57 3 rfl <| ml_ishl dX7_compareYears_58 <| ml_ior dX7_compareYears_59 <| ml_ck_of h fun hi2190 h => ml_iast dX7_compareYears_60 hi2190 <| ml_lt (m := m) rfl h fun m2191 em2192 h => ml_V.sub [0, 1, 2, 3] rfl (vX7_compareYears_61 hL hr hk2 hk26 _ _ _ _ _ h)))
def fX7_compareYears_2 : Nat → Nat → Nat → Int32 → ml_M → Option ml_M
  | 0, _, _, _, _ => none
  | fu + 1, l0, l1, l2, m =>
    if (ml_K m l0).1 = 7 then
    if (ml_I m l0 7) ≤ l2 then
    some m
    else
    ml_let (ml_R m l0 10) fun a2194 =>
    if ml_in m a2194 20 l2 then
    ml_let (ml_sI m a2194 l2.toNatClampNeg (0 : Int32)) fun m2196 =>
    ml_let (ml_R m2196 l0 11) fun a2198 =>
    if ml_in m2196 a2198 20 l2 then
    ml_let (ml_sI m2196 a2198 l2.toNatClampNeg (0 : Int32)) fun m2200 =>
    fX7_compareYears_26 (fX7_compareYears_2 fu) ml_fu l0 l1 l2 (0 : Int32) m2200
    else none
    else none
    else none
theorem vX7_compareYears_2 {E : ml_E} (hL : ml_eL E = 4) {rm : ml_M} (hr : ∀ (pc pc' : Nat) (lv : List (Nat × ml_X)), ml_d cX7_compareYears pc .return_ 1 pc' → True → ml_V E "LostRoom$Sharings" cX7_compareYears 2 false rm pc lv []) : ∀ (fu : Nat) (l0 : Nat) (l1 : Nat) (l2 : Int32) (m : ml_M), fX7_compareYears_2 fu l0 l1 l2 m = some rm → ml_V E "LostRoom$Sharings" cX7_compareYears 2 false m 2 [(0, ml_r l0), (1, ml_r l1), (2, ml_i l2)] [] := by
  intro fu
  induction fu with
  | zero => intro l0 l1 l2 m h; exact ml_none h
  | succ fu ih =>
    intro l0 l1 l2 m h
    have hk2 := ih
    unfold fX7_compareYears_2 at h
    exact ml_iload_n dX7_compareYears_2 2 rfl <| ml_aload_n dX7_compareYears_3 0 rfl <| ml_ck_of h fun hc2193 h => ml_getI dX7_compareYears_4 wb_314 hc2193 <| ml_icmp_ge dX7_compareYears_7 h (fun _ h => ml_rv hr dX7_compareYears_100 trivial h) (fun _ h => ml_aload_n dX7_compareYears_10 0 rfl <| ml_getR dX7_compareYears_11 wb_315 hc2193 <| ml_lx (mk := ml_r) h fun a2194 h => ml_iload_n dX7_compareYears_14 2 rfl <| ml_iconst dX7_compareYears_15 kc_i0 <| ml_ck_of h fun hi2195 h => ml_iast dX7_compareYears_16 hi2195 <| ml_lt (m := m) rfl h fun m2196 em2197 h => ml_aload_n dX7_compareYears_17 0 rfl <| ml_getR dX7_compareYears_18 wb_313 (ml_kk em2197 hc2193) <| ml_lx (mk := ml_r) h fun a2198 h => ml_iload_n dX7_compareYears_21 2 rfl <| ml_iconst dX7_compareYears_22 kc_i0 <| ml_ck_of h fun hi2199 h => ml_iast dX7_compareYears_23 hi2199 <| ml_lt (m := m2196) rfl h fun m2200 em2201 h => ml_iconst dX7_compareYears_24 kc_i0 <| ml_istore_n (lv' := [(3, ml_i (0 : Int32)), (0, ml_r l0), (1, ml_r l1), (2, ml_i l2)]) dX7_compareYears_25 (ml_hn hL rfl) rfl <| ml_V.sub [1, 2, 3, 0] rfl (vX7_compareYears_26 hL hr hk2 ml_fu _ _ _ _ _ h))
def fX7_compareYears (l0 : Nat) (l1 : Nat) (m : ml_M) : Option ml_M :=
    fX7_compareYears_2 ml_fu l0 l1 (0 : Int32) m
theorem wX7_compareYears_0 {E : ml_E} (hL : ml_eL E = 4) {rm : ml_M} (hr : ∀ (pc pc' : Nat) (lv : List (Nat × ml_X)), ml_d cX7_compareYears pc .return_ 1 pc' → True → ml_V E "LostRoom$Sharings" cX7_compareYears 2 false rm pc lv []) : ∀ (l0 : Nat) (l1 : Nat) (m : ml_M), fX7_compareYears l0 l1 m = some rm → ml_V E "LostRoom$Sharings" cX7_compareYears 2 false m 0 [(0, ml_r l0), (1, ml_r l1)] [] := by
  intro l0 l1 m h
  unfold fX7_compareYears at h
  exact ml_iconst dX7_compareYears_0 kc_i0 <| ml_istore_n (lv' := [(2, ml_i (0 : Int32)), (0, ml_r l0), (1, ml_r l1)]) dX7_compareYears_1 (ml_hn hL rfl) rfl <| ml_V.sub [1, 2, 0] rfl (vX7_compareYears_2 hL hr  ml_fu _ _ _ _ h)
theorem sX7_compareYears {l0 : Nat} {l1 : Nat} {m : ml_M} {rm : ml_M} (h : fX7_compareYears l0 l1 m = some rm) : ml_Sn yX7_compareYears cX7_compareYears 4 none 2 [ml_r l0, ml_r l1] m none rm :=
  ml_Sn_of (P := True) (ini := false) (by decide +kernel) (Nat.le_of_ble_eq_true rfl) (fun h => by cases h) (fun _ => ml_RkV) fun E hL hr => wX7_compareYears_0 hL hr _ _ _ h
theorem dX7_countStrangers_0 : ml_d cX7_countStrangers 0 (.aload_n 0) 1 1 := ⟨by decide +kernel, rfl⟩
theorem dX7_countStrangers_1 : ml_d cX7_countStrangers 1 (.getfield 25) 3 4 := ⟨by decide +kernel, rfl⟩
theorem dX7_countStrangers_4 : ml_d cX7_countStrangers 4 (.iconst 0) 1 5 := ⟨by decide +kernel, rfl⟩
theorem dX7_countStrangers_5 : ml_d cX7_countStrangers 5 (.invokestatic 75) 3 8 := ⟨by decide +kernel, rfl⟩
theorem dX7_countStrangers_8 : ml_d cX7_countStrangers 8 (.iconst 0) 1 9 := ⟨by decide +kernel, rfl⟩
theorem dX7_countStrangers_9 : ml_d cX7_countStrangers 9 (.istore_n 3) 1 10 := ⟨by decide +kernel, rfl⟩
theorem dX7_countStrangers_10 : ml_d cX7_countStrangers 10 (.iload_n 3) 1 11 := ⟨by decide +kernel, rfl⟩
theorem dX7_countStrangers_11 : ml_d cX7_countStrangers 11 (.iload_n 2) 1 12 := ⟨by decide +kernel, rfl⟩
theorem dX7_countStrangers_12 : ml_j cX7_countStrangers 12 (.if_icmp .ge) 90 15 := ⟨78, by decide +kernel, by decide, rfl⟩
theorem dX7_countStrangers_15 : ml_d cX7_countStrangers 15 (.aload_n 1) 1 16 := ⟨by decide +kernel, rfl⟩
theorem dX7_countStrangers_16 : ml_d cX7_countStrangers 16 (.iload_n 3) 1 17 := ⟨by decide +kernel, rfl⟩
theorem dX7_countStrangers_17 : ml_d cX7_countStrangers 17 (.aaload) 1 18 := ⟨by decide +kernel, rfl⟩
theorem dX7_countStrangers_18 : ml_d cX7_countStrangers 18 (.astore 4) 2 20 := ⟨by decide +kernel, rfl⟩
theorem dX7_countStrangers_20 : ml_d cX7_countStrangers 20 (.aload 4) 2 22 := ⟨by decide +kernel, rfl⟩
theorem dX7_countStrangers_22 : ml_d cX7_countStrangers 22 (.getfield 120) 3 25 := ⟨by decide +kernel, rfl⟩
theorem dX7_countStrangers_25 : ml_d cX7_countStrangers 25 (.bipush (-9)) 2 27 := ⟨by decide +kernel, rfl⟩
theorem dX7_countStrangers_27 : ml_j cX7_countStrangers 27 (.if_icmp .ne) 33 30 := ⟨6, by decide +kernel, by decide, rfl⟩
theorem dX7_countStrangers_30 : ml_j cX7_countStrangers 30 .goto 84 33 := ⟨54, by decide +kernel, by decide, rfl⟩
theorem dX7_countStrangers_33 : ml_d cX7_countStrangers 33 (.iconst 0) 1 34 := ⟨by decide +kernel, rfl⟩
theorem dX7_countStrangers_34 : ml_d cX7_countStrangers 34 (.istore 5) 2 36 := ⟨by decide +kernel, rfl⟩
theorem dX7_countStrangers_36 : ml_d cX7_countStrangers 36 (.iload 5) 2 38 := ⟨by decide +kernel, rfl⟩
theorem dX7_countStrangers_38 : ml_d cX7_countStrangers 38 (.aload_n 0) 1 39 := ⟨by decide +kernel, rfl⟩
theorem dX7_countStrangers_39 : ml_d cX7_countStrangers 39 (.getfield 56) 3 42 := ⟨by decide +kernel, rfl⟩
theorem dX7_countStrangers_42 : ml_j cX7_countStrangers 42 (.if_icmp .ge) 84 45 := ⟨42, by decide +kernel, by decide, rfl⟩
theorem dX7_countStrangers_45 : ml_d cX7_countStrangers 45 (.aload 4) 2 47 := ⟨by decide +kernel, rfl⟩
theorem dX7_countStrangers_47 : ml_d cX7_countStrangers 47 (.getfield 125) 3 50 := ⟨by decide +kernel, rfl⟩
theorem dX7_countStrangers_50 : ml_d cX7_countStrangers 50 (.iload 5) 2 52 := ⟨by decide +kernel, rfl⟩
theorem dX7_countStrangers_52 : ml_d cX7_countStrangers 52 (.invokestatic 93) 3 55 := ⟨by decide +kernel, rfl⟩
theorem dX7_countStrangers_55 : ml_j cX7_countStrangers 55 (.ifCond .ne) 78 58 := ⟨23, by decide +kernel, by decide, rfl⟩
theorem dX7_countStrangers_58 : ml_d cX7_countStrangers 58 (.aload_n 0) 1 59 := ⟨by decide +kernel, rfl⟩
theorem dX7_countStrangers_59 : ml_d cX7_countStrangers 59 (.getfield 25) 3 62 := ⟨by decide +kernel, rfl⟩
theorem dX7_countStrangers_62 : ml_d cX7_countStrangers 62 (.aload 4) 2 64 := ⟨by decide +kernel, rfl⟩
theorem dX7_countStrangers_64 : ml_d cX7_countStrangers 64 (.getfield 120) 3 67 := ⟨by decide +kernel, rfl⟩
theorem dX7_countStrangers_67 : ml_d cX7_countStrangers 67 (.bipush 8) 2 69 := ⟨by decide +kernel, rfl⟩
theorem dX7_countStrangers_69 : ml_d cX7_countStrangers 69 (.imul) 1 70 := ⟨by decide +kernel, rfl⟩
theorem dX7_countStrangers_70 : ml_d cX7_countStrangers 70 (.iload 5) 2 72 := ⟨by decide +kernel, rfl⟩
theorem dX7_countStrangers_72 : ml_d cX7_countStrangers 72 (.iadd) 1 73 := ⟨by decide +kernel, rfl⟩
theorem dX7_countStrangers_73 : ml_d cX7_countStrangers 73 (.dup2) 1 74 := ⟨by decide +kernel, rfl⟩
theorem dX7_countStrangers_74 : ml_d cX7_countStrangers 74 (.iaload) 1 75 := ⟨by decide +kernel, rfl⟩
theorem dX7_countStrangers_75 : ml_d cX7_countStrangers 75 (.iconst 1) 1 76 := ⟨by decide +kernel, rfl⟩
theorem dX7_countStrangers_76 : ml_d cX7_countStrangers 76 (.iadd) 1 77 := ⟨by decide +kernel, rfl⟩
theorem dX7_countStrangers_77 : ml_d cX7_countStrangers 77 (.iastore) 1 78 := ⟨by decide +kernel, rfl⟩
theorem dX7_countStrangers_78 : ml_d cX7_countStrangers 78 (.iinc 5 1) 3 81 := ⟨by decide +kernel, rfl⟩
theorem dX7_countStrangers_81 : ml_j cX7_countStrangers 81 .goto 36 84 := ⟨(-45), by decide +kernel, by decide, rfl⟩
theorem dX7_countStrangers_84 : ml_d cX7_countStrangers 84 (.iinc 3 1) 3 87 := ⟨by decide +kernel, rfl⟩
theorem dX7_countStrangers_87 : ml_j cX7_countStrangers 87 .goto 10 90 := ⟨(-77), by decide +kernel, by decide, rfl⟩
theorem dX7_countStrangers_90 : ml_d cX7_countStrangers 90 (.return_) 1 91 := ⟨by decide +kernel, rfl⟩
def fX7_countStrangers_78 (k10 : Nat → Nat → Int32 → Int32 → ml_M → Option ml_M) (k36 : Nat → Nat → Int32 → Int32 → Nat → Int32 → ml_M → Option ml_M) (l0 : Nat) (l1 : Nat) (l2 : Int32) (l3 : Int32) (l4 : Nat) (l5 : Int32) (m : ml_M) : Option ml_M :=
    k36 l0 l1 l2 l3 l4 (l5 + (1 : Int32)) m
theorem vX7_countStrangers_78 {E : ml_E} (hL : ml_eL E = 6) {rm : ml_M} (hr : ∀ (pc pc' : Nat) (lv : List (Nat × ml_X)), ml_d cX7_countStrangers pc .return_ 1 pc' → True → ml_V E "LostRoom$Sharings" cX7_countStrangers 3 false rm pc lv []) {k10 : Nat → Nat → Int32 → Int32 → ml_M → Option ml_M} (hk10 : ∀ (l0 : Nat) (l1 : Nat) (l2 : Int32) (l3 : Int32) (m : ml_M), k10 l0 l1 l2 l3 m = some rm → ml_V E "LostRoom$Sharings" cX7_countStrangers 3 false m 10 [(0, ml_r l0), (1, ml_r l1), (2, ml_i l2), (3, ml_i l3)] []) {k36 : Nat → Nat → Int32 → Int32 → Nat → Int32 → ml_M → Option ml_M} (hk36 : ∀ (l0 : Nat) (l1 : Nat) (l2 : Int32) (l3 : Int32) (l4 : Nat) (l5 : Int32) (m : ml_M), k36 l0 l1 l2 l3 l4 l5 m = some rm → ml_V E "LostRoom$Sharings" cX7_countStrangers 3 false m 36 [(0, ml_r l0), (1, ml_r l1), (2, ml_i l2), (3, ml_i l3), (4, ml_r l4), (5, ml_i l5)] []) : ∀ (l0 : Nat) (l1 : Nat) (l2 : Int32) (l3 : Int32) (l4 : Nat) (l5 : Int32) (m : ml_M), fX7_countStrangers_78 k10 k36 l0 l1 l2 l3 l4 l5 m = some rm → ml_V E "LostRoom$Sharings" cX7_countStrangers 3 false m 78 [(0, ml_r l0), (1, ml_r l1), (2, ml_i l2), (3, ml_i l3), (4, ml_r l4), (5, ml_i l5)] [] := by
  intro l0 l1 l2 l3 l4 l5 m h
  unfold fX7_countStrangers_78 at h
  exact ml_iinc (lv' := [(5, ml_i (l5 + (1 : Int32))), (0, ml_r l0), (1, ml_r l1), (2, ml_i l2), (3, ml_i l3), (4, ml_r l4)]) dX7_countStrangers_78 5 rfl (congrArg (l5 + ·) kc_i1) (ml_hn hL rfl) rfl <| ml_goto dX7_countStrangers_81 <| ml_V.sub [1, 2, 3, 4, 5, 0] rfl (hk36 _ _ _ _ _ _ _ h)
def fX7_countStrangers_84 (k10 : Nat → Nat → Int32 → Int32 → ml_M → Option ml_M) (l0 : Nat) (l1 : Nat) (l2 : Int32) (l3 : Int32) (m : ml_M) : Option ml_M :=
    k10 l0 l1 l2 (l3 + (1 : Int32)) m
theorem vX7_countStrangers_84 {E : ml_E} (hL : ml_eL E = 6) {rm : ml_M} (hr : ∀ (pc pc' : Nat) (lv : List (Nat × ml_X)), ml_d cX7_countStrangers pc .return_ 1 pc' → True → ml_V E "LostRoom$Sharings" cX7_countStrangers 3 false rm pc lv []) {k10 : Nat → Nat → Int32 → Int32 → ml_M → Option ml_M} (hk10 : ∀ (l0 : Nat) (l1 : Nat) (l2 : Int32) (l3 : Int32) (m : ml_M), k10 l0 l1 l2 l3 m = some rm → ml_V E "LostRoom$Sharings" cX7_countStrangers 3 false m 10 [(0, ml_r l0), (1, ml_r l1), (2, ml_i l2), (3, ml_i l3)] []) : ∀ (l0 : Nat) (l1 : Nat) (l2 : Int32) (l3 : Int32) (m : ml_M), fX7_countStrangers_84 k10 l0 l1 l2 l3 m = some rm → ml_V E "LostRoom$Sharings" cX7_countStrangers 3 false m 84 [(0, ml_r l0), (1, ml_r l1), (2, ml_i l2), (3, ml_i l3)] [] := by
  intro l0 l1 l2 l3 m h
  unfold fX7_countStrangers_84 at h
  exact ml_iinc (lv' := [(3, ml_i (l3 + (1 : Int32))), (0, ml_r l0), (1, ml_r l1), (2, ml_i l2)]) dX7_countStrangers_84 3 rfl (congrArg (l3 + ·) kc_i1) (ml_hn hL rfl) rfl <| ml_goto dX7_countStrangers_87 <| ml_V.sub [1, 2, 3, 0] rfl (hk10 _ _ _ _ _ h)
def fX7_countStrangers_36 (k10 : Nat → Nat → Int32 → Int32 → ml_M → Option ml_M) : Nat → Nat → Nat → Int32 → Int32 → Nat → Int32 → ml_M → Option ml_M
  | 0, _, _, _, _, _, _, _ => none
  | fu + 1, l0, l1, l2, l3, l4, l5, m =>
    if (ml_K m l0).1 = 7 then
    if (ml_I m l0 7) ≤ l5 then
    fX7_countStrangers_84 k10 l0 l1 l2 l3 m
    else
    if (ml_K m l4).1 = 8 then
    ml_b1 (fX10_has (ml_I m l4 5) l5 m) fun r2205 =>
    if r2205 = 0 then
    ml_let (ml_R m l0 8) fun a2206 =>
    if ml_in m a2206 20 (((ml_I m l4 6) * (8 : Int32)) + l5) then
    if ml_in m a2206 20 (((ml_I m l4 6) * (8 : Int32)) + l5) then
    ml_let (ml_sI m a2206 (((ml_I m l4 6) * (8 : Int32)) + l5).toNatClampNeg ((ml_I m a2206 (((ml_I m l4 6) * (8 : Int32)) + l5).toNatClampNeg) + (1 : Int32))) fun m2209 =>
    fX7_countStrangers_78 k10 (fX7_countStrangers_36 k10 fu) l0 l1 l2 l3 l4 l5 m2209
    else none
    else none
    else
    fX7_countStrangers_78 k10 (fX7_countStrangers_36 k10 fu) l0 l1 l2 l3 l4 l5 m
    else none
    else none
theorem vX7_countStrangers_36 {E : ml_E} (hL : ml_eL E = 6) {rm : ml_M} (hr : ∀ (pc pc' : Nat) (lv : List (Nat × ml_X)), ml_d cX7_countStrangers pc .return_ 1 pc' → True → ml_V E "LostRoom$Sharings" cX7_countStrangers 3 false rm pc lv []) {k10 : Nat → Nat → Int32 → Int32 → ml_M → Option ml_M} (hk10 : ∀ (l0 : Nat) (l1 : Nat) (l2 : Int32) (l3 : Int32) (m : ml_M), k10 l0 l1 l2 l3 m = some rm → ml_V E "LostRoom$Sharings" cX7_countStrangers 3 false m 10 [(0, ml_r l0), (1, ml_r l1), (2, ml_i l2), (3, ml_i l3)] []) : ∀ (fu : Nat) (l0 : Nat) (l1 : Nat) (l2 : Int32) (l3 : Int32) (l4 : Nat) (l5 : Int32) (m : ml_M), fX7_countStrangers_36 k10 fu l0 l1 l2 l3 l4 l5 m = some rm → ml_V E "LostRoom$Sharings" cX7_countStrangers 3 false m 36 [(0, ml_r l0), (1, ml_r l1), (2, ml_i l2), (3, ml_i l3), (4, ml_r l4), (5, ml_i l5)] [] := by
  intro fu
  induction fu with
  | zero => intro l0 l1 l2 l3 l4 l5 m h; exact ml_none h
  | succ fu ih =>
    intro l0 l1 l2 l3 l4 l5 m h
    have hk36 := ih
    unfold fX7_countStrangers_36 at h
    exact ml_iload dX7_countStrangers_36 5 rfl <| ml_aload_n dX7_countStrangers_38 0 rfl <| ml_ck_of h fun hc2202 h => ml_getI dX7_countStrangers_39 wb_314 hc2202 <| ml_icmp_ge dX7_countStrangers_42 h (fun _ h => ml_V.sub [0, 1, 2, 3] rfl (vX7_countStrangers_84 hL hr hk10 _ _ _ _ _ h)) (fun _ h => ml_aload dX7_countStrangers_45 4 rfl <| ml_ck_of h fun hc2203 h => ml_getI dX7_countStrangers_47 wb_316 hc2203 <| ml_iload dX7_countStrangers_50 5 rfl <| ml_b1_of h fun r2205 hv2204 h => ml_callSN (host := "LostRoom") dX7_countStrangers_52 (by decide) wb_299 (sX10_has hv2204) rfl (Nat.le_of_ble_eq_true rfl) (Nat.le_of_ble_eq_true rfl) rfl <| ml_if_ne dX7_countStrangers_55 h (fun _ h => ml_V.sub [0, 1, 2, 3, 4, 5] rfl (vX7_countStrangers_78 hL hr hk10 hk36 _ _ _ _ _ _ _ h)) (fun _ h => ml_aload_n dX7_countStrangers_58 0 rfl <| ml_getR dX7_countStrangers_59 wb_317 hc2202 <| ml_lx (mk := ml_r) h fun a2206 h => ml_aload dX7_countStrangers_62 4 rfl <| ml_getI dX7_countStrangers_64 wb_318 hc2203 <| ml_bipush dX7_countStrangers_67 kc_b8 <| ml_imul dX7_countStrangers_69 <| ml_iload dX7_countStrangers_70 5 rfl <| ml_iadd dX7_countStrangers_72 <| ml_dup2 dX7_countStrangers_73 rfl rfl <| ml_ck_of h fun hi2207 h => ml_iald dX7_countStrangers_74 hi2207 <| ml_iconst dX7_countStrangers_75 kc_i1 <| ml_iadd dX7_countStrangers_76 <| ml_ck_of h fun hi2208 h => ml_iast dX7_countStrangers_77 hi2208 <| ml_lt (m := m) rfl h fun m2209 em2210 h => ml_V.sub [0, 1, 2, 3, 4, 5] rfl (vX7_countStrangers_78 hL hr hk10 hk36 _ _ _ _ _ _ _ h)))
def fX7_countStrangers_10 : Nat → Nat → Nat → Int32 → Int32 → ml_M → Option ml_M
  | 0, _, _, _, _, _ => none
  | fu + 1, l0, l1, l2, l3, m =>
    if l2 ≤ l3 then
    some m
    else
    if ml_in m l1 29 l3 then
    ml_let (ml_R m l1 l3.toNatClampNeg) fun a2212 =>
    if (ml_K m a2212).1 = 8 then
    if (ml_I m a2212 6) = (-9 : Int32) then
    fX7_countStrangers_84 (fX7_countStrangers_10 fu) l0 l1 l2 l3 m
    else
    fX7_countStrangers_36 (fX7_countStrangers_10 fu) ml_fu l0 l1 l2 l3 a2212 (0 : Int32) m
    else none
    else none
theorem vX7_countStrangers_10 {E : ml_E} (hL : ml_eL E = 6) {rm : ml_M} (hr : ∀ (pc pc' : Nat) (lv : List (Nat × ml_X)), ml_d cX7_countStrangers pc .return_ 1 pc' → True → ml_V E "LostRoom$Sharings" cX7_countStrangers 3 false rm pc lv []) : ∀ (fu : Nat) (l0 : Nat) (l1 : Nat) (l2 : Int32) (l3 : Int32) (m : ml_M), fX7_countStrangers_10 fu l0 l1 l2 l3 m = some rm → ml_V E "LostRoom$Sharings" cX7_countStrangers 3 false m 10 [(0, ml_r l0), (1, ml_r l1), (2, ml_i l2), (3, ml_i l3)] [] := by
  intro fu
  induction fu with
  | zero => intro l0 l1 l2 l3 m h; exact ml_none h
  | succ fu ih =>
    intro l0 l1 l2 l3 m h
    have hk10 := ih
    unfold fX7_countStrangers_10 at h
    exact ml_iload_n dX7_countStrangers_10 3 rfl <| ml_iload_n dX7_countStrangers_11 2 rfl <| ml_icmp_ge dX7_countStrangers_12 h (fun _ h => ml_rv hr dX7_countStrangers_90 trivial h) (fun _ h => ml_aload_n dX7_countStrangers_15 1 rfl <| ml_iload_n dX7_countStrangers_16 3 rfl <| ml_ck_of h fun hi2211 h => ml_aald (kd := 29) dX7_countStrangers_17 (by decide) hi2211 <| ml_lx (mk := ml_r) h fun a2212 h => ml_astore (lv' := [(4, ml_r a2212), (0, ml_r l0), (1, ml_r l1), (2, ml_i l2), (3, ml_i l3)]) dX7_countStrangers_18 (ml_hn hL rfl) rfl <| ml_aload dX7_countStrangers_20 0 rfl <| ml_ck_of h fun hc2213 h => ml_getI dX7_countStrangers_22 wb_318 hc2213 <| ml_bipush dX7_countStrangers_25 kc_bm9 <| ml_icmp_ne dX7_countStrangers_27 h (fun _ h => ml_iconst dX7_countStrangers_33 kc_i0 <| ml_istore (lv' := [(5, ml_i (0 : Int32)), (4, ml_r a2212), (0, ml_r l0), (1, ml_r l1), (2, ml_i l2), (3, ml_i l3)]) dX7_countStrangers_34 (ml_hn hL rfl) rfl <| ml_V.sub [2, 3, 4, 5, 1, 0] rfl (vX7_countStrangers_36 hL hr hk10 ml_fu _ _ _ _ _ _ _ h)) (fun _ h => ml_goto dX7_countStrangers_30 <| ml_V.sub [1, 2, 3, 4] rfl (vX7_countStrangers_84 hL hr hk10 _ _ _ _ _ h)))
def fX7_countStrangers (l0 : Nat) (l1 : Nat) (l2 : Int32) (m : ml_M) : Option ml_M :=
    if (ml_K m l0).1 = 7 then
    ml_let (ml_R m l0 8) fun a2215 =>
    ml_b1 (fJ7_fill_53178 a2215 (0 : Int32) m) fun m2217 =>
    fX7_countStrangers_10 ml_fu l0 l1 l2 (0 : Int32) m2217
    else none
theorem wX7_countStrangers_0 {E : ml_E} (hL : ml_eL E = 6) {rm : ml_M} (hr : ∀ (pc pc' : Nat) (lv : List (Nat × ml_X)), ml_d cX7_countStrangers pc .return_ 1 pc' → True → ml_V E "LostRoom$Sharings" cX7_countStrangers 3 false rm pc lv []) : ∀ (l0 : Nat) (l1 : Nat) (l2 : Int32) (m : ml_M), fX7_countStrangers l0 l1 l2 m = some rm → ml_V E "LostRoom$Sharings" cX7_countStrangers 3 false m 0 [(0, ml_r l0), (1, ml_r l1), (2, ml_i l2)] [] := by
  intro l0 l1 l2 m h
  unfold fX7_countStrangers at h
  exact ml_aload_n dX7_countStrangers_0 0 rfl <| ml_ck_of h fun hc2214 h => ml_getR dX7_countStrangers_1 wb_317 hc2214 <| ml_lx (mk := ml_r) h fun a2215 h => ml_iconst dX7_countStrangers_4 kc_i0 <| ml_b1_of h fun m2217 hv2216 h => ml_callS dX7_countStrangers_5 wm_532 wb_319 (sJ7_fill_53178 hv2216) rfl (Nat.le_of_ble_eq_true rfl) (Nat.le_of_ble_eq_true rfl) rfl <| ml_iconst dX7_countStrangers_8 kc_i0 <| ml_istore_n (lv' := [(3, ml_i (0 : Int32)), (0, ml_r l0), (1, ml_r l1), (2, ml_i l2)]) dX7_countStrangers_9 (ml_hn hL rfl) rfl <| ml_V.sub [1, 2, 3, 0] rfl (vX7_countStrangers_10 hL hr  ml_fu _ _ _ _ _ h)
theorem sX7_countStrangers {l0 : Nat} {l1 : Nat} {l2 : Int32} {m : ml_M} {rm : ml_M} (h : fX7_countStrangers l0 l1 l2 m = some rm) : ml_Sn yX7_countStrangers cX7_countStrangers 6 none 3 [ml_r l0, ml_r l1, ml_i l2] m none rm :=
  ml_Sn_of (P := True) (ini := false) (by decide +kernel) (Nat.le_of_ble_eq_true rfl) (fun h => by cases h) (fun _ => ml_RkV) fun E hL hr => wX7_countStrangers_0 hL hr _ _ _ _ h
theorem dX7_findCovers_0 : ml_d cX7_findCovers 0 (.iconst 0) 1 1 := ⟨by decide +kernel, rfl⟩
theorem dX7_findCovers_1 : ml_d cX7_findCovers 1 (.istore_n 3) 1 2 := ⟨by decide +kernel, rfl⟩
theorem dX7_findCovers_2 : ml_d cX7_findCovers 2 (.iload_n 3) 1 3 := ⟨by decide +kernel, rfl⟩
theorem dX7_findCovers_3 : ml_d cX7_findCovers 3 (.iconst 1) 1 4 := ⟨by decide +kernel, rfl⟩
theorem dX7_findCovers_4 : ml_d cX7_findCovers 4 (.aload_n 0) 1 5 := ⟨by decide +kernel, rfl⟩
theorem dX7_findCovers_5 : ml_d cX7_findCovers 5 (.getfield 56) 3 8 := ⟨by decide +kernel, rfl⟩
theorem dX7_findCovers_8 : ml_d cX7_findCovers 8 (.ishl) 1 9 := ⟨by decide +kernel, rfl⟩
theorem dX7_findCovers_9 : ml_j cX7_findCovers 9 (.if_icmp .ge) 68 12 := ⟨59, by decide +kernel, by decide, rfl⟩
theorem dX7_findCovers_12 : ml_d cX7_findCovers 12 (.iconst 1) 1 13 := ⟨by decide +kernel, rfl⟩
theorem dX7_findCovers_13 : ml_d cX7_findCovers 13 (.istore 4) 2 15 := ⟨by decide +kernel, rfl⟩
theorem dX7_findCovers_15 : ml_d cX7_findCovers 15 (.iconst 0) 1 16 := ⟨by decide +kernel, rfl⟩
theorem dX7_findCovers_16 : ml_d cX7_findCovers 16 (.istore 5) 2 18 := ⟨by decide +kernel, rfl⟩
theorem dX7_findCovers_18 : ml_d cX7_findCovers 18 (.iload 5) 2 20 := ⟨by decide +kernel, rfl⟩
theorem dX7_findCovers_20 : ml_d cX7_findCovers 20 (.iload_n 2) 1 21 := ⟨by decide +kernel, rfl⟩
theorem dX7_findCovers_21 : ml_j cX7_findCovers 21 (.if_icmp .ge) 54 24 := ⟨33, by decide +kernel, by decide, rfl⟩
theorem dX7_findCovers_24 : ml_d cX7_findCovers 24 (.iload 4) 2 26 := ⟨by decide +kernel, rfl⟩
theorem dX7_findCovers_26 : ml_j cX7_findCovers 26 (.ifCond .eq) 54 29 := ⟨28, by decide +kernel, by decide, rfl⟩
theorem dX7_findCovers_29 : ml_d cX7_findCovers 29 (.aload_n 1) 1 30 := ⟨by decide +kernel, rfl⟩
theorem dX7_findCovers_30 : ml_d cX7_findCovers 30 (.iload 5) 2 32 := ⟨by decide +kernel, rfl⟩
theorem dX7_findCovers_32 : ml_d cX7_findCovers 32 (.aaload) 1 33 := ⟨by decide +kernel, rfl⟩
theorem dX7_findCovers_33 : ml_d cX7_findCovers 33 (.getfield 125) 3 36 := ⟨by decide +kernel, rfl⟩
theorem dX7_findCovers_36 : ml_d cX7_findCovers 36 (.iload_n 3) 1 37 := ⟨by decide +kernel, rfl⟩
theorem dX7_findCovers_37 : ml_d cX7_findCovers 37 (.iand) 1 38 := ⟨by decide +kernel, rfl⟩
theorem dX7_findCovers_38 : ml_j cX7_findCovers 38 (.ifCond .eq) 45 41 := ⟨7, by decide +kernel, by decide, rfl⟩
theorem dX7_findCovers_41 : ml_d cX7_findCovers 41 (.iconst 1) 1 42 := ⟨by decide +kernel, rfl⟩
theorem dX7_findCovers_42 : ml_j cX7_findCovers 42 .goto 46 45 := ⟨4, by decide +kernel, by decide, rfl⟩
theorem dX7_findCovers_45 : ml_d cX7_findCovers 45 (.iconst 0) 1 46 := ⟨by decide +kernel, rfl⟩
theorem dX7_findCovers_46 : ml_d cX7_findCovers 46 (.istore 4) 2 48 := ⟨by decide +kernel, rfl⟩
theorem dX7_findCovers_48 : ml_d cX7_findCovers 48 (.iinc 5 1) 3 51 := ⟨by decide +kernel, rfl⟩
theorem dX7_findCovers_51 : ml_j cX7_findCovers 51 .goto 18 54 := ⟨(-33), by decide +kernel, by decide, rfl⟩
theorem dX7_findCovers_54 : ml_d cX7_findCovers 54 (.aload_n 0) 1 55 := ⟨by decide +kernel, rfl⟩
theorem dX7_findCovers_55 : ml_d cX7_findCovers 55 (.getfield 28) 3 58 := ⟨by decide +kernel, rfl⟩
theorem dX7_findCovers_58 : ml_d cX7_findCovers 58 (.iload_n 3) 1 59 := ⟨by decide +kernel, rfl⟩
theorem dX7_findCovers_59 : ml_d cX7_findCovers 59 (.iload 4) 2 61 := ⟨by decide +kernel, rfl⟩
theorem dX7_findCovers_61 : ml_d cX7_findCovers 61 (.bastore) 1 62 := ⟨by decide +kernel, rfl⟩
theorem dX7_findCovers_62 : ml_d cX7_findCovers 62 (.iinc 3 1) 3 65 := ⟨by decide +kernel, rfl⟩
theorem dX7_findCovers_65 : ml_j cX7_findCovers 65 .goto 2 68 := ⟨(-63), by decide +kernel, by decide, rfl⟩
theorem dX7_findCovers_68 : ml_d cX7_findCovers 68 (.return_) 1 69 := ⟨by decide +kernel, rfl⟩
def fX7_findCovers_46 (k2 : Nat → Nat → Int32 → Int32 → ml_M → Option ml_M) (k18 : Nat → Nat → Int32 → Int32 → Int32 → Int32 → ml_M → Option ml_M) (l0 : Nat) (l1 : Nat) (l2 : Int32) (l3 : Int32) (l5 : Int32) (t0 : Int32) (m : ml_M) : Option ml_M :=
    k18 l0 l1 l2 l3 t0 (l5 + (1 : Int32)) m
theorem vX7_findCovers_46 {E : ml_E} (hL : ml_eL E = 6) {rm : ml_M} (hr : ∀ (pc pc' : Nat) (lv : List (Nat × ml_X)), ml_d cX7_findCovers pc .return_ 1 pc' → True → ml_V E "LostRoom$Sharings" cX7_findCovers 2 false rm pc lv []) {k2 : Nat → Nat → Int32 → Int32 → ml_M → Option ml_M} (hk2 : ∀ (l0 : Nat) (l1 : Nat) (l2 : Int32) (l3 : Int32) (m : ml_M), k2 l0 l1 l2 l3 m = some rm → ml_V E "LostRoom$Sharings" cX7_findCovers 2 false m 2 [(0, ml_r l0), (1, ml_r l1), (2, ml_i l2), (3, ml_i l3)] []) {k18 : Nat → Nat → Int32 → Int32 → Int32 → Int32 → ml_M → Option ml_M} (hk18 : ∀ (l0 : Nat) (l1 : Nat) (l2 : Int32) (l3 : Int32) (l4 : Int32) (l5 : Int32) (m : ml_M), k18 l0 l1 l2 l3 l4 l5 m = some rm → ml_V E "LostRoom$Sharings" cX7_findCovers 2 false m 18 [(0, ml_r l0), (1, ml_r l1), (2, ml_i l2), (3, ml_i l3), (4, ml_i l4), (5, ml_i l5)] []) : ∀ (l0 : Nat) (l1 : Nat) (l2 : Int32) (l3 : Int32) (l5 : Int32) (t0 : Int32) (m : ml_M), fX7_findCovers_46 k2 k18 l0 l1 l2 l3 l5 t0 m = some rm → ml_V E "LostRoom$Sharings" cX7_findCovers 2 false m 46 [(0, ml_r l0), (1, ml_r l1), (2, ml_i l2), (3, ml_i l3), (5, ml_i l5)] [ml_i t0] := by
  intro l0 l1 l2 l3 l5 t0 m h
  unfold fX7_findCovers_46 at h
  exact ml_istore (lv' := [(4, ml_i t0), (0, ml_r l0), (1, ml_r l1), (2, ml_i l2), (3, ml_i l3), (5, ml_i l5)]) dX7_findCovers_46 (ml_hn hL rfl) rfl <| ml_iinc (lv' := [(5, ml_i (l5 + (1 : Int32))), (4, ml_i t0), (0, ml_r l0), (1, ml_r l1), (2, ml_i l2), (3, ml_i l3)]) dX7_findCovers_48 5 rfl (congrArg (l5 + ·) kc_i1) (ml_hn hL rfl) rfl <| ml_goto dX7_findCovers_51 <| ml_V.sub [2, 3, 4, 5, 1, 0] rfl (hk18 _ _ _ _ _ _ _ h)
def fX7_findCovers_54 (k2 : Nat → Nat → Int32 → Int32 → ml_M → Option ml_M) (l0 : Nat) (l1 : Nat) (l2 : Int32) (l3 : Int32) (l4 : Int32) (m : ml_M) : Option ml_M :=
    if (ml_K m l0).1 = 7 then
    ml_let (ml_R m l0 9) fun a2219 =>
    if ml_in m a2219 22 l3 then
    ml_let (ml_sI m a2219 l3.toNatClampNeg (l4 &&& 1)) fun m2221 =>
    k2 l0 l1 l2 (l3 + (1 : Int32)) m2221
    else none
    else none
theorem vX7_findCovers_54 {E : ml_E} (hL : ml_eL E = 6) {rm : ml_M} (hr : ∀ (pc pc' : Nat) (lv : List (Nat × ml_X)), ml_d cX7_findCovers pc .return_ 1 pc' → True → ml_V E "LostRoom$Sharings" cX7_findCovers 2 false rm pc lv []) {k2 : Nat → Nat → Int32 → Int32 → ml_M → Option ml_M} (hk2 : ∀ (l0 : Nat) (l1 : Nat) (l2 : Int32) (l3 : Int32) (m : ml_M), k2 l0 l1 l2 l3 m = some rm → ml_V E "LostRoom$Sharings" cX7_findCovers 2 false m 2 [(0, ml_r l0), (1, ml_r l1), (2, ml_i l2), (3, ml_i l3)] []) : ∀ (l0 : Nat) (l1 : Nat) (l2 : Int32) (l3 : Int32) (l4 : Int32) (m : ml_M), fX7_findCovers_54 k2 l0 l1 l2 l3 l4 m = some rm → ml_V E "LostRoom$Sharings" cX7_findCovers 2 false m 54 [(0, ml_r l0), (1, ml_r l1), (2, ml_i l2), (3, ml_i l3), (4, ml_i l4)] [] := by
  intro l0 l1 l2 l3 l4 m h
  unfold fX7_findCovers_54 at h
  exact ml_aload_n dX7_findCovers_54 0 rfl <| ml_ck_of h fun hc2218 h => ml_getR dX7_findCovers_55 wb_320 hc2218 <| ml_lx (mk := ml_r) h fun a2219 h => ml_iload_n dX7_findCovers_58 3 rfl <| ml_iload dX7_findCovers_59 4 rfl <| ml_ck_of h fun hi2220 h => ml_zast dX7_findCovers_61 hi2220 <| ml_lt (m := m) rfl h fun m2221 em2222 h => ml_iinc (lv' := [(3, ml_i (l3 + (1 : Int32))), (0, ml_r l0), (1, ml_r l1), (2, ml_i l2), (4, ml_i l4)]) dX7_findCovers_62 3 rfl (congrArg (l3 + ·) kc_i1) (ml_hn hL rfl) rfl <| ml_goto dX7_findCovers_65 <| ml_V.sub [1, 2, 3, 0] rfl (hk2 _ _ _ _ _ h)
def fX7_findCovers_18 (k2 : Nat → Nat → Int32 → Int32 → ml_M → Option ml_M) : Nat → Nat → Nat → Int32 → Int32 → Int32 → Int32 → ml_M → Option ml_M
  | 0, _, _, _, _, _, _, _ => none
  | fu + 1, l0, l1, l2, l3, l4, l5, m =>
    if l2 ≤ l5 then
    fX7_findCovers_54 k2 l0 l1 l2 l3 l4 m
    else
    if l4 = 0 then
    fX7_findCovers_54 k2 l0 l1 l2 l3 l4 m
    else
    if ml_in m l1 29 l5 then
    ml_let (ml_R m l1 l5.toNatClampNeg) fun a2224 =>
    if (ml_K m a2224).1 = 8 then
    if ((ml_I m a2224 5) &&& l3) = 0 then
    fX7_findCovers_46 k2 (fX7_findCovers_18 k2 fu) l0 l1 l2 l3 l5 (0 : Int32) m
    else
    fX7_findCovers_46 k2 (fX7_findCovers_18 k2 fu) l0 l1 l2 l3 l5 (1 : Int32) m
    else none
    else none
theorem vX7_findCovers_18 {E : ml_E} (hL : ml_eL E = 6) {rm : ml_M} (hr : ∀ (pc pc' : Nat) (lv : List (Nat × ml_X)), ml_d cX7_findCovers pc .return_ 1 pc' → True → ml_V E "LostRoom$Sharings" cX7_findCovers 2 false rm pc lv []) {k2 : Nat → Nat → Int32 → Int32 → ml_M → Option ml_M} (hk2 : ∀ (l0 : Nat) (l1 : Nat) (l2 : Int32) (l3 : Int32) (m : ml_M), k2 l0 l1 l2 l3 m = some rm → ml_V E "LostRoom$Sharings" cX7_findCovers 2 false m 2 [(0, ml_r l0), (1, ml_r l1), (2, ml_i l2), (3, ml_i l3)] []) : ∀ (fu : Nat) (l0 : Nat) (l1 : Nat) (l2 : Int32) (l3 : Int32) (l4 : Int32) (l5 : Int32) (m : ml_M), fX7_findCovers_18 k2 fu l0 l1 l2 l3 l4 l5 m = some rm → ml_V E "LostRoom$Sharings" cX7_findCovers 2 false m 18 [(0, ml_r l0), (1, ml_r l1), (2, ml_i l2), (3, ml_i l3), (4, ml_i l4), (5, ml_i l5)] [] := by
  intro fu
  induction fu with
  | zero => intro l0 l1 l2 l3 l4 l5 m h; exact ml_none h
  | succ fu ih =>
    intro l0 l1 l2 l3 l4 l5 m h
    have hk18 := ih
    unfold fX7_findCovers_18 at h
    exact ml_iload dX7_findCovers_18 5 rfl <| ml_iload_n dX7_findCovers_20 2 rfl <| ml_icmp_ge dX7_findCovers_21 h (fun _ h => ml_V.sub [0, 1, 2, 3, 4] rfl (vX7_findCovers_54 hL hr hk2 _ _ _ _ _ _ h)) (fun _ h => ml_iload dX7_findCovers_24 4 rfl <| ml_if_eq dX7_findCovers_26 h (fun _ h => ml_V.sub [0, 1, 2, 3, 4] rfl (vX7_findCovers_54 hL hr hk2 _ _ _ _ _ _ h)) (fun _ h => ml_aload_n dX7_findCovers_29 1 rfl <| ml_iload dX7_findCovers_30 5 rfl <| ml_ck_of h fun hi2223 h => ml_aald (kd := 29) dX7_findCovers_32 (by decide) hi2223 <| ml_lx (mk := ml_r) h fun a2224 h => ml_ck_of h fun hc2225 h => ml_getI dX7_findCovers_33 wb_316 hc2225 <| ml_iload_n dX7_findCovers_36 3 rfl <| ml_iand dX7_findCovers_37 <| ml_if_eq dX7_findCovers_38 h (fun _ h => ml_iconst dX7_findCovers_45 kc_i0 <| ml_V.sub [0, 1, 2, 3, 5] rfl (vX7_findCovers_46 hL hr hk2 hk18 _ _ _ _ _ _ _ h)) (fun _ h => ml_iconst dX7_findCovers_41 kc_i1 <| ml_goto dX7_findCovers_42 <| ml_V.sub [0, 1, 2, 3, 5] rfl (vX7_findCovers_46 hL hr hk2 hk18 _ _ _ _ _ _ _ h))))
def fX7_findCovers_2 : Nat → Nat → Nat → Int32 → Int32 → ml_M → Option ml_M
  | 0, _, _, _, _, _ => none
  | fu + 1, l0, l1, l2, l3, m =>
    if (ml_K m l0).1 = 7 then
    if ((1 : Int32) <<< ((ml_I m l0 7) &&& 31)) ≤ l3 then
    some m
    else
    fX7_findCovers_18 (fX7_findCovers_2 fu) ml_fu l0 l1 l2 l3 (1 : Int32) (0 : Int32) m
    else none
theorem vX7_findCovers_2 {E : ml_E} (hL : ml_eL E = 6) {rm : ml_M} (hr : ∀ (pc pc' : Nat) (lv : List (Nat × ml_X)), ml_d cX7_findCovers pc .return_ 1 pc' → True → ml_V E "LostRoom$Sharings" cX7_findCovers 2 false rm pc lv []) : ∀ (fu : Nat) (l0 : Nat) (l1 : Nat) (l2 : Int32) (l3 : Int32) (m : ml_M), fX7_findCovers_2 fu l0 l1 l2 l3 m = some rm → ml_V E "LostRoom$Sharings" cX7_findCovers 2 false m 2 [(0, ml_r l0), (1, ml_r l1), (2, ml_i l2), (3, ml_i l3)] [] := by
  intro fu
  induction fu with
  | zero => intro l0 l1 l2 l3 m h; exact ml_none h
  | succ fu ih =>
    intro l0 l1 l2 l3 m h
    have hk2 := ih
    unfold fX7_findCovers_2 at h
    exact ml_iload_n dX7_findCovers_2 3 rfl <| ml_iconst dX7_findCovers_3 kc_i1 <| ml_aload_n dX7_findCovers_4 0 rfl <| ml_ck_of h fun hc2226 h => ml_getI dX7_findCovers_5 wb_314 hc2226 <| ml_ishl dX7_findCovers_8 <| ml_icmp_ge dX7_findCovers_9 h (fun _ h => ml_rv hr dX7_findCovers_68 trivial h) (fun _ h => ml_iconst dX7_findCovers_12 kc_i1 <| ml_istore (lv' := [(4, ml_i (1 : Int32)), (0, ml_r l0), (1, ml_r l1), (2, ml_i l2), (3, ml_i l3)]) dX7_findCovers_13 (ml_hn hL rfl) rfl <| ml_iconst dX7_findCovers_15 kc_i0 <| ml_istore (lv' := [(5, ml_i (0 : Int32)), (4, ml_i (1 : Int32)), (0, ml_r l0), (1, ml_r l1), (2, ml_i l2), (3, ml_i l3)]) dX7_findCovers_16 (ml_hn hL rfl) rfl <| ml_V.sub [2, 3, 4, 5, 1, 0] rfl (vX7_findCovers_18 hL hr hk2 ml_fu _ _ _ _ _ _ _ h))
def fX7_findCovers (l0 : Nat) (l1 : Nat) (l2 : Int32) (m : ml_M) : Option ml_M :=
    fX7_findCovers_2 ml_fu l0 l1 l2 (0 : Int32) m
theorem wX7_findCovers_0 {E : ml_E} (hL : ml_eL E = 6) {rm : ml_M} (hr : ∀ (pc pc' : Nat) (lv : List (Nat × ml_X)), ml_d cX7_findCovers pc .return_ 1 pc' → True → ml_V E "LostRoom$Sharings" cX7_findCovers 2 false rm pc lv []) : ∀ (l0 : Nat) (l1 : Nat) (l2 : Int32) (m : ml_M), fX7_findCovers l0 l1 l2 m = some rm → ml_V E "LostRoom$Sharings" cX7_findCovers 2 false m 0 [(0, ml_r l0), (1, ml_r l1), (2, ml_i l2)] [] := by
  intro l0 l1 l2 m h
  unfold fX7_findCovers at h
  exact ml_iconst dX7_findCovers_0 kc_i0 <| ml_istore_n (lv' := [(3, ml_i (0 : Int32)), (0, ml_r l0), (1, ml_r l1), (2, ml_i l2)]) dX7_findCovers_1 (ml_hn hL rfl) rfl <| ml_V.sub [1, 2, 3, 0] rfl (vX7_findCovers_2 hL hr  ml_fu _ _ _ _ _ h)
theorem sX7_findCovers {l0 : Nat} {l1 : Nat} {l2 : Int32} {m : ml_M} {rm : ml_M} (h : fX7_findCovers l0 l1 l2 m = some rm) : ml_Sn yX7_findCovers cX7_findCovers 6 none 2 [ml_r l0, ml_r l1, ml_i l2] m none rm :=
  ml_Sn_of (P := True) (ini := false) (by decide +kernel) (Nat.le_of_ble_eq_true rfl) (fun h => by cases h) (fun _ => ml_RkV) fun E hL hr => wX7_findCovers_0 hL hr _ _ _ _ h
theorem dX7_note_0 : ml_d cX7_note 0 (.aload_n 0) 1 1 := ⟨by decide +kernel, rfl⟩
theorem dX7_note_1 : ml_d cX7_note 1 (.getfield 19) 3 4 := ⟨by decide +kernel, rfl⟩
theorem dX7_note_4 : ml_d cX7_note 4 (.iload_n 1) 1 5 := ⟨by decide +kernel, rfl⟩
theorem dX7_note_5 : ml_d cX7_note 5 (.dup2) 1 6 := ⟨by decide +kernel, rfl⟩
theorem dX7_note_6 : ml_d cX7_note 6 (.iaload) 1 7 := ⟨by decide +kernel, rfl⟩
theorem dX7_note_7 : ml_d cX7_note 7 (.iconst 1) 1 8 := ⟨by decide +kernel, rfl⟩
theorem dX7_note_8 : ml_d cX7_note 8 (.iadd) 1 9 := ⟨by decide +kernel, rfl⟩
theorem dX7_note_9 : ml_d cX7_note 9 (.iastore) 1 10 := ⟨by decide +kernel, rfl⟩
theorem dX7_note_10 : ml_d cX7_note 10 (.iconst 0) 1 11 := ⟨by decide +kernel, rfl⟩
theorem dX7_note_11 : ml_d cX7_note 11 (.istore_n 2) 1 12 := ⟨by decide +kernel, rfl⟩
theorem dX7_note_12 : ml_d cX7_note 12 (.iload_n 2) 1 13 := ⟨by decide +kernel, rfl⟩
theorem dX7_note_13 : ml_d cX7_note 13 (.aload_n 0) 1 14 := ⟨by decide +kernel, rfl⟩
theorem dX7_note_14 : ml_d cX7_note 14 (.getfield 52) 3 17 := ⟨by decide +kernel, rfl⟩
theorem dX7_note_17 : ml_j cX7_note 17 (.if_icmp .ge) 51 20 := ⟨34, by decide +kernel, by decide, rfl⟩
theorem dX7_note_20 : ml_d cX7_note 20 (.aload_n 0) 1 21 := ⟨by decide +kernel, rfl⟩
theorem dX7_note_21 : ml_d cX7_note 21 (.getfield 22) 3 24 := ⟨by decide +kernel, rfl⟩
theorem dX7_note_24 : ml_d cX7_note 24 (.iload_n 1) 1 25 := ⟨by decide +kernel, rfl⟩
theorem dX7_note_25 : ml_d cX7_note 25 (.bipush 64) 2 27 := ⟨by decide +kernel, rfl⟩
theorem dX7_note_27 : ml_d cX7_note 27 (.imul) 1 28 := ⟨by decide +kernel, rfl⟩
theorem dX7_note_28 : ml_d cX7_note 28 (.iload_n 2) 1 29 := ⟨by decide +kernel, rfl⟩
theorem dX7_note_29 : ml_d cX7_note 29 (.bipush 8) 2 31 := ⟨by decide +kernel, rfl⟩
theorem dX7_note_31 : ml_d cX7_note 31 (.imul) 1 32 := ⟨by decide +kernel, rfl⟩
theorem dX7_note_32 : ml_d cX7_note 32 (.iadd) 1 33 := ⟨by decide +kernel, rfl⟩
theorem dX7_note_33 : ml_d cX7_note 33 (.aload_n 0) 1 34 := ⟨by decide +kernel, rfl⟩
theorem dX7_note_34 : ml_d cX7_note 34 (.getfield 38) 3 37 := ⟨by decide +kernel, rfl⟩
theorem dX7_note_37 : ml_d cX7_note 37 (.iload_n 2) 1 38 := ⟨by decide +kernel, rfl⟩
theorem dX7_note_38 : ml_d cX7_note 38 (.iaload) 1 39 := ⟨by decide +kernel, rfl⟩
theorem dX7_note_39 : ml_d cX7_note 39 (.iadd) 1 40 := ⟨by decide +kernel, rfl⟩
theorem dX7_note_40 : ml_d cX7_note 40 (.dup2) 1 41 := ⟨by decide +kernel, rfl⟩
theorem dX7_note_41 : ml_d cX7_note 41 (.iaload) 1 42 := ⟨by decide +kernel, rfl⟩
theorem dX7_note_42 : ml_d cX7_note 42 (.iconst 1) 1 43 := ⟨by decide +kernel, rfl⟩
theorem dX7_note_43 : ml_d cX7_note 43 (.iadd) 1 44 := ⟨by decide +kernel, rfl⟩
theorem dX7_note_44 : ml_d cX7_note 44 (.iastore) 1 45 := ⟨by decide +kernel, rfl⟩
theorem dX7_note_45 : ml_d cX7_note 45 (.iinc 2 1) 3 48 := ⟨by decide +kernel, rfl⟩
theorem dX7_note_48 : ml_j cX7_note 48 .goto 12 51 := ⟨(-36), by decide +kernel, by decide, rfl⟩
theorem dX7_note_51 : ml_d cX7_note 51 (.aload_n 0) 1 52 := ⟨by decide +kernel, rfl⟩
theorem dX7_note_52 : ml_d cX7_note 52 (.getfield 72) 3 55 := ⟨by decide +kernel, rfl⟩
theorem dX7_note_55 : ml_d cX7_note 55 (.bipush (-9)) 2 57 := ⟨by decide +kernel, rfl⟩
theorem dX7_note_57 : ml_j cX7_note 57 (.if_icmp .eq) 69 60 := ⟨12, by decide +kernel, by decide, rfl⟩
theorem dX7_note_60 : ml_d cX7_note 60 (.iload_n 1) 1 61 := ⟨by decide +kernel, rfl⟩
theorem dX7_note_61 : ml_d cX7_note 61 (.aload_n 0) 1 62 := ⟨by decide +kernel, rfl⟩
theorem dX7_note_62 : ml_d cX7_note 62 (.getfield 72) 3 65 := ⟨by decide +kernel, rfl⟩
theorem dX7_note_65 : ml_j cX7_note 65 (.if_icmp .lt) 69 68 := ⟨4, by decide +kernel, by decide, rfl⟩
theorem dX7_note_68 : ml_d cX7_note 68 (.return_) 1 69 := ⟨by decide +kernel, rfl⟩
theorem dX7_note_69 : ml_d cX7_note 69 (.aload_n 0) 1 70 := ⟨by decide +kernel, rfl⟩
theorem dX7_note_70 : ml_d cX7_note 70 (.iload_n 1) 1 71 := ⟨by decide +kernel, rfl⟩
theorem dX7_note_71 : ml_d cX7_note 71 (.putfield 72) 3 74 := ⟨by decide +kernel, rfl⟩
theorem dX7_note_74 : ml_d cX7_note 74 (.aload_n 0) 1 75 := ⟨by decide +kernel, rfl⟩
theorem dX7_note_75 : ml_d cX7_note 75 (.getfield 38) 3 78 := ⟨by decide +kernel, rfl⟩
theorem dX7_note_78 : ml_d cX7_note 78 (.iconst 0) 1 79 := ⟨by decide +kernel, rfl⟩
theorem dX7_note_79 : ml_d cX7_note 79 (.aload_n 0) 1 80 := ⟨by decide +kernel, rfl⟩
theorem dX7_note_80 : ml_d cX7_note 80 (.getfield 15) 3 83 := ⟨by decide +kernel, rfl⟩
theorem dX7_note_83 : ml_d cX7_note 83 (.iconst 0) 1 84 := ⟨by decide +kernel, rfl⟩
theorem dX7_note_84 : ml_d cX7_note 84 (.bipush 8) 2 86 := ⟨by decide +kernel, rfl⟩
theorem dX7_note_86 : ml_d cX7_note 86 (.invokestatic 109) 3 89 := ⟨by decide +kernel, rfl⟩
theorem dX7_note_89 : ml_d cX7_note 89 (.return_) 1 90 := ⟨by decide +kernel, rfl⟩
def fX7_note_69 (l0 : Nat) (l1 : Int32) (m : ml_M) : Option ml_M :=
    if (ml_K m l0).1 = 7 then
    ml_let (ml_sI m l0 1 l1) fun m2228 =>
    ml_let (ml_R m2228 l0 12) fun a2230 =>
    ml_let (ml_R m2228 l0 2) fun a2231 =>
    if ml_cpo m2228 a2230 a2231 (0 : Int32) (0 : Int32) (8 : Int32) then
    ml_let (ml_cp m2228 a2230 (0 : Int32).toNatClampNeg a2231 (0 : Int32).toNatClampNeg (8 : Int32).toNatClampNeg) fun m2233 =>
    some m2233
    else none
    else none
theorem vX7_note_69 {E : ml_E} (hL : ml_eL E = 3) {rm : ml_M} (hr : ∀ (pc pc' : Nat) (lv : List (Nat × ml_X)), ml_d cX7_note pc .return_ 1 pc' → True → ml_V E "LostRoom$Sharings" cX7_note 2 false rm pc lv []) : ∀ (l0 : Nat) (l1 : Int32) (m : ml_M), fX7_note_69 l0 l1 m = some rm → ml_V E "LostRoom$Sharings" cX7_note 2 false m 69 [(0, ml_r l0), (1, ml_i l1)] [] := by
  intro l0 l1 m h
  unfold fX7_note_69 at h
  exact ml_aload_n dX7_note_69 0 rfl <| ml_iload_n dX7_note_70 1 rfl <| ml_ck_of h fun hc2227 h => ml_putI dX7_note_71 wb_321 hc2227 <| ml_lt (m := m) rfl h fun m2228 em2229 h => ml_aload_n dX7_note_74 0 rfl <| ml_getR dX7_note_75 wb_322 (ml_kk em2229 hc2227) <| ml_lx (mk := ml_r) h fun a2230 h => ml_iconst dX7_note_78 kc_i0 <| ml_aload_n dX7_note_79 0 rfl <| ml_getR dX7_note_80 wb_323 (ml_kk em2229 hc2227) <| ml_lx (mk := ml_r) h fun a2231 h => ml_iconst dX7_note_83 kc_i0 <| ml_bipush dX7_note_84 kc_b8 <| ml_ck_of h fun ho2232 h => ml_copys dX7_note_86 wb_324 (Nat.le_of_ble_eq_true rfl) (Nat.le_of_ble_eq_true rfl) ho2232 h fun m2233 em2234 h => ml_rv hr dX7_note_89 trivial h
def fX7_note_51 (l0 : Nat) (l1 : Int32) (m : ml_M) : Option ml_M :=
    if (ml_K m l0).1 = 7 then
    if (ml_I m l0 1) = (-9 : Int32) then
    fX7_note_69 l0 l1 m
    else
    if l1 < (ml_I m l0 1) then
    fX7_note_69 l0 l1 m
    else
    some m
    else none
theorem vX7_note_51 {E : ml_E} (hL : ml_eL E = 3) {rm : ml_M} (hr : ∀ (pc pc' : Nat) (lv : List (Nat × ml_X)), ml_d cX7_note pc .return_ 1 pc' → True → ml_V E "LostRoom$Sharings" cX7_note 2 false rm pc lv []) : ∀ (l0 : Nat) (l1 : Int32) (m : ml_M), fX7_note_51 l0 l1 m = some rm → ml_V E "LostRoom$Sharings" cX7_note 2 false m 51 [(0, ml_r l0), (1, ml_i l1)] [] := by
  intro l0 l1 m h
  unfold fX7_note_51 at h
  exact ml_aload_n dX7_note_51 0 rfl <| ml_ck_of h fun hc2235 h => ml_getI dX7_note_52 wb_325 hc2235 <| ml_bipush dX7_note_55 kc_bm9 <| ml_icmp_eq dX7_note_57 h (fun _ h => ml_V.sub [0, 1] rfl (vX7_note_69 hL hr  _ _ _ h)) (fun _ h => ml_iload_n dX7_note_60 1 rfl <| ml_aload_n dX7_note_61 0 rfl <| ml_getI dX7_note_62 wb_325 hc2235 <| ml_icmp_lt dX7_note_65 h (fun _ h => ml_V.sub [0, 1] rfl (vX7_note_69 hL hr  _ _ _ h)) (fun _ h => ml_rv hr dX7_note_68 trivial h))
def fX7_note_12 : Nat → Nat → Int32 → Int32 → ml_M → Option ml_M
  | 0, _, _, _, _ => none
  | fu + 1, l0, l1, l2, m =>
    if (ml_K m l0).1 = 7 then
    if (ml_I m l0 6) ≤ l2 then
    fX7_note_51 l0 l1 m
    else
    ml_let (ml_R m l0 4) fun a2237 =>
    ml_let (ml_R m l0 12) fun a2238 =>
    if ml_in m a2238 20 l2 then
    if ml_in m a2237 20 (((l1 * (64 : Int32)) + (l2 * (8 : Int32))) + (ml_I m a2238 l2.toNatClampNeg)) then
    if ml_in m a2237 20 (((l1 * (64 : Int32)) + (l2 * (8 : Int32))) + (ml_I m a2238 l2.toNatClampNeg)) then
    ml_let (ml_sI m a2237 (((l1 * (64 : Int32)) + (l2 * (8 : Int32))) + (ml_I m a2238 l2.toNatClampNeg)).toNatClampNeg ((ml_I m a2237 (((l1 * (64 : Int32)) + (l2 * (8 : Int32))) + (ml_I m a2238 l2.toNatClampNeg)).toNatClampNeg) + (1 : Int32))) fun m2242 =>
    (fX7_note_12 fu) l0 l1 (l2 + (1 : Int32)) m2242
    else none
    else none
    else none
    else none
theorem vX7_note_12 {E : ml_E} (hL : ml_eL E = 3) {rm : ml_M} (hr : ∀ (pc pc' : Nat) (lv : List (Nat × ml_X)), ml_d cX7_note pc .return_ 1 pc' → True → ml_V E "LostRoom$Sharings" cX7_note 2 false rm pc lv []) : ∀ (fu : Nat) (l0 : Nat) (l1 : Int32) (l2 : Int32) (m : ml_M), fX7_note_12 fu l0 l1 l2 m = some rm → ml_V E "LostRoom$Sharings" cX7_note 2 false m 12 [(0, ml_r l0), (1, ml_i l1), (2, ml_i l2)] [] := by
  intro fu
  induction fu with
  | zero => intro l0 l1 l2 m h; exact ml_none h
  | succ fu ih =>
    intro l0 l1 l2 m h
    have hk12 := ih
    unfold fX7_note_12 at h
    exact ml_iload_n dX7_note_12 2 rfl <| ml_aload_n dX7_note_13 0 rfl <| ml_ck_of h fun hc2236 h => ml_getI dX7_note_14 wb_326 hc2236 <| ml_icmp_ge dX7_note_17 h (fun _ h => ml_V.sub [0, 1] rfl (vX7_note_51 hL hr  _ _ _ h)) (fun _ h => ml_aload_n dX7_note_20 0 rfl <| ml_getR dX7_note_21 wb_327 hc2236 <| ml_lx (mk := ml_r) h fun a2237 h => ml_iload_n dX7_note_24 1 rfl <| ml_bipush dX7_note_25 kc_b64 <| ml_imul dX7_note_27 <| ml_iload_n dX7_note_28 2 rfl <| ml_bipush dX7_note_29 kc_b8 <| ml_imul dX7_note_31 <| ml_iadd dX7_note_32 <| ml_aload_n dX7_note_33 0 rfl <| ml_getR dX7_note_34 wb_322 hc2236 <| ml_lx (mk := ml_r) h fun a2238 h => ml_iload_n dX7_note_37 2 rfl <| ml_ck_of h fun hi2239 h => ml_iald dX7_note_38 hi2239 <| ml_iadd dX7_note_39 <| ml_dup2 dX7_note_40 rfl rfl <| ml_ck_of h fun hi2240 h => ml_iald dX7_note_41 hi2240 <| ml_iconst dX7_note_42 kc_i1 <| ml_iadd dX7_note_43 <| ml_ck_of h fun hi2241 h => ml_iast dX7_note_44 hi2241 <| ml_lt (m := m) rfl h fun m2242 em2243 h => ml_iinc (lv' := [(2, ml_i (l2 + (1 : Int32))), (0, ml_r l0), (1, ml_i l1)]) dX7_note_45 2 rfl (congrArg (l2 + ·) kc_i1) (ml_hn hL rfl) rfl <| ml_goto dX7_note_48 <| ml_V.sub [1, 2, 0] rfl (hk12 _ _ _ _ h))
def fX7_note (l0 : Nat) (l1 : Int32) (m : ml_M) : Option ml_M :=
    if (ml_K m l0).1 = 7 then
    ml_let (ml_R m l0 3) fun a2245 =>
    if ml_in m a2245 20 l1 then
    if ml_in m a2245 20 l1 then
    ml_let (ml_sI m a2245 l1.toNatClampNeg ((ml_I m a2245 l1.toNatClampNeg) + (1 : Int32))) fun m2248 =>
    fX7_note_12 ml_fu l0 l1 (0 : Int32) m2248
    else none
    else none
    else none
theorem wX7_note_0 {E : ml_E} (hL : ml_eL E = 3) {rm : ml_M} (hr : ∀ (pc pc' : Nat) (lv : List (Nat × ml_X)), ml_d cX7_note pc .return_ 1 pc' → True → ml_V E "LostRoom$Sharings" cX7_note 2 false rm pc lv []) : ∀ (l0 : Nat) (l1 : Int32) (m : ml_M), fX7_note l0 l1 m = some rm → ml_V E "LostRoom$Sharings" cX7_note 2 false m 0 [(0, ml_r l0), (1, ml_i l1)] [] := by
  intro l0 l1 m h
  unfold fX7_note at h
  exact ml_aload_n dX7_note_0 0 rfl <| ml_ck_of h fun hc2244 h => ml_getR dX7_note_1 wb_328 hc2244 <| ml_lx (mk := ml_r) h fun a2245 h => ml_iload_n dX7_note_4 1 rfl <| ml_dup2 dX7_note_5 rfl rfl <| ml_ck_of h fun hi2246 h => ml_iald dX7_note_6 hi2246 <| ml_iconst dX7_note_7 kc_i1 <| ml_iadd dX7_note_8 <| ml_ck_of h fun hi2247 h => ml_iast dX7_note_9 hi2247 <| ml_lt (m := m) rfl h fun m2248 em2249 h => ml_iconst dX7_note_10 kc_i0 <| ml_istore_n (lv' := [(2, ml_i (0 : Int32)), (0, ml_r l0), (1, ml_i l1)]) dX7_note_11 (ml_hn hL rfl) rfl <| ml_V.sub [1, 2, 0] rfl (vX7_note_12 hL hr  ml_fu _ _ _ _ h)
theorem sX7_note {l0 : Nat} {l1 : Int32} {m : ml_M} {rm : ml_M} (h : fX7_note l0 l1 m = some rm) : ml_Sn yX7_note cX7_note 3 none 2 [ml_r l0, ml_i l1] m none rm :=
  ml_Sn_of (P := True) (ini := false) (by decide +kernel) (Nat.le_of_ble_eq_true rfl) (fun h => by cases h) (fun _ => ml_RkV) fun E hL hr => wX7_note_0 hL hr _ _ _ h
theorem dX7_open_0 : ml_d cX7_open 0 (.iconst 1) 1 1 := ⟨by decide +kernel, rfl⟩
theorem dX7_open_1 : ml_d cX7_open 1 (.aload_n 0) 1 2 := ⟨by decide +kernel, rfl⟩
theorem dX7_open_2 : ml_d cX7_open 2 (.getfield 56) 3 5 := ⟨by decide +kernel, rfl⟩
theorem dX7_open_5 : ml_d cX7_open 5 (.ishl) 1 6 := ⟨by decide +kernel, rfl⟩
theorem dX7_open_6 : ml_d cX7_open 6 (.iconst 1) 1 7 := ⟨by decide +kernel, rfl⟩
theorem dX7_open_7 : ml_d cX7_open 7 (.isub) 1 8 := ⟨by decide +kernel, rfl⟩
theorem dX7_open_8 : ml_d cX7_open 8 (.iload_n 2) 1 9 := ⟨by decide +kernel, rfl⟩
theorem dX7_open_9 : ml_d cX7_open 9 (.iconst (-1)) 1 10 := ⟨by decide +kernel, rfl⟩
theorem dX7_open_10 : ml_d cX7_open 10 (.ixor) 1 11 := ⟨by decide +kernel, rfl⟩
theorem dX7_open_11 : ml_d cX7_open 11 (.iand) 1 12 := ⟨by decide +kernel, rfl⟩
theorem dX7_open_12 : ml_d cX7_open 12 (.istore_n 3) 1 13 := ⟨by decide +kernel, rfl⟩
theorem dX7_open_13 : ml_d cX7_open 13 (.aload_n 0) 1 14 := ⟨by decide +kernel, rfl⟩
theorem dX7_open_14 : ml_d cX7_open 14 (.getfield 47) 3 17 := ⟨by decide +kernel, rfl⟩
theorem dX7_open_17 : ml_d cX7_open 17 (.iload_n 1) 1 18 := ⟨by decide +kernel, rfl⟩
theorem dX7_open_18 : ml_d cX7_open 18 (.aaload) 1 19 := ⟨by decide +kernel, rfl⟩
theorem dX7_open_19 : ml_d cX7_open 19 (.astore 4) 2 21 := ⟨by decide +kernel, rfl⟩
theorem dX7_open_21 : ml_d cX7_open 21 (.iconst 0) 1 22 := ⟨by decide +kernel, rfl⟩
theorem dX7_open_22 : ml_d cX7_open 22 (.istore 5) 2 24 := ⟨by decide +kernel, rfl⟩
theorem dX7_open_24 : ml_d cX7_open 24 (.iload 5) 2 26 := ⟨by decide +kernel, rfl⟩
theorem dX7_open_26 : ml_d cX7_open 26 (.iload_n 1) 1 27 := ⟨by decide +kernel, rfl⟩
theorem dX7_open_27 : ml_j cX7_open 27 (.if_icmp .ge) 92 30 := ⟨65, by decide +kernel, by decide, rfl⟩
theorem dX7_open_30 : ml_d cX7_open 30 (.aload 4) 2 32 := ⟨by decide +kernel, rfl⟩
theorem dX7_open_32 : ml_d cX7_open 32 (.getfield 101) 3 35 := ⟨by decide +kernel, rfl⟩
theorem dX7_open_35 : ml_d cX7_open 35 (.iload 5) 2 37 := ⟨by decide +kernel, rfl⟩
theorem dX7_open_37 : ml_d cX7_open 37 (.invokestatic 93) 3 40 := ⟨by decide +kernel, rfl⟩
theorem dX7_open_40 : ml_j cX7_open 40 (.ifCond .eq) 58 43 := ⟨18, by decide +kernel, by decide, rfl⟩
theorem dX7_open_43 : ml_d cX7_open 43 (.iload_n 3) 1 44 := ⟨by decide +kernel, rfl⟩
theorem dX7_open_44 : ml_d cX7_open 44 (.aload_n 0) 1 45 := ⟨by decide +kernel, rfl⟩
theorem dX7_open_45 : ml_d cX7_open 45 (.getfield 32) 3 48 := ⟨by decide +kernel, rfl⟩
theorem dX7_open_48 : ml_d cX7_open 48 (.aload_n 0) 1 49 := ⟨by decide +kernel, rfl⟩
theorem dX7_open_49 : ml_d cX7_open 49 (.getfield 38) 3 52 := ⟨by decide +kernel, rfl⟩
theorem dX7_open_52 : ml_d cX7_open 52 (.iload 5) 2 54 := ⟨by decide +kernel, rfl⟩
theorem dX7_open_54 : ml_d cX7_open 54 (.iaload) 1 55 := ⟨by decide +kernel, rfl⟩
theorem dX7_open_55 : ml_d cX7_open 55 (.iaload) 1 56 := ⟨by decide +kernel, rfl⟩
theorem dX7_open_56 : ml_d cX7_open 56 (.iand) 1 57 := ⟨by decide +kernel, rfl⟩
theorem dX7_open_57 : ml_d cX7_open 57 (.istore_n 3) 1 58 := ⟨by decide +kernel, rfl⟩
theorem dX7_open_58 : ml_d cX7_open 58 (.aload 4) 2 60 := ⟨by decide +kernel, rfl⟩
theorem dX7_open_60 : ml_d cX7_open 60 (.getfield 106) 3 63 := ⟨by decide +kernel, rfl⟩
theorem dX7_open_63 : ml_d cX7_open 63 (.iload 5) 2 65 := ⟨by decide +kernel, rfl⟩
theorem dX7_open_65 : ml_d cX7_open 65 (.invokestatic 93) 3 68 := ⟨by decide +kernel, rfl⟩
theorem dX7_open_68 : ml_j cX7_open 68 (.ifCond .eq) 86 71 := ⟨18, by decide +kernel, by decide, rfl⟩
theorem dX7_open_71 : ml_d cX7_open 71 (.iload_n 3) 1 72 := ⟨by decide +kernel, rfl⟩
theorem dX7_open_72 : ml_d cX7_open 72 (.aload_n 0) 1 73 := ⟨by decide +kernel, rfl⟩
theorem dX7_open_73 : ml_d cX7_open 73 (.getfield 35) 3 76 := ⟨by decide +kernel, rfl⟩
theorem dX7_open_76 : ml_d cX7_open 76 (.aload_n 0) 1 77 := ⟨by decide +kernel, rfl⟩
theorem dX7_open_77 : ml_d cX7_open 77 (.getfield 38) 3 80 := ⟨by decide +kernel, rfl⟩
theorem dX7_open_80 : ml_d cX7_open 80 (.iload 5) 2 82 := ⟨by decide +kernel, rfl⟩
theorem dX7_open_82 : ml_d cX7_open 82 (.iaload) 1 83 := ⟨by decide +kernel, rfl⟩
theorem dX7_open_83 : ml_d cX7_open 83 (.iaload) 1 84 := ⟨by decide +kernel, rfl⟩
theorem dX7_open_84 : ml_d cX7_open 84 (.iand) 1 85 := ⟨by decide +kernel, rfl⟩
theorem dX7_open_85 : ml_d cX7_open 85 (.istore_n 3) 1 86 := ⟨by decide +kernel, rfl⟩
theorem dX7_open_86 : ml_d cX7_open 86 (.iinc 5 1) 3 89 := ⟨by decide +kernel, rfl⟩
theorem dX7_open_89 : ml_j cX7_open 89 .goto 24 92 := ⟨(-65), by decide +kernel, by decide, rfl⟩
theorem dX7_open_92 : ml_d cX7_open 92 (.iload_n 3) 1 93 := ⟨by decide +kernel, rfl⟩
theorem dX7_open_93 : ml_d cX7_open 93 (.ireturn) 1 94 := ⟨by decide +kernel, rfl⟩
def fX7_open_86 (k24 : Nat → Int32 → Int32 → Nat → Int32 → ml_M → Option Int32) (l0 : Nat) (l1 : Int32) (l3 : Int32) (l4 : Nat) (l5 : Int32) (m : ml_M) : Option Int32 :=
    k24 l0 l1 l3 l4 (l5 + (1 : Int32)) m
theorem vX7_open_86 {E : ml_E} (hL : ml_eL E = 6) {rv : Int32} {m : ml_M} (hr : ∀ (pc pc' : Nat) (lv : List (Nat × ml_X)), ml_d cX7_open pc .ireturn 1 pc' → True → ml_V E "LostRoom$Sharings" cX7_open 3 false m pc lv [ml_i rv]) {k24 : Nat → Int32 → Int32 → Nat → Int32 → ml_M → Option Int32} (hk24 : ∀ (l0 : Nat) (l1 : Int32) (l3 : Int32) (l4 : Nat) (l5 : Int32), k24 l0 l1 l3 l4 l5 m = some rv → ml_V E "LostRoom$Sharings" cX7_open 3 false m 24 [(0, ml_r l0), (1, ml_i l1), (3, ml_i l3), (4, ml_r l4), (5, ml_i l5)] []) : ∀ (l0 : Nat) (l1 : Int32) (l3 : Int32) (l4 : Nat) (l5 : Int32), fX7_open_86 k24 l0 l1 l3 l4 l5 m = some rv → ml_V E "LostRoom$Sharings" cX7_open 3 false m 86 [(0, ml_r l0), (1, ml_i l1), (3, ml_i l3), (4, ml_r l4), (5, ml_i l5)] [] := by
  intro l0 l1 l3 l4 l5 h
  unfold fX7_open_86 at h
  exact ml_iinc (lv' := [(5, ml_i (l5 + (1 : Int32))), (0, ml_r l0), (1, ml_i l1), (3, ml_i l3), (4, ml_r l4)]) dX7_open_86 4 rfl (congrArg (l5 + ·) kc_i1) (ml_hn hL rfl) rfl <| ml_goto dX7_open_89 <| ml_V.sub [1, 2, 3, 4, 0] rfl (hk24 _ _ _ _ _ h)
def fX7_open_58 (k24 : Nat → Int32 → Int32 → Nat → Int32 → ml_M → Option Int32) (l0 : Nat) (l1 : Int32) (l3 : Int32) (l4 : Nat) (l5 : Int32) (m : ml_M) : Option Int32 :=
    if (ml_K m l4).1 = 9 then
    ml_b1 (fX10_has (ml_I m l4 2) l5 m) fun r2252 =>
    if r2252 = 0 then
    fX7_open_86 k24 l0 l1 l3 l4 l5 m
    else
    if (ml_K m l0).1 = 7 then
    ml_let (ml_R m l0 11) fun a2254 =>
    ml_let (ml_R m l0 12) fun a2255 =>
    if ml_in m a2255 20 l5 then
    if ml_in m a2254 20 (ml_I m a2255 l5.toNatClampNeg) then
    ml_let (l3 &&& (ml_I m a2254 (ml_I m a2255 l5.toNatClampNeg).toNatClampNeg)) fun x2258 =>
    fX7_open_86 k24 l0 l1 x2258 l4 l5 m
    else none
    else none
    else none
    else none
theorem vX7_open_58 {E : ml_E} (hL : ml_eL E = 6) {rv : Int32} {m : ml_M} (hr : ∀ (pc pc' : Nat) (lv : List (Nat × ml_X)), ml_d cX7_open pc .ireturn 1 pc' → True → ml_V E "LostRoom$Sharings" cX7_open 3 false m pc lv [ml_i rv]) {k24 : Nat → Int32 → Int32 → Nat → Int32 → ml_M → Option Int32} (hk24 : ∀ (l0 : Nat) (l1 : Int32) (l3 : Int32) (l4 : Nat) (l5 : Int32), k24 l0 l1 l3 l4 l5 m = some rv → ml_V E "LostRoom$Sharings" cX7_open 3 false m 24 [(0, ml_r l0), (1, ml_i l1), (3, ml_i l3), (4, ml_r l4), (5, ml_i l5)] []) : ∀ (l0 : Nat) (l1 : Int32) (l3 : Int32) (l4 : Nat) (l5 : Int32), fX7_open_58 k24 l0 l1 l3 l4 l5 m = some rv → ml_V E "LostRoom$Sharings" cX7_open 3 false m 58 [(0, ml_r l0), (1, ml_i l1), (3, ml_i l3), (4, ml_r l4), (5, ml_i l5)] [] := by
  intro l0 l1 l3 l4 l5 h
  unfold fX7_open_58 at h
  exact ml_aload dX7_open_58 3 rfl <| ml_ck_of h fun hc2250 h => ml_getI dX7_open_60 wb_329 hc2250 <| ml_iload dX7_open_63 4 rfl <| ml_b1_of h fun r2252 hv2251 h => ml_callSN (host := "LostRoom") dX7_open_65 (by decide) wb_299 (sX10_has hv2251) rfl (Nat.le_of_ble_eq_true rfl) (Nat.le_of_ble_eq_true rfl) rfl <| ml_if_eq dX7_open_68 h (fun _ h => ml_V.sub [0, 1, 2, 3, 4] rfl (vX7_open_86 hL hr hk24 _ _ _ _ _ h)) (fun _ h => ml_iload_n dX7_open_71 2 rfl <| ml_aload_n dX7_open_72 0 rfl <| ml_ck_of h fun hc2253 h => ml_getR dX7_open_73 wb_313 hc2253 <| ml_lx (mk := ml_r) h fun a2254 h => ml_aload_n dX7_open_76 0 rfl <| ml_getR dX7_open_77 wb_322 hc2253 <| ml_lx (mk := ml_r) h fun a2255 h => ml_iload dX7_open_80 4 rfl <| ml_ck_of h fun hi2256 h => ml_iald dX7_open_82 hi2256 <| ml_ck_of h fun hi2257 h => ml_iald dX7_open_83 hi2257 <| ml_iand dX7_open_84 <| ml_lx (mk := ml_i) h fun x2258 h => ml_istore_n (lv' := [(3, ml_i x2258), (0, ml_r l0), (1, ml_i l1), (4, ml_r l4), (5, ml_i l5)]) dX7_open_85 (ml_hn hL rfl) rfl <| ml_V.sub [1, 2, 0, 3, 4] rfl (vX7_open_86 hL hr hk24 _ _ _ _ _ h))
def fX7_open_24 : Nat → Nat → Int32 → Int32 → Nat → Int32 → ml_M → Option Int32
  | 0, _, _, _, _, _, _ => none
  | fu + 1, l0, l1, l3, l4, l5, m =>
    if l1 ≤ l5 then
    some l3
    else
    if (ml_K m l4).1 = 9 then
    ml_b1 (fX10_has (ml_I m l4 3) l5 m) fun r2261 =>
    if r2261 = 0 then
    fX7_open_58 (fX7_open_24 fu) l0 l1 l3 l4 l5 m
    else
    if (ml_K m l0).1 = 7 then
    ml_let (ml_R m l0 10) fun a2263 =>
    ml_let (ml_R m l0 12) fun a2264 =>
    if ml_in m a2264 20 l5 then
    if ml_in m a2263 20 (ml_I m a2264 l5.toNatClampNeg) then
    ml_let (l3 &&& (ml_I m a2263 (ml_I m a2264 l5.toNatClampNeg).toNatClampNeg)) fun x2267 =>
    fX7_open_58 (fX7_open_24 fu) l0 l1 x2267 l4 l5 m
    else none
    else none
    else none
    else none
theorem vX7_open_24 {E : ml_E} (hL : ml_eL E = 6) {rv : Int32} {m : ml_M} (hr : ∀ (pc pc' : Nat) (lv : List (Nat × ml_X)), ml_d cX7_open pc .ireturn 1 pc' → True → ml_V E "LostRoom$Sharings" cX7_open 3 false m pc lv [ml_i rv]) : ∀ (fu : Nat) (l0 : Nat) (l1 : Int32) (l3 : Int32) (l4 : Nat) (l5 : Int32), fX7_open_24 fu l0 l1 l3 l4 l5 m = some rv → ml_V E "LostRoom$Sharings" cX7_open 3 false m 24 [(0, ml_r l0), (1, ml_i l1), (3, ml_i l3), (4, ml_r l4), (5, ml_i l5)] [] := by
  intro fu
  induction fu with
  | zero => intro l0 l1 l3 l4 l5 h; exact ml_none h
  | succ fu ih =>
    intro l0 l1 l3 l4 l5 h
    have hk24 := ih
    unfold fX7_open_24 at h
    exact ml_iload dX7_open_24 4 rfl <| ml_iload_n dX7_open_26 1 rfl <| ml_icmp_ge dX7_open_27 h (fun _ h => ml_iload_n dX7_open_92 2 rfl <| ml_rp (mk := ml_i) hr dX7_open_93 (fun _ => trivial) h) (fun _ h => ml_aload dX7_open_30 3 rfl <| ml_ck_of h fun hc2259 h => ml_getI dX7_open_32 wb_330 hc2259 <| ml_iload dX7_open_35 4 rfl <| ml_b1_of h fun r2261 hv2260 h => ml_callSN (host := "LostRoom") dX7_open_37 (by decide) wb_299 (sX10_has hv2260) rfl (Nat.le_of_ble_eq_true rfl) (Nat.le_of_ble_eq_true rfl) rfl <| ml_if_eq dX7_open_40 h (fun _ h => ml_V.sub [0, 1, 2, 3, 4] rfl (vX7_open_58 hL hr hk24 _ _ _ _ _ h)) (fun _ h => ml_iload_n dX7_open_43 2 rfl <| ml_aload_n dX7_open_44 0 rfl <| ml_ck_of h fun hc2262 h => ml_getR dX7_open_45 wb_315 hc2262 <| ml_lx (mk := ml_r) h fun a2263 h => ml_aload_n dX7_open_48 0 rfl <| ml_getR dX7_open_49 wb_322 hc2262 <| ml_lx (mk := ml_r) h fun a2264 h => ml_iload dX7_open_52 4 rfl <| ml_ck_of h fun hi2265 h => ml_iald dX7_open_54 hi2265 <| ml_ck_of h fun hi2266 h => ml_iald dX7_open_55 hi2266 <| ml_iand dX7_open_56 <| ml_lx (mk := ml_i) h fun x2267 h => ml_istore_n (lv' := [(3, ml_i x2267), (0, ml_r l0), (1, ml_i l1), (4, ml_r l4), (5, ml_i l5)]) dX7_open_57 (ml_hn hL rfl) rfl <| ml_V.sub [1, 2, 0, 3, 4] rfl (vX7_open_58 hL hr hk24 _ _ _ _ _ h)))
def fX7_open (l0 : Nat) (l1 : Int32) (l2 : Int32) (m : ml_M) : Option Int32 :=
    if (ml_K m l0).1 = 7 then
    ml_let ((((1 : Int32) <<< ((ml_I m l0 7) &&& 31)) - (1 : Int32)) &&& (l2 ^^^ (-1 : Int32))) fun x2269 =>
    ml_let (ml_R m l0 5) fun a2270 =>
    if ml_in m a2270 30 l1 then
    ml_let (ml_R m a2270 l1.toNatClampNeg) fun a2272 =>
    fX7_open_24 ml_fu l0 l1 x2269 a2272 (0 : Int32) m
    else none
    else none
theorem wX7_open_0 {E : ml_E} (hL : ml_eL E = 6) {rv : Int32} {m : ml_M} (hr : ∀ (pc pc' : Nat) (lv : List (Nat × ml_X)), ml_d cX7_open pc .ireturn 1 pc' → True → ml_V E "LostRoom$Sharings" cX7_open 3 false m pc lv [ml_i rv]) : ∀ (l0 : Nat) (l1 : Int32) (l2 : Int32), fX7_open l0 l1 l2 m = some rv → ml_V E "LostRoom$Sharings" cX7_open 3 false m 0 [(0, ml_r l0), (1, ml_i l1), (2, ml_i l2)] [] := by
  intro l0 l1 l2 h
  unfold fX7_open at h
  exact ml_iconst dX7_open_0 kc_i1 <| ml_aload_n dX7_open_1 0 rfl <| ml_ck_of h fun hc2268 h => ml_getI dX7_open_2 wb_314 hc2268 <| ml_ishl dX7_open_5 <| ml_iconst dX7_open_6 kc_i1 <| ml_isub dX7_open_7 <| ml_iload_n dX7_open_8 2 rfl <| ml_iconst dX7_open_9 kc_im1 <| ml_ixor dX7_open_10 <| ml_iand dX7_open_11 <| ml_lx (mk := ml_i) h fun x2269 h => ml_istore_n (lv' := [(3, ml_i x2269), (0, ml_r l0), (1, ml_i l1), (2, ml_i l2)]) dX7_open_12 (ml_hn hL rfl) rfl <| ml_aload_n dX7_open_13 1 rfl <| ml_getR dX7_open_14 wb_331 hc2268 <| ml_lx (mk := ml_r) h fun a2270 h => ml_iload_n dX7_open_17 2 rfl <| ml_ck_of h fun hi2271 h => ml_aald (kd := 30) dX7_open_18 (by decide) hi2271 <| ml_lx (mk := ml_r) h fun a2272 h => ml_astore (lv' := [(4, ml_r a2272), (3, ml_i x2269), (0, ml_r l0), (1, ml_i l1), (2, ml_i l2)]) dX7_open_19 (ml_hn hL rfl) rfl <| ml_iconst dX7_open_21 kc_i0 <| ml_istore (lv' := [(5, ml_i (0 : Int32)), (4, ml_r a2272), (3, ml_i x2269), (0, ml_r l0), (1, ml_i l1), (2, ml_i l2)]) dX7_open_22 (ml_hn hL rfl) rfl <| ml_V.sub [3, 4, 2, 1, 0] rfl (vX7_open_24 hL hr  ml_fu _ _ _ _ _ h)
theorem sX7_open {l0 : Nat} {l1 : Int32} {l2 : Int32} {m : ml_M} {rv : Int32} (h : fX7_open l0 l1 l2 m = some rv) : ml_Sn yX7_open cX7_open 6 (some .int) 3 [ml_r l0, ml_i l1, ml_i l2] m (some (ml_i rv)) m :=
  ml_Sn_of (P := True) (ini := false) (by decide +kernel) (Nat.le_of_ble_eq_true rfl) (fun h => by cases h) (fun _ => ml_RkI rv) fun E hL hr => wX7_open_0 hL hr _ _ _ h
theorem dX7_give_0 : ml_d cX7_give 0 (.iload_n 1) 1 1 := ⟨by decide +kernel, rfl⟩
theorem dX7_give_1 : ml_d cX7_give 1 (.aload_n 0) 1 2 := ⟨by decide +kernel, rfl⟩
theorem dX7_give_2 : ml_d cX7_give 2 (.getfield 52) 3 5 := ⟨by decide +kernel, rfl⟩
theorem dX7_give_5 : ml_j cX7_give 5 (.if_icmp .lt) 23 8 := ⟨18, by decide +kernel, by decide, rfl⟩
theorem dX7_give_8 : ml_d cX7_give 8 (.aload_n 0) 1 9 := ⟨by decide +kernel, rfl⟩
theorem dX7_give_9 : ml_d cX7_give 9 (.getfield 28) 3 12 := ⟨by decide +kernel, rfl⟩
theorem dX7_give_12 : ml_d cX7_give 12 (.iload_n 2) 1 13 := ⟨by decide +kernel, rfl⟩
theorem dX7_give_13 : ml_d cX7_give 13 (.baload) 1 14 := ⟨by decide +kernel, rfl⟩
theorem dX7_give_14 : ml_j cX7_give 14 (.ifCond .eq) 22 17 := ⟨8, by decide +kernel, by decide, rfl⟩
theorem dX7_give_17 : ml_d cX7_give 17 (.aload_n 0) 1 18 := ⟨by decide +kernel, rfl⟩
theorem dX7_give_18 : ml_d cX7_give 18 (.iload_n 3) 1 19 := ⟨by decide +kernel, rfl⟩
theorem dX7_give_19 : ml_d cX7_give 19 (.invokevirtual 97) 3 22 := ⟨by decide +kernel, rfl⟩
theorem dX7_give_22 : ml_d cX7_give 22 (.return_) 1 23 := ⟨by decide +kernel, rfl⟩
theorem dX7_give_23 : ml_d cX7_give 23 (.aload_n 0) 1 24 := ⟨by decide +kernel, rfl⟩
theorem dX7_give_24 : ml_d cX7_give 24 (.iload_n 1) 1 25 := ⟨by decide +kernel, rfl⟩
theorem dX7_give_25 : ml_d cX7_give 25 (.iload_n 2) 1 26 := ⟨by decide +kernel, rfl⟩
theorem dX7_give_26 : ml_d cX7_give 26 (.invokevirtual 89) 3 29 := ⟨by decide +kernel, rfl⟩
theorem dX7_give_29 : ml_d cX7_give 29 (.istore 4) 2 31 := ⟨by decide +kernel, rfl⟩
theorem dX7_give_31 : ml_d cX7_give 31 (.iconst 0) 1 32 := ⟨by decide +kernel, rfl⟩
theorem dX7_give_32 : ml_d cX7_give 32 (.istore 5) 2 34 := ⟨by decide +kernel, rfl⟩
theorem dX7_give_34 : ml_d cX7_give 34 (.iload 5) 2 36 := ⟨by decide +kernel, rfl⟩
theorem dX7_give_36 : ml_d cX7_give 36 (.aload_n 0) 1 37 := ⟨by decide +kernel, rfl⟩
theorem dX7_give_37 : ml_d cX7_give 37 (.getfield 56) 3 40 := ⟨by decide +kernel, rfl⟩
theorem dX7_give_40 : ml_j cX7_give 40 (.if_icmp .ge) 97 43 := ⟨57, by decide +kernel, by decide, rfl⟩
theorem dX7_give_43 : ml_d cX7_give 43 (.iload 4) 2 45 := ⟨by decide +kernel, rfl⟩
theorem dX7_give_45 : ml_d cX7_give 45 (.iload 5) 2 47 := ⟨by decide +kernel, rfl⟩
theorem dX7_give_47 : ml_d cX7_give 47 (.invokestatic 93) 3 50 := ⟨by decide +kernel, rfl⟩
theorem dX7_give_50 : ml_j cX7_give 50 (.ifCond .ne) 56 53 := ⟨6, by decide +kernel, by decide, rfl⟩
theorem dX7_give_53 : ml_j cX7_give 53 .goto 91 56 := ⟨38, by decide +kernel, by decide, rfl⟩
theorem dX7_give_56 : ml_d cX7_give 56 (.aload_n 0) 1 57 := ⟨by decide +kernel, rfl⟩
theorem dX7_give_57 : ml_d cX7_give 57 (.getfield 38) 3 60 := ⟨by decide +kernel, rfl⟩
theorem dX7_give_60 : ml_d cX7_give 60 (.iload_n 1) 1 61 := ⟨by decide +kernel, rfl⟩
theorem dX7_give_61 : ml_d cX7_give 61 (.iload 5) 2 63 := ⟨by decide +kernel, rfl⟩
theorem dX7_give_63 : ml_d cX7_give 63 (.iastore) 1 64 := ⟨by decide +kernel, rfl⟩
theorem dX7_give_64 : ml_d cX7_give 64 (.aload_n 0) 1 65 := ⟨by decide +kernel, rfl⟩
theorem dX7_give_65 : ml_d cX7_give 65 (.iload_n 1) 1 66 := ⟨by decide +kernel, rfl⟩
theorem dX7_give_66 : ml_d cX7_give 66 (.iconst 1) 1 67 := ⟨by decide +kernel, rfl⟩
theorem dX7_give_67 : ml_d cX7_give 67 (.iadd) 1 68 := ⟨by decide +kernel, rfl⟩
theorem dX7_give_68 : ml_d cX7_give 68 (.iload_n 2) 1 69 := ⟨by decide +kernel, rfl⟩
theorem dX7_give_69 : ml_d cX7_give 69 (.iconst 1) 1 70 := ⟨by decide +kernel, rfl⟩
theorem dX7_give_70 : ml_d cX7_give 70 (.iload 5) 2 72 := ⟨by decide +kernel, rfl⟩
theorem dX7_give_72 : ml_d cX7_give 72 (.ishl) 1 73 := ⟨by decide +kernel, rfl⟩
theorem dX7_give_73 : ml_d cX7_give 73 (.ior) 1 74 := ⟨by decide +kernel, rfl⟩
theorem dX7_give_74 : ml_d cX7_give 74 (.iload_n 3) 1 75 := ⟨by decide +kernel, rfl⟩
theorem dX7_give_75 : ml_d cX7_give 75 (.aload_n 0) 1 76 := ⟨by decide +kernel, rfl⟩
theorem dX7_give_76 : ml_d cX7_give 76 (.getfield 25) 3 79 := ⟨by decide +kernel, rfl⟩
theorem dX7_give_79 : ml_d cX7_give 79 (.iload_n 1) 1 80 := ⟨by decide +kernel, rfl⟩
theorem dX7_give_80 : ml_d cX7_give 80 (.bipush 8) 2 82 := ⟨by decide +kernel, rfl⟩
theorem dX7_give_82 : ml_d cX7_give 82 (.imul) 1 83 := ⟨by decide +kernel, rfl⟩
theorem dX7_give_83 : ml_d cX7_give 83 (.iload 5) 2 85 := ⟨by decide +kernel, rfl⟩
theorem dX7_give_85 : ml_d cX7_give 85 (.iadd) 1 86 := ⟨by decide +kernel, rfl⟩
theorem dX7_give_86 : ml_d cX7_give 86 (.iaload) 1 87 := ⟨by decide +kernel, rfl⟩
theorem dX7_give_87 : ml_d cX7_give 87 (.iadd) 1 88 := ⟨by decide +kernel, rfl⟩
theorem dX7_give_88 : ml_d cX7_give 88 (.invokestatic 81) 3 91 := ⟨by decide +kernel, rfl⟩
theorem dX7_give_91 : ml_d cX7_give 91 (.iinc 5 1) 3 94 := ⟨by decide +kernel, rfl⟩
theorem dX7_give_94 : ml_j cX7_give 94 .goto 34 97 := ⟨(-60), by decide +kernel, by decide, rfl⟩
theorem dX7_give_97 : ml_d cX7_give 97 (.return_) 1 98 := ⟨by decide +kernel, rfl⟩
def fX7_give_91 (kr : Nat → Int32 → Int32 → Int32 → ml_M → Option ml_M) (k34 : Nat → Int32 → Int32 → Int32 → Int32 → Int32 → ml_M → Option ml_M) (l0 : Nat) (l1 : Int32) (l2 : Int32) (l3 : Int32) (l4 : Int32) (l5 : Int32) (m : ml_M) : Option ml_M :=
    k34 l0 l1 l2 l3 l4 (l5 + (1 : Int32)) m
theorem vX7_give_91 {E : ml_E} (hL : ml_eL E = 6) {rm : ml_M} {dr : Nat} (hr : ∀ (pc pc' : Nat) (lv : List (Nat × ml_X)), ml_d cX7_give pc .return_ 1 pc' → True → ml_V E "LostRoom$Sharings" cX7_give (dr + 1) false rm pc lv []) {kr : Nat → Int32 → Int32 → Int32 → ml_M → Option ml_M} (hkr : ∀ (r1 : Nat) (r2 : Int32) (r3 : Int32) (r4 : Int32) (m m' : ml_M), kr r1 r2 r3 r4 m = some m' → ml_Sn yX7_give cX7_give 6 none dr [ml_r r1, ml_i r2, ml_i r3, ml_i r4] m none m') (hdr : 4 ≤ dr) {k34 : Nat → Int32 → Int32 → Int32 → Int32 → Int32 → ml_M → Option ml_M} (hk34 : ∀ (l0 : Nat) (l1 : Int32) (l2 : Int32) (l3 : Int32) (l4 : Int32) (l5 : Int32) (m : ml_M), k34 l0 l1 l2 l3 l4 l5 m = some rm → ml_V E "LostRoom$Sharings" cX7_give (dr + 1) false m 34 [(0, ml_r l0), (1, ml_i l1), (2, ml_i l2), (3, ml_i l3), (4, ml_i l4), (5, ml_i l5)] []) : ∀ (l0 : Nat) (l1 : Int32) (l2 : Int32) (l3 : Int32) (l4 : Int32) (l5 : Int32) (m : ml_M), fX7_give_91 kr k34 l0 l1 l2 l3 l4 l5 m = some rm → ml_V E "LostRoom$Sharings" cX7_give (dr + 1) false m 91 [(0, ml_r l0), (1, ml_i l1), (2, ml_i l2), (3, ml_i l3), (4, ml_i l4), (5, ml_i l5)] [] := by
  intro l0 l1 l2 l3 l4 l5 m h
  unfold fX7_give_91 at h
  exact ml_iinc (lv' := [(5, ml_i (l5 + (1 : Int32))), (0, ml_r l0), (1, ml_i l1), (2, ml_i l2), (3, ml_i l3), (4, ml_i l4)]) dX7_give_91 5 rfl (congrArg (l5 + ·) kc_i1) (ml_hn hL rfl) rfl <| ml_goto dX7_give_94 <| ml_V.sub [1, 2, 3, 4, 5, 0] rfl (hk34 _ _ _ _ _ _ _ h)
def fX7_give_34 (kr : Nat → Int32 → Int32 → Int32 → ml_M → Option ml_M) : Nat → Nat → Int32 → Int32 → Int32 → Int32 → Int32 → ml_M → Option ml_M
  | 0, _, _, _, _, _, _, _ => none
  | fu + 1, l0, l1, l2, l3, l4, l5, m =>
    if (ml_K m l0).1 = 7 then
    if (ml_I m l0 7) ≤ l5 then
    some m
    else
    ml_b1 (fX10_has l4 l5 m) fun r2275 =>
    if r2275 = 0 then
    fX7_give_91 kr (fX7_give_34 kr fu) l0 l1 l2 l3 l4 l5 m
    else
    ml_let (ml_R m l0 12) fun a2276 =>
    if ml_in m a2276 20 l1 then
    ml_let (ml_sI m a2276 l1.toNatClampNeg l5) fun m2278 =>
    ml_let (ml_R m2278 l0 8) fun a2280 =>
    if ml_in m2278 a2280 20 ((l1 * (8 : Int32)) + l5) then
    ml_b1 (kr l0 (l1 + (1 : Int32)) (l2 ||| ((1 : Int32) <<< (l5 &&& 31))) (l3 + (ml_I m2278 a2280 ((l1 * (8 : Int32)) + l5).toNatClampNeg)) m2278) fun m2283 =>
    fX7_give_91 kr (fX7_give_34 kr fu) l0 l1 l2 l3 l4 l5 m2283
    else none
    else none
    else none
theorem vX7_give_34 {E : ml_E} (hL : ml_eL E = 6) {rm : ml_M} {dr : Nat} (hr : ∀ (pc pc' : Nat) (lv : List (Nat × ml_X)), ml_d cX7_give pc .return_ 1 pc' → True → ml_V E "LostRoom$Sharings" cX7_give (dr + 1) false rm pc lv []) {kr : Nat → Int32 → Int32 → Int32 → ml_M → Option ml_M} (hkr : ∀ (r1 : Nat) (r2 : Int32) (r3 : Int32) (r4 : Int32) (m m' : ml_M), kr r1 r2 r3 r4 m = some m' → ml_Sn yX7_give cX7_give 6 none dr [ml_r r1, ml_i r2, ml_i r3, ml_i r4] m none m') (hdr : 4 ≤ dr) : ∀ (fu : Nat) (l0 : Nat) (l1 : Int32) (l2 : Int32) (l3 : Int32) (l4 : Int32) (l5 : Int32) (m : ml_M), fX7_give_34 kr fu l0 l1 l2 l3 l4 l5 m = some rm → ml_V E "LostRoom$Sharings" cX7_give (dr + 1) false m 34 [(0, ml_r l0), (1, ml_i l1), (2, ml_i l2), (3, ml_i l3), (4, ml_i l4), (5, ml_i l5)] [] := by
  intro fu
  induction fu with
  | zero => intro l0 l1 l2 l3 l4 l5 m h; exact ml_none h
  | succ fu ih =>
    intro l0 l1 l2 l3 l4 l5 m h
    have hk34 := ih
    unfold fX7_give_34 at h
    exact ml_iload dX7_give_34 5 rfl <| ml_aload_n dX7_give_36 0 rfl <| ml_ck_of h fun hc2273 h => ml_getI dX7_give_37 wb_314 hc2273 <| ml_icmp_ge dX7_give_40 h (fun _ h => ml_rv hr dX7_give_97 trivial h) (fun _ h => ml_iload dX7_give_43 4 rfl <| ml_iload dX7_give_45 5 rfl <| ml_b1_of h fun r2275 hv2274 h => ml_callSN (host := "LostRoom") dX7_give_47 (by decide) wb_299 (sX10_has hv2274) rfl (by omega) (Nat.le_of_ble_eq_true rfl) rfl <| ml_if_ne dX7_give_50 h (fun _ h => ml_aload_n dX7_give_56 0 rfl <| ml_getR dX7_give_57 wb_322 hc2273 <| ml_lx (mk := ml_r) h fun a2276 h => ml_iload_n dX7_give_60 1 rfl <| ml_iload dX7_give_61 5 rfl <| ml_ck_of h fun hi2277 h => ml_iast dX7_give_63 hi2277 <| ml_lt (m := m) rfl h fun m2278 em2279 h => ml_aload_n dX7_give_64 0 rfl <| ml_iload_n dX7_give_65 1 rfl <| ml_iconst dX7_give_66 kc_i1 <| ml_iadd dX7_give_67 <| ml_iload_n dX7_give_68 2 rfl <| ml_iconst dX7_give_69 kc_i1 <| ml_iload dX7_give_70 5 rfl <| ml_ishl dX7_give_72 <| ml_ior dX7_give_73 <| ml_iload_n dX7_give_74 3 rfl <| ml_aload_n dX7_give_75 0 rfl <| ml_getR dX7_give_76 wb_317 (ml_kk em2279 hc2273) <| ml_lx (mk := ml_r) h fun a2280 h => ml_iload_n dX7_give_79 1 rfl <| ml_bipush dX7_give_80 kc_b8 <| ml_imul dX7_give_82 <| ml_iload dX7_give_83 5 rfl <| ml_iadd dX7_give_85 <| ml_ck_of h fun hi2281 h => ml_iald dX7_give_86 hi2281 <| ml_iadd dX7_give_87 <| ml_b1_of h fun m2283 hv2282 h => ml_callS dX7_give_88 wm_541 wb_332 (hkr _ _ _ _ _ _ hv2282) rfl (by omega) (Nat.le_of_ble_eq_true rfl) rfl <| ml_V.sub [0, 1, 2, 3, 4, 5] rfl (vX7_give_91 hL hr hkr hdr hk34 _ _ _ _ _ _ _ h)) (fun _ h => ml_goto dX7_give_53 <| ml_V.sub [0, 1, 2, 3, 4, 5] rfl (vX7_give_91 hL hr hkr hdr hk34 _ _ _ _ _ _ _ h)))
def fX7_give_b (kr : Nat → Int32 → Int32 → Int32 → ml_M → Option ml_M) (l0 : Nat) (l1 : Int32) (l2 : Int32) (l3 : Int32) (m : ml_M) : Option ml_M :=
    if (ml_K m l0).1 = 7 then
    if l1 < (ml_I m l0 6) then
    ml_b1 (fX7_open l0 l1 l2 m) fun r2286 =>
    fX7_give_34 kr ml_fu l0 l1 l2 l3 r2286 (0 : Int32) m
    else
    ml_let (ml_R m l0 9) fun a2287 =>
    if ml_in m a2287 22 l2 then
    if (ml_I m a2287 l2.toNatClampNeg) = 0 then
    some m
    else
    ml_b1 (fX7_note l0 l3 m) fun m2290 =>
    some m2290
    else none
    else none
theorem wX7_give_0 {E : ml_E} (hL : ml_eL E = 6) {rm : ml_M} {dr : Nat} (hr : ∀ (pc pc' : Nat) (lv : List (Nat × ml_X)), ml_d cX7_give pc .return_ 1 pc' → True → ml_V E "LostRoom$Sharings" cX7_give (dr + 1) false rm pc lv []) {kr : Nat → Int32 → Int32 → Int32 → ml_M → Option ml_M} (hkr : ∀ (r1 : Nat) (r2 : Int32) (r3 : Int32) (r4 : Int32) (m m' : ml_M), kr r1 r2 r3 r4 m = some m' → ml_Sn yX7_give cX7_give 6 none dr [ml_r r1, ml_i r2, ml_i r3, ml_i r4] m none m') (hdr : 4 ≤ dr) : ∀ (l0 : Nat) (l1 : Int32) (l2 : Int32) (l3 : Int32) (m : ml_M), fX7_give_b kr l0 l1 l2 l3 m = some rm → ml_V E "LostRoom$Sharings" cX7_give (dr + 1) false m 0 [(0, ml_r l0), (1, ml_i l1), (2, ml_i l2), (3, ml_i l3)] [] := by
  intro l0 l1 l2 l3 m h
  unfold fX7_give_b at h
  exact ml_iload_n dX7_give_0 1 rfl <| ml_aload_n dX7_give_1 0 rfl <| ml_ck_of h fun hc2284 h => ml_getI dX7_give_2 wb_326 hc2284 <| ml_icmp_lt dX7_give_5 h (fun _ h => ml_aload_n dX7_give_23 0 rfl <| ml_iload_n dX7_give_24 1 rfl <| ml_iload_n dX7_give_25 2 rfl <| ml_b1_of h fun r2286 hv2285 h => ml_callV dX7_give_26 wm_545 wb_333 hc2284 (sX7_open hv2285) rfl (by omega) (Nat.le_of_ble_eq_true rfl) rfl <| ml_istore (lv' := [(4, ml_i r2286), (0, ml_r l0), (1, ml_i l1), (2, ml_i l2), (3, ml_i l3)]) dX7_give_29 (ml_hn hL rfl) rfl <| ml_iconst dX7_give_31 kc_i0 <| ml_istore (lv' := [(5, ml_i (0 : Int32)), (4, ml_i r2286), (0, ml_r l0), (1, ml_i l1), (2, ml_i l2), (3, ml_i l3)]) dX7_give_32 (ml_hn hL rfl) rfl <| ml_V.sub [2, 3, 4, 5, 1, 0] rfl (vX7_give_34 hL hr hkr hdr ml_fu _ _ _ _ _ _ _ h)) (fun _ h => ml_aload_n dX7_give_8 0 rfl <| ml_getR dX7_give_9 wb_320 hc2284 <| ml_lx (mk := ml_r) h fun a2287 h => ml_iload_n dX7_give_12 2 rfl <| ml_ck_of h fun hi2288 h => ml_zald dX7_give_13 hi2288 <| ml_if_eq dX7_give_14 h (fun _ h => ml_rv hr dX7_give_22 trivial h) (fun _ h => ml_aload_n dX7_give_17 0 rfl <| ml_iload_n dX7_give_18 3 rfl <| ml_b1_of h fun m2290 hv2289 h => ml_callV dX7_give_19 wm_549 wb_334 hc2284 (sX7_note hv2289) rfl (by omega) (Nat.le_of_ble_eq_true rfl) rfl <| ml_rv hr dX7_give_22 trivial h))
def fX7_give : Nat → Nat → Int32 → Int32 → Int32 → ml_M → Option ml_M
  | 0, _, _, _, _, _ => none
  | fu + 1, l0, l1, l2, l3, m => fX7_give_b (fX7_give fu) l0 l1 l2 l3 m
theorem sX7_give_r : ∀ (fu : Nat) (l0 : Nat) (l1 : Int32) (l2 : Int32) (l3 : Int32) (m rm : ml_M), fX7_give fu l0 l1 l2 l3 m = some rm → ml_Sn yX7_give cX7_give 6 none (4 + fu) [ml_r l0, ml_i l1, ml_i l2, ml_i l3] m none rm := by
  intro fu
  induction fu with
  | zero => intro l0 l1 l2 l3 m rm h; exact ml_none h
  | succ fu ih =>
    intro l0 l1 l2 l3 m rm h
    exact ml_Sn_of (P := True) (ini := false) (by decide +kernel) (Nat.le_of_ble_eq_true rfl) (fun h => by cases h) (fun _ => ml_RkV) fun E hL hr => wX7_give_0 (dr := 4 + fu) hL hr ih (Nat.le_add_right _ _) _ _ _ _ _ h
theorem sX7_give {l0 : Nat} {l1 : Int32} {l2 : Int32} {l3 : Int32} {m rm : ml_M} (h : fX7_give 12 l0 l1 l2 l3 m = some rm) : ml_Sn yX7_give cX7_give 6 none 16 [ml_r l0, ml_i l1, ml_i l2, ml_i l3] m none rm := sX7_give_r 12 l0 l1 l2 l3 m rm h
theorem dX7_gather_0 : ml_d cX7_gather 0 (.aload_n 0) 1 1 := ⟨by decide +kernel, rfl⟩
theorem dX7_gather_1 : ml_d cX7_gather 1 (.aload_n 1) 1 2 := ⟨by decide +kernel, rfl⟩
theorem dX7_gather_2 : ml_d cX7_gather 2 (.getfield 41) 3 5 := ⟨by decide +kernel, rfl⟩
theorem dX7_gather_5 : ml_d cX7_gather 5 (.putfield 47) 3 8 := ⟨by decide +kernel, rfl⟩
theorem dX7_gather_8 : ml_d cX7_gather 8 (.aload_n 0) 1 9 := ⟨by decide +kernel, rfl⟩
theorem dX7_gather_9 : ml_d cX7_gather 9 (.aload_n 1) 1 10 := ⟨by decide +kernel, rfl⟩
theorem dX7_gather_10 : ml_d cX7_gather 10 (.getfield 48) 3 13 := ⟨by decide +kernel, rfl⟩
theorem dX7_gather_13 : ml_d cX7_gather 13 (.putfield 52) 3 16 := ⟨by decide +kernel, rfl⟩
theorem dX7_gather_16 : ml_d cX7_gather 16 (.aload_n 0) 1 17 := ⟨by decide +kernel, rfl⟩
theorem dX7_gather_17 : ml_d cX7_gather 17 (.aload_n 1) 1 18 := ⟨by decide +kernel, rfl⟩
theorem dX7_gather_18 : ml_d cX7_gather 18 (.getfield 53) 3 21 := ⟨by decide +kernel, rfl⟩
theorem dX7_gather_21 : ml_d cX7_gather 21 (.putfield 56) 3 24 := ⟨by decide +kernel, rfl⟩
theorem dX7_gather_24 : ml_d cX7_gather 24 (.aload_n 0) 1 25 := ⟨by decide +kernel, rfl⟩
theorem dX7_gather_25 : ml_d cX7_gather 25 (.aload_n 1) 1 26 := ⟨by decide +kernel, rfl⟩
theorem dX7_gather_26 : ml_d cX7_gather 26 (.getfield 57) 3 29 := ⟨by decide +kernel, rfl⟩
theorem dX7_gather_29 : ml_d cX7_gather 29 (.invokevirtual 61) 3 32 := ⟨by decide +kernel, rfl⟩
theorem dX7_gather_32 : ml_d cX7_gather 32 (.aload_n 0) 1 33 := ⟨by decide +kernel, rfl⟩
theorem dX7_gather_33 : ml_d cX7_gather 33 (.aload_n 2) 1 34 := ⟨by decide +kernel, rfl⟩
theorem dX7_gather_34 : ml_d cX7_gather 34 (.iload_n 3) 1 35 := ⟨by decide +kernel, rfl⟩
theorem dX7_gather_35 : ml_d cX7_gather 35 (.invokevirtual 65) 3 38 := ⟨by decide +kernel, rfl⟩
theorem dX7_gather_38 : ml_d cX7_gather 38 (.aload_n 0) 1 39 := ⟨by decide +kernel, rfl⟩
theorem dX7_gather_39 : ml_d cX7_gather 39 (.aload_n 2) 1 40 := ⟨by decide +kernel, rfl⟩
theorem dX7_gather_40 : ml_d cX7_gather 40 (.iload_n 3) 1 41 := ⟨by decide +kernel, rfl⟩
theorem dX7_gather_41 : ml_d cX7_gather 41 (.invokevirtual 69) 3 44 := ⟨by decide +kernel, rfl⟩
theorem dX7_gather_44 : ml_d cX7_gather 44 (.aload_n 0) 1 45 := ⟨by decide +kernel, rfl⟩
theorem dX7_gather_45 : ml_d cX7_gather 45 (.bipush (-9)) 2 47 := ⟨by decide +kernel, rfl⟩
theorem dX7_gather_47 : ml_d cX7_gather 47 (.putfield 72) 3 50 := ⟨by decide +kernel, rfl⟩
theorem dX7_gather_50 : ml_d cX7_gather 50 (.aload_n 0) 1 51 := ⟨by decide +kernel, rfl⟩
theorem dX7_gather_51 : ml_d cX7_gather 51 (.getfield 19) 3 54 := ⟨by decide +kernel, rfl⟩
theorem dX7_gather_54 : ml_d cX7_gather 54 (.iconst 0) 1 55 := ⟨by decide +kernel, rfl⟩
theorem dX7_gather_55 : ml_d cX7_gather 55 (.invokestatic 75) 3 58 := ⟨by decide +kernel, rfl⟩
theorem dX7_gather_58 : ml_d cX7_gather 58 (.aload_n 0) 1 59 := ⟨by decide +kernel, rfl⟩
theorem dX7_gather_59 : ml_d cX7_gather 59 (.getfield 22) 3 62 := ⟨by decide +kernel, rfl⟩
theorem dX7_gather_62 : ml_d cX7_gather 62 (.iconst 0) 1 63 := ⟨by decide +kernel, rfl⟩
theorem dX7_gather_63 : ml_d cX7_gather 63 (.invokestatic 75) 3 66 := ⟨by decide +kernel, rfl⟩
theorem dX7_gather_66 : ml_d cX7_gather 66 (.aload_n 0) 1 67 := ⟨by decide +kernel, rfl⟩
theorem dX7_gather_67 : ml_d cX7_gather 67 (.iconst 0) 1 68 := ⟨by decide +kernel, rfl⟩
theorem dX7_gather_68 : ml_d cX7_gather 68 (.iconst 0) 1 69 := ⟨by decide +kernel, rfl⟩
theorem dX7_gather_69 : ml_d cX7_gather 69 (.iconst 0) 1 70 := ⟨by decide +kernel, rfl⟩
theorem dX7_gather_70 : ml_d cX7_gather 70 (.invokestatic 81) 3 73 := ⟨by decide +kernel, rfl⟩
theorem dX7_gather_73 : ml_d cX7_gather 73 (.iconst 1) 1 74 := ⟨by decide +kernel, rfl⟩
theorem dX7_gather_74 : ml_d cX7_gather 74 (.istore 4) 2 76 := ⟨by decide +kernel, rfl⟩
theorem dX7_gather_76 : ml_d cX7_gather 76 (.iload 4) 2 78 := ⟨by decide +kernel, rfl⟩
theorem dX7_gather_78 : ml_d cX7_gather 78 (.bipush 20) 2 80 := ⟨by decide +kernel, rfl⟩
theorem dX7_gather_80 : ml_j cX7_gather 80 (.if_icmp .gt) 155 83 := ⟨75, by decide +kernel, by decide, rfl⟩
theorem dX7_gather_83 : ml_d cX7_gather 83 (.aload_n 0) 1 84 := ⟨by decide +kernel, rfl⟩
theorem dX7_gather_84 : ml_d cX7_gather 84 (.getfield 19) 3 87 := ⟨by decide +kernel, rfl⟩
theorem dX7_gather_87 : ml_d cX7_gather 87 (.iload 4) 2 89 := ⟨by decide +kernel, rfl⟩
theorem dX7_gather_89 : ml_d cX7_gather 89 (.dup2) 1 90 := ⟨by decide +kernel, rfl⟩
theorem dX7_gather_90 : ml_d cX7_gather 90 (.iaload) 1 91 := ⟨by decide +kernel, rfl⟩
theorem dX7_gather_91 : ml_d cX7_gather 91 (.aload_n 0) 1 92 := ⟨by decide +kernel, rfl⟩
theorem dX7_gather_92 : ml_d cX7_gather 92 (.getfield 19) 3 95 := ⟨by decide +kernel, rfl⟩
theorem dX7_gather_95 : ml_d cX7_gather 95 (.iload 4) 2 97 := ⟨by decide +kernel, rfl⟩
theorem dX7_gather_97 : ml_d cX7_gather 97 (.iconst 1) 1 98 := ⟨by decide +kernel, rfl⟩
theorem dX7_gather_98 : ml_d cX7_gather 98 (.isub) 1 99 := ⟨by decide +kernel, rfl⟩
theorem dX7_gather_99 : ml_d cX7_gather 99 (.iaload) 1 100 := ⟨by decide +kernel, rfl⟩
theorem dX7_gather_100 : ml_d cX7_gather 100 (.iadd) 1 101 := ⟨by decide +kernel, rfl⟩
theorem dX7_gather_101 : ml_d cX7_gather 101 (.iastore) 1 102 := ⟨by decide +kernel, rfl⟩
theorem dX7_gather_102 : ml_d cX7_gather 102 (.iconst 0) 1 103 := ⟨by decide +kernel, rfl⟩
theorem dX7_gather_103 : ml_d cX7_gather 103 (.istore 5) 2 105 := ⟨by decide +kernel, rfl⟩
theorem dX7_gather_105 : ml_d cX7_gather 105 (.iload 5) 2 107 := ⟨by decide +kernel, rfl⟩
theorem dX7_gather_107 : ml_d cX7_gather 107 (.bipush 64) 2 109 := ⟨by decide +kernel, rfl⟩
theorem dX7_gather_109 : ml_j cX7_gather 109 (.if_icmp .ge) 149 112 := ⟨40, by decide +kernel, by decide, rfl⟩
theorem dX7_gather_112 : ml_d cX7_gather 112 (.aload_n 0) 1 113 := ⟨by decide +kernel, rfl⟩
theorem dX7_gather_113 : ml_d cX7_gather 113 (.getfield 22) 3 116 := ⟨by decide +kernel, rfl⟩
theorem dX7_gather_116 : ml_d cX7_gather 116 (.iload 4) 2 118 := ⟨by decide +kernel, rfl⟩
theorem dX7_gather_118 : ml_d cX7_gather 118 (.bipush 64) 2 120 := ⟨by decide +kernel, rfl⟩
theorem dX7_gather_120 : ml_d cX7_gather 120 (.imul) 1 121 := ⟨by decide +kernel, rfl⟩
theorem dX7_gather_121 : ml_d cX7_gather 121 (.iload 5) 2 123 := ⟨by decide +kernel, rfl⟩
theorem dX7_gather_123 : ml_d cX7_gather 123 (.iadd) 1 124 := ⟨by decide +kernel, rfl⟩
theorem dX7_gather_124 : ml_d cX7_gather 124 (.dup2) 1 125 := ⟨by decide +kernel, rfl⟩
theorem dX7_gather_125 : ml_d cX7_gather 125 (.iaload) 1 126 := ⟨by decide +kernel, rfl⟩
theorem dX7_gather_126 : ml_d cX7_gather 126 (.aload_n 0) 1 127 := ⟨by decide +kernel, rfl⟩
theorem dX7_gather_127 : ml_d cX7_gather 127 (.getfield 22) 3 130 := ⟨by decide +kernel, rfl⟩
theorem dX7_gather_130 : ml_d cX7_gather 130 (.iload 4) 2 132 := ⟨by decide +kernel, rfl⟩
theorem dX7_gather_132 : ml_d cX7_gather 132 (.iconst 1) 1 133 := ⟨by decide +kernel, rfl⟩
theorem dX7_gather_133 : ml_d cX7_gather 133 (.isub) 1 134 := ⟨by decide +kernel, rfl⟩
theorem dX7_gather_134 : ml_d cX7_gather 134 (.bipush 64) 2 136 := ⟨by decide +kernel, rfl⟩
theorem dX7_gather_136 : ml_d cX7_gather 136 (.imul) 1 137 := ⟨by decide +kernel, rfl⟩
theorem dX7_gather_137 : ml_d cX7_gather 137 (.iload 5) 2 139 := ⟨by decide +kernel, rfl⟩
theorem dX7_gather_139 : ml_d cX7_gather 139 (.iadd) 1 140 := ⟨by decide +kernel, rfl⟩
theorem dX7_gather_140 : ml_d cX7_gather 140 (.iaload) 1 141 := ⟨by decide +kernel, rfl⟩
theorem dX7_gather_141 : ml_d cX7_gather 141 (.iadd) 1 142 := ⟨by decide +kernel, rfl⟩
theorem dX7_gather_142 : ml_d cX7_gather 142 (.iastore) 1 143 := ⟨by decide +kernel, rfl⟩
theorem dX7_gather_143 : ml_d cX7_gather 143 (.iinc 5 1) 3 146 := ⟨by decide +kernel, rfl⟩
theorem dX7_gather_146 : ml_j cX7_gather 146 .goto 105 149 := ⟨(-41), by decide +kernel, by decide, rfl⟩
theorem dX7_gather_149 : ml_d cX7_gather 149 (.iinc 4 1) 3 152 := ⟨by decide +kernel, rfl⟩
theorem dX7_gather_152 : ml_j cX7_gather 152 .goto 76 155 := ⟨(-76), by decide +kernel, by decide, rfl⟩
theorem dX7_gather_155 : ml_d cX7_gather 155 (.aload_n 0) 1 156 := ⟨by decide +kernel, rfl⟩
theorem dX7_gather_156 : ml_d cX7_gather 156 (.iconst 0) 1 157 := ⟨by decide +kernel, rfl⟩
theorem dX7_gather_157 : ml_d cX7_gather 157 (.putfield 9) 3 160 := ⟨by decide +kernel, rfl⟩
theorem dX7_gather_160 : ml_d cX7_gather 160 (.return_) 1 161 := ⟨by decide +kernel, rfl⟩
def fX7_gather_149 (k76 : Nat → Int32 → ml_M → Option ml_M) (l0 : Nat) (l4 : Int32) (m : ml_M) : Option ml_M :=
    k76 l0 (l4 + (1 : Int32)) m
theorem vX7_gather_149 {E : ml_E} (hL : ml_eL E = 6) {rm : ml_M} (hr : ∀ (pc pc' : Nat) (lv : List (Nat × ml_X)), ml_d cX7_gather pc .return_ 1 pc' → True → ml_V E "LostRoom$Sharings" cX7_gather 17 false rm pc lv []) {k76 : Nat → Int32 → ml_M → Option ml_M} (hk76 : ∀ (l0 : Nat) (l4 : Int32) (m : ml_M), k76 l0 l4 m = some rm → ml_V E "LostRoom$Sharings" cX7_gather 17 false m 76 [(0, ml_r l0), (4, ml_i l4)] []) : ∀ (l0 : Nat) (l4 : Int32) (m : ml_M), fX7_gather_149 k76 l0 l4 m = some rm → ml_V E "LostRoom$Sharings" cX7_gather 17 false m 149 [(0, ml_r l0), (4, ml_i l4)] [] := by
  intro l0 l4 m h
  unfold fX7_gather_149 at h
  exact ml_iinc (lv' := [(4, ml_i (l4 + (1 : Int32))), (0, ml_r l0)]) dX7_gather_149 1 rfl (congrArg (l4 + ·) kc_i1) (ml_hn hL rfl) rfl <| ml_goto dX7_gather_152 <| ml_V.sub [1, 0] rfl (hk76 _ _ _ h)
def fX7_gather_105 (k76 : Nat → Int32 → ml_M → Option ml_M) : Nat → Nat → Int32 → Int32 → ml_M → Option ml_M
  | 0, _, _, _, _ => none
  | fu + 1, l0, l4, l5, m =>
    if (64 : Int32) ≤ l5 then
    fX7_gather_149 k76 l0 l4 m
    else
    if (ml_K m l0).1 = 7 then
    ml_let (ml_R m l0 4) fun a2292 =>
    if ml_in m a2292 20 ((l4 * (64 : Int32)) + l5) then
    ml_let (ml_R m l0 4) fun a2294 =>
    if ml_in m a2294 20 (((l4 - (1 : Int32)) * (64 : Int32)) + l5) then
    if ml_in m a2292 20 ((l4 * (64 : Int32)) + l5) then
    ml_let (ml_sI m a2292 ((l4 * (64 : Int32)) + l5).toNatClampNeg ((ml_I m a2292 ((l4 * (64 : Int32)) + l5).toNatClampNeg) + (ml_I m a2294 (((l4 - (1 : Int32)) * (64 : Int32)) + l5).toNatClampNeg))) fun m2297 =>
    (fX7_gather_105 k76 fu) l0 l4 (l5 + (1 : Int32)) m2297
    else none
    else none
    else none
    else none
theorem vX7_gather_105 {E : ml_E} (hL : ml_eL E = 6) {rm : ml_M} (hr : ∀ (pc pc' : Nat) (lv : List (Nat × ml_X)), ml_d cX7_gather pc .return_ 1 pc' → True → ml_V E "LostRoom$Sharings" cX7_gather 17 false rm pc lv []) {k76 : Nat → Int32 → ml_M → Option ml_M} (hk76 : ∀ (l0 : Nat) (l4 : Int32) (m : ml_M), k76 l0 l4 m = some rm → ml_V E "LostRoom$Sharings" cX7_gather 17 false m 76 [(0, ml_r l0), (4, ml_i l4)] []) : ∀ (fu : Nat) (l0 : Nat) (l4 : Int32) (l5 : Int32) (m : ml_M), fX7_gather_105 k76 fu l0 l4 l5 m = some rm → ml_V E "LostRoom$Sharings" cX7_gather 17 false m 105 [(0, ml_r l0), (4, ml_i l4), (5, ml_i l5)] [] := by
  intro fu
  induction fu with
  | zero => intro l0 l4 l5 m h; exact ml_none h
  | succ fu ih =>
    intro l0 l4 l5 m h
    have hk105 := ih
    unfold fX7_gather_105 at h
    exact ml_iload dX7_gather_105 2 rfl <| ml_bipush dX7_gather_107 kc_b64 <| ml_icmp_ge dX7_gather_109 h (fun _ h => ml_V.sub [0, 1] rfl (vX7_gather_149 hL hr hk76 _ _ _ h)) (fun _ h => ml_aload_n dX7_gather_112 0 rfl <| ml_ck_of h fun hc2291 h => ml_getR dX7_gather_113 wb_327 hc2291 <| ml_lx (mk := ml_r) h fun a2292 h => ml_iload dX7_gather_116 1 rfl <| ml_bipush dX7_gather_118 kc_b64 <| ml_imul dX7_gather_120 <| ml_iload dX7_gather_121 2 rfl <| ml_iadd dX7_gather_123 <| ml_dup2 dX7_gather_124 rfl rfl <| ml_ck_of h fun hi2293 h => ml_iald dX7_gather_125 hi2293 <| ml_aload_n dX7_gather_126 0 rfl <| ml_getR dX7_gather_127 wb_327 hc2291 <| ml_lx (mk := ml_r) h fun a2294 h => ml_iload dX7_gather_130 1 rfl <| ml_iconst dX7_gather_132 kc_i1 <| ml_isub dX7_gather_133 <| ml_bipush dX7_gather_134 kc_b64 <| ml_imul dX7_gather_136 <| ml_iload dX7_gather_137 2 rfl <| ml_iadd dX7_gather_139 <| ml_ck_of h fun hi2295 h => ml_iald dX7_gather_140 hi2295 <| ml_iadd dX7_gather_141 <| ml_ck_of h fun hi2296 h => ml_iast dX7_gather_142 hi2296 <| ml_lt (m := m) rfl h fun m2297 em2298 h => ml_iinc (lv' := [(5, ml_i (l5 + (1 : Int32))), (0, ml_r l0), (4, ml_i l4)]) dX7_gather_143 2 rfl (congrArg (l5 + ·) kc_i1) (ml_hn hL rfl) rfl <| ml_goto dX7_gather_146 <| ml_V.sub [1, 2, 0] rfl (hk105 _ _ _ _ h))
def fX7_gather_155 (l0 : Nat) (m : ml_M) : Option ml_M :=
    if (ml_K m l0).1 = 7 then
    ml_let (ml_sI m l0 0 (0 : Int32)) fun m2300 =>
    some m2300
    else none
theorem vX7_gather_155 {E : ml_E} (hL : ml_eL E = 6) {rm : ml_M} (hr : ∀ (pc pc' : Nat) (lv : List (Nat × ml_X)), ml_d cX7_gather pc .return_ 1 pc' → True → ml_V E "LostRoom$Sharings" cX7_gather 17 false rm pc lv []) : ∀ (l0 : Nat) (m : ml_M), fX7_gather_155 l0 m = some rm → ml_V E "LostRoom$Sharings" cX7_gather 17 false m 155 [(0, ml_r l0)] [] := by
  intro l0 m h
  unfold fX7_gather_155 at h
  exact ml_aload_n dX7_gather_155 0 rfl <| ml_iconst dX7_gather_156 kc_i0 <| ml_ck_of h fun hc2299 h => ml_putZ dX7_gather_157 wb_335 hc2299 (Or.inl rfl) <| ml_lt (m := m) rfl h fun m2300 em2301 h => ml_rv hr dX7_gather_160 trivial h
def fX7_gather_76 : Nat → Nat → Int32 → ml_M → Option ml_M
  | 0, _, _, _ => none
  | fu + 1, l0, l4, m =>
    if (20 : Int32) < l4 then
    fX7_gather_155 l0 m
    else
    if (ml_K m l0).1 = 7 then
    ml_let (ml_R m l0 3) fun a2303 =>
    if ml_in m a2303 20 l4 then
    ml_let (ml_R m l0 3) fun a2305 =>
    if ml_in m a2305 20 (l4 - (1 : Int32)) then
    if ml_in m a2303 20 l4 then
    ml_let (ml_sI m a2303 l4.toNatClampNeg ((ml_I m a2303 l4.toNatClampNeg) + (ml_I m a2305 (l4 - (1 : Int32)).toNatClampNeg))) fun m2308 =>
    fX7_gather_105 (fX7_gather_76 fu) ml_fu l0 l4 (0 : Int32) m2308
    else none
    else none
    else none
    else none
theorem vX7_gather_76 {E : ml_E} (hL : ml_eL E = 6) {rm : ml_M} (hr : ∀ (pc pc' : Nat) (lv : List (Nat × ml_X)), ml_d cX7_gather pc .return_ 1 pc' → True → ml_V E "LostRoom$Sharings" cX7_gather 17 false rm pc lv []) : ∀ (fu : Nat) (l0 : Nat) (l4 : Int32) (m : ml_M), fX7_gather_76 fu l0 l4 m = some rm → ml_V E "LostRoom$Sharings" cX7_gather 17 false m 76 [(0, ml_r l0), (4, ml_i l4)] [] := by
  intro fu
  induction fu with
  | zero => intro l0 l4 m h; exact ml_none h
  | succ fu ih =>
    intro l0 l4 m h
    have hk76 := ih
    unfold fX7_gather_76 at h
    exact ml_iload dX7_gather_76 1 rfl <| ml_bipush dX7_gather_78 kc_b20 <| ml_icmp_gt dX7_gather_80 h (fun _ h => ml_V.sub [0] rfl (vX7_gather_155 hL hr  _ _ h)) (fun _ h => ml_aload_n dX7_gather_83 0 rfl <| ml_ck_of h fun hc2302 h => ml_getR dX7_gather_84 wb_328 hc2302 <| ml_lx (mk := ml_r) h fun a2303 h => ml_iload dX7_gather_87 1 rfl <| ml_dup2 dX7_gather_89 rfl rfl <| ml_ck_of h fun hi2304 h => ml_iald dX7_gather_90 hi2304 <| ml_aload_n dX7_gather_91 0 rfl <| ml_getR dX7_gather_92 wb_328 hc2302 <| ml_lx (mk := ml_r) h fun a2305 h => ml_iload dX7_gather_95 1 rfl <| ml_iconst dX7_gather_97 kc_i1 <| ml_isub dX7_gather_98 <| ml_ck_of h fun hi2306 h => ml_iald dX7_gather_99 hi2306 <| ml_iadd dX7_gather_100 <| ml_ck_of h fun hi2307 h => ml_iast dX7_gather_101 hi2307 <| ml_lt (m := m) rfl h fun m2308 em2309 h => ml_iconst dX7_gather_102 kc_i0 <| ml_istore (lv' := [(5, ml_i (0 : Int32)), (0, ml_r l0), (4, ml_i l4)]) dX7_gather_103 (ml_hn hL rfl) rfl <| ml_V.sub [1, 2, 0] rfl (vX7_gather_105 hL hr hk76 ml_fu _ _ _ _ h))
def fX7_gather (l0 : Nat) (l1 : Nat) (l2 : Nat) (l3 : Int32) (m : ml_M) : Option ml_M :=
    if (ml_K m l1).1 = 1 then
    ml_let (ml_R m l1 1) fun a2311 =>
    if (ml_K m l0).1 = 7 then
    ml_let (ml_sR m l0 5 a2311) fun m2313 =>
    ml_let (ml_sI m2313 l0 6 (ml_I m2313 l1 3)) fun m2315 =>
    ml_let (ml_sI m2315 l0 7 (ml_I m2315 l1 2)) fun m2317 =>
    ml_let (ml_R m2317 l1 0) fun a2319 =>
    ml_b1 (fX7_compareYears l0 a2319 m2317) fun m2321 =>
    if (ml_K m2321 l0).1 = 7 then
    ml_b1 (fX7_countStrangers l0 l2 l3 m2321) fun m2324 =>
    if (ml_K m2324 l0).1 = 7 then
    ml_b1 (fX7_findCovers l0 l2 l3 m2324) fun m2327 =>
    if (ml_K m2327 l0).1 = 7 then
    ml_let (ml_sI m2327 l0 1 (-9 : Int32)) fun m2329 =>
    ml_let (ml_R m2329 l0 3) fun a2331 =>
    ml_b1 (fJ7_fill_53178 a2331 (0 : Int32) m2329) fun m2333 =>
    if (ml_K m2333 l0).1 = 7 then
    ml_let (ml_R m2333 l0 4) fun a2335 =>
    ml_b1 (fJ7_fill_53178 a2335 (0 : Int32) m2333) fun m2337 =>
    ml_b1 (fX7_give 12 l0 (0 : Int32) (0 : Int32) (0 : Int32) m2337) fun m2339 =>
    fX7_gather_76 ml_fu l0 (1 : Int32) m2339
    else none
    else none
    else none
    else none
    else none
    else none
theorem wX7_gather_0 {E : ml_E} (hL : ml_eL E = 6) {rm : ml_M} (hr : ∀ (pc pc' : Nat) (lv : List (Nat × ml_X)), ml_d cX7_gather pc .return_ 1 pc' → True → ml_V E "LostRoom$Sharings" cX7_gather 17 false rm pc lv []) : ∀ (l0 : Nat) (l1 : Nat) (l2 : Nat) (l3 : Int32) (m : ml_M), fX7_gather l0 l1 l2 l3 m = some rm → ml_V E "LostRoom$Sharings" cX7_gather 17 false m 0 [(0, ml_r l0), (1, ml_r l1), (2, ml_r l2), (3, ml_i l3)] [] := by
  intro l0 l1 l2 l3 m h
  unfold fX7_gather at h
  exact ml_aload_n dX7_gather_0 0 rfl <| ml_aload_n dX7_gather_1 1 rfl <| ml_ck_of h fun hc2310 h => ml_getR dX7_gather_2 wb_336 hc2310 <| ml_lx (mk := ml_r) h fun a2311 h => ml_ck_of h fun hc2312 h => ml_putR dX7_gather_5 wb_337 hc2312 <| ml_lt (m := m) rfl h fun m2313 em2314 h => ml_aload_n dX7_gather_8 0 rfl <| ml_aload_n dX7_gather_9 1 rfl <| ml_getI dX7_gather_10 wb_338 (ml_kk em2314 hc2310) <| ml_putI dX7_gather_13 wb_339 (ml_kk em2314 hc2312) <| ml_lt (m := m2313) rfl h fun m2315 em2316 h => ml_aload_n dX7_gather_16 0 rfl <| ml_aload_n dX7_gather_17 1 rfl <| ml_getI dX7_gather_18 wb_340 (ml_kk em2316 (ml_kk em2314 hc2310)) <| ml_putI dX7_gather_21 wb_341 (ml_kk em2316 (ml_kk em2314 hc2312)) <| ml_lt (m := m2315) rfl h fun m2317 em2318 h => ml_aload_n dX7_gather_24 0 rfl <| ml_aload_n dX7_gather_25 1 rfl <| ml_getR dX7_gather_26 wb_342 (ml_kk em2318 (ml_kk em2316 (ml_kk em2314 hc2310))) <| ml_lx (mk := ml_r) h fun a2319 h => ml_b1_of h fun m2321 hv2320 h => ml_callV dX7_gather_29 wm_557 wb_343 (ml_kk em2318 (ml_kk em2316 (ml_kk em2314 hc2312))) (sX7_compareYears hv2320) rfl (Nat.le_of_ble_eq_true rfl) (Nat.le_of_ble_eq_true rfl) rfl <| ml_aload_n dX7_gather_32 0 rfl <| ml_aload_n dX7_gather_33 2 rfl <| ml_iload_n dX7_gather_34 3 rfl <| ml_ck_of h fun hc2323 h => ml_b1_of h fun m2324 hv2322 h => ml_callV dX7_gather_35 wm_561 wb_344 hc2323 (sX7_countStrangers hv2322) rfl (Nat.le_of_ble_eq_true rfl) (Nat.le_of_ble_eq_true rfl) rfl <| ml_aload_n dX7_gather_38 0 rfl <| ml_aload_n dX7_gather_39 2 rfl <| ml_iload_n dX7_gather_40 3 rfl <| ml_ck_of h fun hc2326 h => ml_b1_of h fun m2327 hv2325 h => ml_callV dX7_gather_41 wm_565 wb_345 hc2326 (sX7_findCovers hv2325) rfl (Nat.le_of_ble_eq_true rfl) (Nat.le_of_ble_eq_true rfl) rfl <| ml_aload_n dX7_gather_44 0 rfl <| ml_bipush dX7_gather_45 kc_bm9 <| ml_ck_of h fun hc2328 h => ml_putI dX7_gather_47 wb_321 hc2328 <| ml_lt (m := m2327) rfl h fun m2329 em2330 h => ml_aload_n dX7_gather_50 0 rfl <| ml_getR dX7_gather_51 wb_328 (ml_kk em2330 hc2328) <| ml_lx (mk := ml_r) h fun a2331 h => ml_iconst dX7_gather_54 kc_i0 <| ml_b1_of h fun m2333 hv2332 h => ml_callS dX7_gather_55 wm_532 wb_319 (sJ7_fill_53178 hv2332) rfl (Nat.le_of_ble_eq_true rfl) (Nat.le_of_ble_eq_true rfl) rfl <| ml_aload_n dX7_gather_58 0 rfl <| ml_ck_of h fun hc2334 h => ml_getR dX7_gather_59 wb_327 hc2334 <| ml_lx (mk := ml_r) h fun a2335 h => ml_iconst dX7_gather_62 kc_i0 <| ml_b1_of h fun m2337 hv2336 h => ml_callS dX7_gather_63 wm_532 wb_319 (sJ7_fill_53178 hv2336) rfl (Nat.le_of_ble_eq_true rfl) (Nat.le_of_ble_eq_true rfl) rfl <| ml_aload_n dX7_gather_66 0 rfl <| ml_iconst dX7_gather_67 kc_i0 <| ml_iconst dX7_gather_68 kc_i0 <| ml_iconst dX7_gather_69 kc_i0 <| ml_b1_of h fun m2339 hv2338 h => ml_callS dX7_gather_70 wm_541 wb_332 (sX7_give hv2338) rfl (Nat.le_of_ble_eq_true rfl) (Nat.le_of_ble_eq_true rfl) rfl <| ml_iconst dX7_gather_73 kc_i1 <| ml_istore (lv' := [(4, ml_i (1 : Int32)), (0, ml_r l0), (1, ml_r l1), (2, ml_r l2), (3, ml_i l3)]) dX7_gather_74 (ml_hn hL rfl) rfl <| ml_V.sub [1, 0] rfl (vX7_gather_76 hL hr  ml_fu _ _ _ h)
theorem sX7_gather {l0 : Nat} {l1 : Nat} {l2 : Nat} {l3 : Int32} {m : ml_M} {rm : ml_M} (h : fX7_gather l0 l1 l2 l3 m = some rm) : ml_Sn yX7_gather cX7_gather 6 none 17 [ml_r l0, ml_r l1, ml_r l2, ml_i l3] m none rm :=
  ml_Sn_of (P := True) (ini := false) (by decide +kernel) (Nat.le_of_ble_eq_true rfl) (fun h => by cases h) (fun _ => ml_RkV) fun E hL hr => wX7_gather_0 hL hr _ _ _ _ _ h
theorem dX10_refreshSharings_0 : ml_d cX10_refreshSharings 0 (.aload_n 0) 1 1 := ⟨by decide +kernel, rfl⟩
theorem dX10_refreshSharings_1 : ml_d cX10_refreshSharings 1 (.getfield 61) 3 4 := ⟨by decide +kernel, rfl⟩
theorem dX10_refreshSharings_4 : ml_d cX10_refreshSharings 4 (.getfield 130) 3 7 := ⟨by decide +kernel, rfl⟩
theorem dX10_refreshSharings_7 : ml_j cX10_refreshSharings 7 (.ifCond .eq) 29 10 := ⟨22, by decide +kernel, by decide, rfl⟩
theorem dX10_refreshSharings_10 : ml_d cX10_refreshSharings 10 (.aload_n 0) 1 11 := ⟨by decide +kernel, rfl⟩
theorem dX10_refreshSharings_11 : ml_d cX10_refreshSharings 11 (.getfield 61) 3 14 := ⟨by decide +kernel, rfl⟩
theorem dX10_refreshSharings_14 : ml_d cX10_refreshSharings 14 (.aload_n 0) 1 15 := ⟨by decide +kernel, rfl⟩
theorem dX10_refreshSharings_15 : ml_d cX10_refreshSharings 15 (.getfield 26) 3 18 := ⟨by decide +kernel, rfl⟩
theorem dX10_refreshSharings_18 : ml_d cX10_refreshSharings 18 (.aload_n 0) 1 19 := ⟨by decide +kernel, rfl⟩
theorem dX10_refreshSharings_19 : ml_d cX10_refreshSharings 19 (.getfield 36) 3 22 := ⟨by decide +kernel, rfl⟩
theorem dX10_refreshSharings_22 : ml_d cX10_refreshSharings 22 (.aload_n 0) 1 23 := ⟨by decide +kernel, rfl⟩
theorem dX10_refreshSharings_23 : ml_d cX10_refreshSharings 23 (.getfield 118) 3 26 := ⟨by decide +kernel, rfl⟩
theorem dX10_refreshSharings_26 : ml_d cX10_refreshSharings 26 (.invokevirtual 414) 3 29 := ⟨by decide +kernel, rfl⟩
theorem dX10_refreshSharings_29 : ml_d cX10_refreshSharings 29 (.return_) 1 30 := ⟨by decide +kernel, rfl⟩
def fX10_refreshSharings (l0 : Nat) (m : ml_M) : Option ml_M :=
    if (ml_K m l0).1 = 10 then
    ml_let (ml_R m l0 12) fun a2341 =>
    if (ml_K m a2341).1 = 7 then
    if (ml_I m a2341 0) = 0 then
    some m
    else
    ml_let (ml_R m l0 12) fun a2343 =>
    ml_let (ml_R m l0 2) fun a2344 =>
    ml_let (ml_R m l0 4) fun a2345 =>
    if (ml_K m a2343).1 = 7 then
    ml_b1 (fX7_gather a2343 a2344 a2345 (ml_I m l0 5) m) fun m2348 =>
    some m2348
    else none
    else none
    else none
theorem wX10_refreshSharings_0 {E : ml_E} (hL : ml_eL E = 1) {rm : ml_M} (hr : ∀ (pc pc' : Nat) (lv : List (Nat × ml_X)), ml_d cX10_refreshSharings pc .return_ 1 pc' → True → ml_V E "LostRoom" cX10_refreshSharings 18 false rm pc lv []) : ∀ (l0 : Nat) (m : ml_M), fX10_refreshSharings l0 m = some rm → ml_V E "LostRoom" cX10_refreshSharings 18 false m 0 [(0, ml_r l0)] [] := by
  intro l0 m h
  unfold fX10_refreshSharings at h
  exact ml_aload_n dX10_refreshSharings_0 0 rfl <| ml_ck_of h fun hc2340 h => ml_getR dX10_refreshSharings_1 wb_185 hc2340 <| ml_lx (mk := ml_r) h fun a2341 h => ml_ck_of h fun hc2342 h => ml_getI dX10_refreshSharings_4 wb_346 hc2342 <| ml_if_eq dX10_refreshSharings_7 h (fun _ h => ml_rv hr dX10_refreshSharings_29 trivial h) (fun _ h => ml_aload_n dX10_refreshSharings_10 0 rfl <| ml_getR dX10_refreshSharings_11 wb_185 hc2340 <| ml_lx (mk := ml_r) h fun a2343 h => ml_aload_n dX10_refreshSharings_14 0 rfl <| ml_getR dX10_refreshSharings_15 wb_189 hc2340 <| ml_lx (mk := ml_r) h fun a2344 h => ml_aload_n dX10_refreshSharings_18 0 rfl <| ml_getR dX10_refreshSharings_19 wb_218 hc2340 <| ml_lx (mk := ml_r) h fun a2345 h => ml_aload_n dX10_refreshSharings_22 0 rfl <| ml_getI dX10_refreshSharings_23 wb_217 hc2340 <| ml_ck_of h fun hc2347 h => ml_b1_of h fun m2348 hv2346 h => ml_callV dX10_refreshSharings_26 wm_569 wb_347 hc2347 (sX7_gather hv2346) rfl (Nat.le_of_ble_eq_true rfl) (Nat.le_of_ble_eq_true rfl) rfl <| ml_rv hr dX10_refreshSharings_29 trivial h)
theorem sX10_refreshSharings {l0 : Nat} {m : ml_M} {rm : ml_M} (h : fX10_refreshSharings l0 m = some rm) : ml_Sn yX10_refreshSharings cX10_refreshSharings 1 none 18 [ml_r l0] m none rm :=
  ml_Sn_of (P := True) (ini := false) (by decide +kernel) (Nat.le_of_ble_eq_true rfl) (fun h => by cases h) (fun _ => ml_RkV) fun E hL hr => wX10_refreshSharings_0 hL hr _ _ h
theorem dX10_share_0 : ml_d cX10_share 0 (.iload_n 1) 1 1 := ⟨by decide +kernel, rfl⟩
theorem dX10_share_1 : ml_d cX10_share 1 (.invokestatic 82) 3 4 := ⟨by decide +kernel, rfl⟩
theorem dX10_share_4 : ml_j cX10_share 4 (.ifCond .ne) 9 7 := ⟨5, by decide +kernel, by decide, rfl⟩
theorem dX10_share_7 : ml_d cX10_share 7 (.iconst (-1)) 1 8 := ⟨by decide +kernel, rfl⟩
theorem dX10_share_8 : ml_d cX10_share 8 (.ireturn) 1 9 := ⟨by decide +kernel, rfl⟩
theorem dX10_share_9 : ml_d cX10_share 9 (.aload_n 0) 1 10 := ⟨by decide +kernel, rfl⟩
theorem dX10_share_10 : ml_d cX10_share 10 (.invokevirtual 243) 3 13 := ⟨by decide +kernel, rfl⟩
theorem dX10_share_13 : ml_d cX10_share 13 (.aload_n 0) 1 14 := ⟨by decide +kernel, rfl⟩
theorem dX10_share_14 : ml_d cX10_share 14 (.getfield 61) 3 17 := ⟨by decide +kernel, rfl⟩
theorem dX10_share_17 : ml_d cX10_share 17 (.getfield 246) 3 20 := ⟨by decide +kernel, rfl⟩
theorem dX10_share_20 : ml_d cX10_share 20 (.bipush (-9)) 2 22 := ⟨by decide +kernel, rfl⟩
theorem dX10_share_22 : ml_j cX10_share 22 (.if_icmp .ne) 28 25 := ⟨6, by decide +kernel, by decide, rfl⟩
theorem dX10_share_25 : ml_d cX10_share 25 (.bipush (-9)) 2 27 := ⟨by decide +kernel, rfl⟩
theorem dX10_share_27 : ml_d cX10_share 27 (.ireturn) 1 28 := ⟨by decide +kernel, rfl⟩
theorem dX10_share_28 : ml_d cX10_share 28 (.aload_n 0) 1 29 := ⟨by decide +kernel, rfl⟩
theorem dX10_share_29 : ml_d cX10_share 29 (.getfield 11) 3 32 := ⟨by decide +kernel, rfl⟩
theorem dX10_share_32 : ml_d cX10_share 32 (.iload_n 1) 1 33 := ⟨by decide +kernel, rfl⟩
theorem dX10_share_33 : ml_d cX10_share 33 (.aload_n 0) 1 34 := ⟨by decide +kernel, rfl⟩
theorem dX10_share_34 : ml_d cX10_share 34 (.getfield 61) 3 37 := ⟨by decide +kernel, rfl⟩
theorem dX10_share_37 : ml_d cX10_share 37 (.getfield 249) 3 40 := ⟨by decide +kernel, rfl⟩
theorem dX10_share_40 : ml_d cX10_share 40 (.aload_n 0) 1 41 := ⟨by decide +kernel, rfl⟩
theorem dX10_share_41 : ml_d cX10_share 41 (.getfield 26) 3 44 := ⟨by decide +kernel, rfl⟩
theorem dX10_share_44 : ml_d cX10_share 44 (.getfield 135) 3 47 := ⟨by decide +kernel, rfl⟩
theorem dX10_share_47 : ml_d cX10_share 47 (.invokestatic 252) 3 50 := ⟨by decide +kernel, rfl⟩
theorem dX10_share_50 : ml_d cX10_share 50 (.aastore) 1 51 := ⟨by decide +kernel, rfl⟩
theorem dX10_share_51 : ml_d cX10_share 51 (.aload_n 0) 1 52 := ⟨by decide +kernel, rfl⟩
theorem dX10_share_52 : ml_d cX10_share 52 (.getfield 61) 3 55 := ⟨by decide +kernel, rfl⟩
theorem dX10_share_55 : ml_d cX10_share 55 (.getfield 246) 3 58 := ⟨by decide +kernel, rfl⟩
theorem dX10_share_58 : ml_d cX10_share 58 (.ireturn) 1 59 := ⟨by decide +kernel, rfl⟩
def fX10_share (l0 : Nat) (l1 : Int32) (m : ml_M) : Option (Int32 × ml_M) :=
    ml_b1 (fX10_isRow l1 m) fun r2350 =>
    if r2350 = 0 then
    some ((-1 : Int32), m)
    else
    if (ml_K m l0).1 = 10 then
    ml_b1 (fX10_refreshSharings l0 m) fun m2353 =>
    if (ml_K m2353 l0).1 = 10 then
    ml_let (ml_R m2353 l0 12) fun a2355 =>
    if (ml_K m2353 a2355).1 = 7 then
    if (ml_I m2353 a2355 1) = (-9 : Int32) then
    some ((-9 : Int32), m2353)
    else
    ml_let (ml_R m2353 l0 0) fun a2357 =>
    ml_let (ml_R m2353 l0 12) fun a2358 =>
    if (ml_K m2353 a2358).1 = 7 then
    ml_let (ml_R m2353 a2358 2) fun a2360 =>
    ml_let (ml_R m2353 l0 2) fun a2361 =>
    if (ml_K m2353 a2361).1 = 1 then
    ml_b2 (fJ7_copyOf_59c91 a2360 (ml_I m2353 a2361 3) m2353) fun a2364 m2365 =>
    if (ml_K m2365 a2364).1 = 20 then
    if ml_in m2365 a2357 23 l1 then
    ml_let (ml_sR m2365 a2357 l1.toNatClampNeg a2364) fun m2368 =>
    if (ml_K m2368 l0).1 = 10 then
    ml_let (ml_R m2368 l0 12) fun a2371 =>
    if (ml_K m2368 a2371).1 = 7 then
    some ((ml_I m2368 a2371 1), m2368)
    else none
    else none
    else none
    else none
    else none
    else none
    else none
    else none
    else none
theorem wX10_share_0 {E : ml_E} (hL : ml_eL E = 2) {rv : Int32} {rm : ml_M} (hr : ∀ (pc pc' : Nat) (lv : List (Nat × ml_X)), ml_d cX10_share pc .ireturn 1 pc' → True → ml_V E "LostRoom" cX10_share 19 false rm pc lv [ml_i rv]) : ∀ (l0 : Nat) (l1 : Int32) (m : ml_M), fX10_share l0 l1 m = some (rv, rm) → ml_V E "LostRoom" cX10_share 19 false m 0 [(0, ml_r l0), (1, ml_i l1)] [] := by
  intro l0 l1 m h
  unfold fX10_share at h
  exact ml_iload_n dX10_share_0 1 rfl <| ml_b1_of h fun r2350 hv2349 h => ml_callS dX10_share_1 wm_128 wb_97 (sX10_isRow hv2349) rfl (Nat.le_of_ble_eq_true rfl) (Nat.le_of_ble_eq_true rfl) rfl <| ml_if_ne dX10_share_4 h (fun _ h => ml_aload_n dX10_share_9 0 rfl <| ml_ck_of h fun hc2352 h => ml_b1_of h fun m2353 hv2351 h => ml_callV dX10_share_10 wm_573 wb_348 hc2352 (sX10_refreshSharings hv2351) rfl (Nat.le_of_ble_eq_true rfl) (Nat.le_of_ble_eq_true rfl) rfl <| ml_aload_n dX10_share_13 0 rfl <| ml_ck_of h fun hc2354 h => ml_getR dX10_share_14 wb_185 hc2354 <| ml_lx (mk := ml_r) h fun a2355 h => ml_ck_of h fun hc2356 h => ml_getI dX10_share_17 wb_349 hc2356 <| ml_bipush dX10_share_20 kc_bm9 <| ml_icmp_ne dX10_share_22 h (fun _ h => ml_aload_n dX10_share_28 0 rfl <| ml_getR dX10_share_29 wb_98 hc2354 <| ml_lx (mk := ml_r) h fun a2357 h => ml_iload_n dX10_share_32 1 rfl <| ml_aload_n dX10_share_33 0 rfl <| ml_getR dX10_share_34 wb_185 hc2354 <| ml_lx (mk := ml_r) h fun a2358 h => ml_ck_of h fun hc2359 h => ml_getR dX10_share_37 wb_350 hc2359 <| ml_lx (mk := ml_r) h fun a2360 h => ml_aload_n dX10_share_40 0 rfl <| ml_getR dX10_share_41 wb_189 hc2354 <| ml_lx (mk := ml_r) h fun a2361 h => ml_ck_of h fun hc2362 h => ml_getI dX10_share_44 wb_190 hc2362 <| ml_b2_of h fun a2364 m2365 hv2363 h => ml_callS dX10_share_47 wm_578 wb_351 (sJ7_copyOf_59c91 hv2363) rfl (Nat.le_of_ble_eq_true rfl) (Nat.le_of_ble_eq_true rfl) rfl <| ml_ck_of h fun hc2367 h => ml_ck_of h fun hi2366 h => ml_aastA (kd := 23) (ka := 20) dX10_share_50 (by decide) hi2366 hc2367 <| ml_lt (m := m2365) rfl h fun m2368 em2369 h => ml_aload_n dX10_share_51 0 rfl <| ml_ck_of h fun hc2370 h => ml_getR dX10_share_52 wb_185 hc2370 <| ml_lx (mk := ml_r) h fun a2371 h => ml_ck_of h fun hc2372 h => ml_getI dX10_share_55 wb_349 hc2372 <| ml_rI (mk := ml_i) hr dX10_share_58 (fun _ => trivial) h) (fun _ h => ml_bipush dX10_share_25 kc_bm9 <| ml_rI (mk := ml_i) hr dX10_share_27 (fun _ => trivial) h)) (fun _ h => ml_iconst dX10_share_7 kc_im1 <| ml_rI (mk := ml_i) hr dX10_share_8 (fun _ => trivial) h)
theorem sX10_share {l0 : Nat} {l1 : Int32} {m : ml_M} {rv : Int32} {rm : ml_M} (h : fX10_share l0 l1 m = some (rv, rm)) : ml_Sn yX10_share cX10_share 2 (some .int) 19 [ml_r l0, ml_i l1] m (some (ml_i rv)) rm :=
  ml_Sn_of (P := True) (ini := false) (by decide +kernel) (Nat.le_of_ble_eq_true rfl) (fun h => by cases h) (fun _ => ml_RkI rv) fun E hL hr => wX10_share_0 hL hr _ _ _ h
theorem dX11_beginSharings_0 : ml_d cX11_beginSharings 0 (.aload_n 0) 1 1 := ⟨by decide +kernel, rfl⟩
theorem dX11_beginSharings_1 : ml_d cX11_beginSharings 1 (.iconst 0) 1 2 := ⟨by decide +kernel, rfl⟩
theorem dX11_beginSharings_2 : ml_d cX11_beginSharings 2 (.putfield 276) 3 5 := ⟨by decide +kernel, rfl⟩
theorem dX11_beginSharings_5 : ml_d cX11_beginSharings 5 (.iconst 0) 1 6 := ⟨by decide +kernel, rfl⟩
theorem dX11_beginSharings_6 : ml_d cX11_beginSharings 6 (.istore_n 1) 1 7 := ⟨by decide +kernel, rfl⟩
theorem dX11_beginSharings_7 : ml_d cX11_beginSharings 7 (.iload_n 1) 1 8 := ⟨by decide +kernel, rfl⟩
theorem dX11_beginSharings_8 : ml_d cX11_beginSharings 8 (.bipush 8) 2 10 := ⟨by decide +kernel, rfl⟩
theorem dX11_beginSharings_10 : ml_j cX11_beginSharings 10 (.if_icmp .ge) 26 13 := ⟨16, by decide +kernel, by decide, rfl⟩
theorem dX11_beginSharings_13 : ml_d cX11_beginSharings 13 (.aload_n 0) 1 14 := ⟨by decide +kernel, rfl⟩
theorem dX11_beginSharings_14 : ml_d cX11_beginSharings 14 (.getfield 53) 3 17 := ⟨by decide +kernel, rfl⟩
theorem dX11_beginSharings_17 : ml_d cX11_beginSharings 17 (.iload_n 1) 1 18 := ⟨by decide +kernel, rfl⟩
theorem dX11_beginSharings_18 : ml_d cX11_beginSharings 18 (.iconst (-1)) 1 19 := ⟨by decide +kernel, rfl⟩
theorem dX11_beginSharings_19 : ml_d cX11_beginSharings 19 (.iastore) 1 20 := ⟨by decide +kernel, rfl⟩
theorem dX11_beginSharings_20 : ml_d cX11_beginSharings 20 (.iinc 1 1) 3 23 := ⟨by decide +kernel, rfl⟩
theorem dX11_beginSharings_23 : ml_j cX11_beginSharings 23 .goto 7 26 := ⟨(-16), by decide +kernel, by decide, rfl⟩
theorem dX11_beginSharings_26 : ml_d cX11_beginSharings 26 (.return_) 1 27 := ⟨by decide +kernel, rfl⟩
def fX11_beginSharings_7 : Nat → Nat → Int32 → ml_M → Option ml_M
  | 0, _, _, _ => none
  | fu + 1, l0, l1, m =>
    if (8 : Int32) ≤ l1 then
    some m
    else
    if (ml_K m l0).1 = 11 then
    ml_let (ml_R m l0 27) fun a2374 =>
    if ml_in m a2374 20 l1 then
    ml_let (ml_sI m a2374 l1.toNatClampNeg (-1 : Int32)) fun m2376 =>
    (fX11_beginSharings_7 fu) l0 (l1 + (1 : Int32)) m2376
    else none
    else none
theorem vX11_beginSharings_7 {E : ml_E} (hL : ml_eL E = 2) {rm : ml_M} (hr : ∀ (pc pc' : Nat) (lv : List (Nat × ml_X)), ml_d cX11_beginSharings pc .return_ 1 pc' → True → ml_V E "LostRoomModel" cX11_beginSharings 2 false rm pc lv []) : ∀ (fu : Nat) (l0 : Nat) (l1 : Int32) (m : ml_M), fX11_beginSharings_7 fu l0 l1 m = some rm → ml_V E "LostRoomModel" cX11_beginSharings 2 false m 7 [(0, ml_r l0), (1, ml_i l1)] [] := by
  intro fu
  induction fu with
  | zero => intro l0 l1 m h; exact ml_none h
  | succ fu ih =>
    intro l0 l1 m h
    have hk7 := ih
    unfold fX11_beginSharings_7 at h
    exact ml_iload_n dX11_beginSharings_7 1 rfl <| ml_bipush dX11_beginSharings_8 kc_b8 <| ml_icmp_ge dX11_beginSharings_10 h (fun _ h => ml_rv hr dX11_beginSharings_26 trivial h) (fun _ h => ml_aload_n dX11_beginSharings_13 0 rfl <| ml_ck_of h fun hc2373 h => ml_getR dX11_beginSharings_14 wb_352 hc2373 <| ml_lx (mk := ml_r) h fun a2374 h => ml_iload_n dX11_beginSharings_17 1 rfl <| ml_iconst dX11_beginSharings_18 kc_im1 <| ml_ck_of h fun hi2375 h => ml_iast dX11_beginSharings_19 hi2375 <| ml_lt (m := m) rfl h fun m2376 em2377 h => ml_iinc (lv' := [(1, ml_i (l1 + (1 : Int32))), (0, ml_r l0)]) dX11_beginSharings_20 1 rfl (congrArg (l1 + ·) kc_i1) (ml_hn hL rfl) rfl <| ml_goto dX11_beginSharings_23 <| ml_V.sub [1, 0] rfl (hk7 _ _ _ h))
def fX11_beginSharings (l0 : Nat) (m : ml_M) : Option ml_M :=
    if (ml_K m l0).1 = 11 then
    ml_let (ml_sI m l0 28 (0 : Int32)) fun m2379 =>
    fX11_beginSharings_7 ml_fu l0 (0 : Int32) m2379
    else none
theorem wX11_beginSharings_0 {E : ml_E} (hL : ml_eL E = 2) {rm : ml_M} (hr : ∀ (pc pc' : Nat) (lv : List (Nat × ml_X)), ml_d cX11_beginSharings pc .return_ 1 pc' → True → ml_V E "LostRoomModel" cX11_beginSharings 2 false rm pc lv []) : ∀ (l0 : Nat) (m : ml_M), fX11_beginSharings l0 m = some rm → ml_V E "LostRoomModel" cX11_beginSharings 2 false m 0 [(0, ml_r l0)] [] := by
  intro l0 m h
  unfold fX11_beginSharings at h
  exact ml_aload_n dX11_beginSharings_0 0 rfl <| ml_iconst dX11_beginSharings_1 kc_i0 <| ml_ck_of h fun hc2378 h => ml_putZ dX11_beginSharings_2 wb_353 hc2378 (Or.inl rfl) <| ml_lt (m := m) rfl h fun m2379 em2380 h => ml_iconst dX11_beginSharings_5 kc_i0 <| ml_istore_n (lv' := [(1, ml_i (0 : Int32)), (0, ml_r l0)]) dX11_beginSharings_6 (ml_hn hL rfl) rfl <| ml_V.sub [1, 0] rfl (vX11_beginSharings_7 hL hr  ml_fu _ _ _ h)
theorem sX11_beginSharings {l0 : Nat} {m : ml_M} {rm : ml_M} (h : fX11_beginSharings l0 m = some rm) : ml_Sn yX11_beginSharings cX11_beginSharings 2 none 2 [ml_r l0] m none rm :=
  ml_Sn_of (P := True) (ini := false) (by decide +kernel) (Nat.le_of_ble_eq_true rfl) (fun h => by cases h) (fun _ => ml_RkV) fun E hL hr => wX11_beginSharings_0 hL hr _ _ h
theorem dX11_isTaken_0 : ml_d cX11_isTaken 0 (.iconst 0) 1 1 := ⟨by decide +kernel, rfl⟩
theorem dX11_isTaken_1 : ml_d cX11_isTaken 1 (.istore_n 3) 1 2 := ⟨by decide +kernel, rfl⟩
theorem dX11_isTaken_2 : ml_d cX11_isTaken 2 (.iconst 0) 1 3 := ⟨by decide +kernel, rfl⟩
theorem dX11_isTaken_3 : ml_d cX11_isTaken 3 (.istore 4) 2 5 := ⟨by decide +kernel, rfl⟩
theorem dX11_isTaken_5 : ml_d cX11_isTaken 5 (.iload 4) 2 7 := ⟨by decide +kernel, rfl⟩
theorem dX11_isTaken_7 : ml_d cX11_isTaken 7 (.iload_n 2) 1 8 := ⟨by decide +kernel, rfl⟩
theorem dX11_isTaken_8 : ml_j cX11_isTaken 8 (.if_icmp .ge) 38 11 := ⟨30, by decide +kernel, by decide, rfl⟩
theorem dX11_isTaken_11 : ml_d cX11_isTaken 11 (.iload_n 3) 1 12 := ⟨by decide +kernel, rfl⟩
theorem dX11_isTaken_12 : ml_j cX11_isTaken 12 (.ifCond .ne) 26 15 := ⟨14, by decide +kernel, by decide, rfl⟩
theorem dX11_isTaken_15 : ml_d cX11_isTaken 15 (.aload_n 0) 1 16 := ⟨by decide +kernel, rfl⟩
theorem dX11_isTaken_16 : ml_d cX11_isTaken 16 (.getfield 53) 3 19 := ⟨by decide +kernel, rfl⟩
theorem dX11_isTaken_19 : ml_d cX11_isTaken 19 (.iload 4) 2 21 := ⟨by decide +kernel, rfl⟩
theorem dX11_isTaken_21 : ml_d cX11_isTaken 21 (.iaload) 1 22 := ⟨by decide +kernel, rfl⟩
theorem dX11_isTaken_22 : ml_d cX11_isTaken 22 (.iload_n 1) 1 23 := ⟨by decide +kernel, rfl⟩
theorem dX11_isTaken_23 : ml_j cX11_isTaken 23 (.if_icmp .ne) 30 26 := ⟨7, by decide +kernel, by decide, rfl⟩
theorem dX11_isTaken_26 : ml_d cX11_isTaken 26 (.iconst 1) 1 27 := ⟨by decide +kernel, rfl⟩
theorem dX11_isTaken_27 : ml_j cX11_isTaken 27 .goto 31 30 := ⟨4, by decide +kernel, by decide, rfl⟩
theorem dX11_isTaken_30 : ml_d cX11_isTaken 30 (.iconst 0) 1 31 := ⟨by decide +kernel, rfl⟩
theorem dX11_isTaken_31 : ml_d cX11_isTaken 31 (.istore_n 3) 1 32 := ⟨by decide +kernel, rfl⟩
theorem dX11_isTaken_32 : ml_d cX11_isTaken 32 (.iinc 4 1) 3 35 := ⟨by decide +kernel, rfl⟩
theorem dX11_isTaken_35 : ml_j cX11_isTaken 35 .goto 5 38 := ⟨(-30), by decide +kernel, by decide, rfl⟩
theorem dX11_isTaken_38 : ml_d cX11_isTaken 38 (.iload_n 3) 1 39 := ⟨by decide +kernel, rfl⟩
theorem dX11_isTaken_39 : ml_d cX11_isTaken 39 (.ireturn) 1 40 := ⟨by decide +kernel, rfl⟩
def fX11_isTaken_31 (k5 : Nat → Int32 → Int32 → Int32 → Int32 → ml_M → Option Int32) (l0 : Nat) (l1 : Int32) (l2 : Int32) (l4 : Int32) (t0 : Int32) (m : ml_M) : Option Int32 :=
    k5 l0 l1 l2 t0 (l4 + (1 : Int32)) m
theorem vX11_isTaken_31 {E : ml_E} (hL : ml_eL E = 5) {rv : Int32} {m : ml_M} (hr : ∀ (pc pc' : Nat) (lv : List (Nat × ml_X)), ml_d cX11_isTaken pc .ireturn 1 pc' → (rv = 0 ∨ rv = 1) → ml_V E "LostRoomModel" cX11_isTaken 2 false m pc lv [ml_i rv]) {k5 : Nat → Int32 → Int32 → Int32 → Int32 → ml_M → Option Int32} (hk5 : ∀ (l0 : Nat) (l1 : Int32) (l2 : Int32) (l3 : Int32) (l4 : Int32), k5 l0 l1 l2 l3 l4 m = some rv → ml_V E "LostRoomModel" cX11_isTaken 2 false m 5 [(0, ml_r l0), (1, ml_i l1), (2, ml_i l2), (3, ml_i l3), (4, ml_i l4)] []) : ∀ (l0 : Nat) (l1 : Int32) (l2 : Int32) (l4 : Int32) (t0 : Int32), fX11_isTaken_31 k5 l0 l1 l2 l4 t0 m = some rv → ml_V E "LostRoomModel" cX11_isTaken 2 false m 31 [(0, ml_r l0), (1, ml_i l1), (2, ml_i l2), (4, ml_i l4)] [ml_i t0] := by
  intro l0 l1 l2 l4 t0 h
  unfold fX11_isTaken_31 at h
  exact ml_istore_n (lv' := [(3, ml_i t0), (0, ml_r l0), (1, ml_i l1), (2, ml_i l2), (4, ml_i l4)]) dX11_isTaken_31 (ml_hn hL rfl) rfl <| ml_iinc (lv' := [(4, ml_i (l4 + (1 : Int32))), (3, ml_i t0), (0, ml_r l0), (1, ml_i l1), (2, ml_i l2)]) dX11_isTaken_32 4 rfl (congrArg (l4 + ·) kc_i1) (ml_hn hL rfl) rfl <| ml_goto dX11_isTaken_35 <| ml_V.sub [2, 3, 4, 1, 0] rfl (hk5 _ _ _ _ _ h)
def fX11_isTaken_26 (k5 : Nat → Int32 → Int32 → Int32 → Int32 → ml_M → Option Int32) (l0 : Nat) (l1 : Int32) (l2 : Int32) (l4 : Int32) (m : ml_M) : Option Int32 :=
    fX11_isTaken_31 k5 l0 l1 l2 l4 (1 : Int32) m
theorem vX11_isTaken_26 {E : ml_E} (hL : ml_eL E = 5) {rv : Int32} {m : ml_M} (hr : ∀ (pc pc' : Nat) (lv : List (Nat × ml_X)), ml_d cX11_isTaken pc .ireturn 1 pc' → (rv = 0 ∨ rv = 1) → ml_V E "LostRoomModel" cX11_isTaken 2 false m pc lv [ml_i rv]) {k5 : Nat → Int32 → Int32 → Int32 → Int32 → ml_M → Option Int32} (hk5 : ∀ (l0 : Nat) (l1 : Int32) (l2 : Int32) (l3 : Int32) (l4 : Int32), k5 l0 l1 l2 l3 l4 m = some rv → ml_V E "LostRoomModel" cX11_isTaken 2 false m 5 [(0, ml_r l0), (1, ml_i l1), (2, ml_i l2), (3, ml_i l3), (4, ml_i l4)] []) : ∀ (l0 : Nat) (l1 : Int32) (l2 : Int32) (l4 : Int32), fX11_isTaken_26 k5 l0 l1 l2 l4 m = some rv → ml_V E "LostRoomModel" cX11_isTaken 2 false m 26 [(0, ml_r l0), (1, ml_i l1), (2, ml_i l2), (4, ml_i l4)] [] := by
  intro l0 l1 l2 l4 h
  unfold fX11_isTaken_26 at h
  exact ml_iconst dX11_isTaken_26 kc_i1 <| ml_goto dX11_isTaken_27 <| ml_V.sub [0, 1, 2, 3] rfl (vX11_isTaken_31 hL hr hk5 _ _ _ _ _ h)
def fX11_isTaken_5 : Nat → Nat → Int32 → Int32 → Int32 → Int32 → ml_M → Option Int32
  | 0, _, _, _, _, _, _ => none
  | fu + 1, l0, l1, l2, l3, l4, m =>
    if l2 ≤ l4 then
    if l3 = 0 ∨ l3 = 1 then some l3 else none
    else
    if l3 = 0 then
    if (ml_K m l0).1 = 11 then
    ml_let (ml_R m l0 27) fun a2383 =>
    if ml_in m a2383 20 l4 then
    if (ml_I m a2383 l4.toNatClampNeg) = l1 then
    fX11_isTaken_26 (fX11_isTaken_5 fu) l0 l1 l2 l4 m
    else
    fX11_isTaken_31 (fX11_isTaken_5 fu) l0 l1 l2 l4 (0 : Int32) m
    else none
    else none
    else
    fX11_isTaken_26 (fX11_isTaken_5 fu) l0 l1 l2 l4 m
theorem vX11_isTaken_5 {E : ml_E} (hL : ml_eL E = 5) {rv : Int32} {m : ml_M} (hr : ∀ (pc pc' : Nat) (lv : List (Nat × ml_X)), ml_d cX11_isTaken pc .ireturn 1 pc' → (rv = 0 ∨ rv = 1) → ml_V E "LostRoomModel" cX11_isTaken 2 false m pc lv [ml_i rv]) : ∀ (fu : Nat) (l0 : Nat) (l1 : Int32) (l2 : Int32) (l3 : Int32) (l4 : Int32), fX11_isTaken_5 fu l0 l1 l2 l3 l4 m = some rv → ml_V E "LostRoomModel" cX11_isTaken 2 false m 5 [(0, ml_r l0), (1, ml_i l1), (2, ml_i l2), (3, ml_i l3), (4, ml_i l4)] [] := by
  intro fu
  induction fu with
  | zero => intro l0 l1 l2 l3 l4 h; exact ml_none h
  | succ fu ih =>
    intro l0 l1 l2 l3 l4 h
    have hk5 := ih
    unfold fX11_isTaken_5 at h
    exact ml_iload dX11_isTaken_5 4 rfl <| ml_iload_n dX11_isTaken_7 2 rfl <| ml_icmp_ge dX11_isTaken_8 h (fun _ h => ml_iload_n dX11_isTaken_38 3 rfl <| ml_ck_of h fun hz2381 h => ml_rp (mk := ml_i) hr dX11_isTaken_39 (fun e => e ▸ hz2381) h) (fun _ h => ml_iload_n dX11_isTaken_11 3 rfl <| ml_if_ne dX11_isTaken_12 h (fun _ h => ml_V.sub [0, 1, 2, 4] rfl (vX11_isTaken_26 hL hr hk5 _ _ _ _ h)) (fun _ h => ml_aload_n dX11_isTaken_15 0 rfl <| ml_ck_of h fun hc2382 h => ml_getR dX11_isTaken_16 wb_352 hc2382 <| ml_lx (mk := ml_r) h fun a2383 h => ml_iload dX11_isTaken_19 4 rfl <| ml_ck_of h fun hi2384 h => ml_iald dX11_isTaken_21 hi2384 <| ml_iload_n dX11_isTaken_22 1 rfl <| ml_icmp_ne dX11_isTaken_23 h (fun _ h => ml_iconst dX11_isTaken_30 kc_i0 <| ml_V.sub [0, 1, 2, 4] rfl (vX11_isTaken_31 hL hr hk5 _ _ _ _ _ h)) (fun _ h => ml_V.sub [0, 1, 2, 4] rfl (vX11_isTaken_26 hL hr hk5 _ _ _ _ h))))
def fX11_isTaken (l0 : Nat) (l1 : Int32) (l2 : Int32) (m : ml_M) : Option Int32 :=
    fX11_isTaken_5 ml_fu l0 l1 l2 (0 : Int32) (0 : Int32) m
theorem wX11_isTaken_0 {E : ml_E} (hL : ml_eL E = 5) {rv : Int32} {m : ml_M} (hr : ∀ (pc pc' : Nat) (lv : List (Nat × ml_X)), ml_d cX11_isTaken pc .ireturn 1 pc' → (rv = 0 ∨ rv = 1) → ml_V E "LostRoomModel" cX11_isTaken 2 false m pc lv [ml_i rv]) : ∀ (l0 : Nat) (l1 : Int32) (l2 : Int32), fX11_isTaken l0 l1 l2 m = some rv → ml_V E "LostRoomModel" cX11_isTaken 2 false m 0 [(0, ml_r l0), (1, ml_i l1), (2, ml_i l2)] [] := by
  intro l0 l1 l2 h
  unfold fX11_isTaken at h
  exact ml_iconst dX11_isTaken_0 kc_i0 <| ml_istore_n (lv' := [(3, ml_i (0 : Int32)), (0, ml_r l0), (1, ml_i l1), (2, ml_i l2)]) dX11_isTaken_1 (ml_hn hL rfl) rfl <| ml_iconst dX11_isTaken_2 kc_i0 <| ml_istore (lv' := [(4, ml_i (0 : Int32)), (3, ml_i (0 : Int32)), (0, ml_r l0), (1, ml_i l1), (2, ml_i l2)]) dX11_isTaken_3 (ml_hn hL rfl) rfl <| ml_V.sub [2, 3, 4, 1, 0] rfl (vX11_isTaken_5 hL hr  ml_fu _ _ _ _ _ h)
theorem sX11_isTaken {l0 : Nat} {l1 : Int32} {l2 : Int32} {m : ml_M} {rv : Int32} (h : fX11_isTaken l0 l1 l2 m = some rv) : ml_Sn yX11_isTaken cX11_isTaken 5 (some .boolean) 2 [ml_r l0, ml_i l1, ml_i l2] m (some (ml_i rv)) m :=
  ml_Sn_of (P := (rv = 0 ∨ rv = 1)) (ini := false) (by decide +kernel) (Nat.le_of_ble_eq_true rfl) (fun h => by cases h) (fun hz => ml_RkZ rv hz) fun E hL hr => wX11_isTaken_0 hL hr _ _ _ h
theorem dX11_nextRow_0 : ml_d cX11_nextRow 0 (.aload_n 0) 1 1 := ⟨by decide +kernel, rfl⟩
theorem dX11_nextRow_1 : ml_d cX11_nextRow 1 (.getfield 276) 3 4 := ⟨by decide +kernel, rfl⟩
theorem dX11_nextRow_4 : ml_j cX11_nextRow 4 (.ifCond .eq) 16 7 := ⟨12, by decide +kernel, by decide, rfl⟩
theorem dX11_nextRow_7 : ml_d cX11_nextRow 7 (.aload_n 0) 1 8 := ⟨by decide +kernel, rfl⟩
theorem dX11_nextRow_8 : ml_d cX11_nextRow 8 (.getfield 175) 3 11 := ⟨by decide +kernel, rfl⟩
theorem dX11_nextRow_11 : ml_d cX11_nextRow 11 (.iconst 1) 1 12 := ⟨by decide +kernel, rfl⟩
theorem dX11_nextRow_12 : ml_d cX11_nextRow 12 (.isub) 1 13 := ⟨by decide +kernel, rfl⟩
theorem dX11_nextRow_13 : ml_j cX11_nextRow 13 .goto 17 16 := ⟨4, by decide +kernel, by decide, rfl⟩
theorem dX11_nextRow_16 : ml_d cX11_nextRow 16 (.iconst 0) 1 17 := ⟨by decide +kernel, rfl⟩
theorem dX11_nextRow_17 : ml_d cX11_nextRow 17 (.istore_n 1) 1 18 := ⟨by decide +kernel, rfl⟩
theorem dX11_nextRow_18 : ml_d cX11_nextRow 18 (.aload_n 0) 1 19 := ⟨by decide +kernel, rfl⟩
theorem dX11_nextRow_19 : ml_d cX11_nextRow 19 (.getfield 175) 3 22 := ⟨by decide +kernel, rfl⟩
theorem dX11_nextRow_22 : ml_j cX11_nextRow 22 (.ifCond .ne) 45 25 := ⟨23, by decide +kernel, by decide, rfl⟩
theorem dX11_nextRow_25 : ml_d cX11_nextRow 25 (.aload_n 0) 1 26 := ⟨by decide +kernel, rfl⟩
theorem dX11_nextRow_26 : ml_d cX11_nextRow 26 (.getfield 276) 3 29 := ⟨by decide +kernel, rfl⟩
theorem dX11_nextRow_29 : ml_j cX11_nextRow 29 (.ifCond .ne) 36 32 := ⟨7, by decide +kernel, by decide, rfl⟩
theorem dX11_nextRow_32 : ml_d cX11_nextRow 32 (.iconst 1) 1 33 := ⟨by decide +kernel, rfl⟩
theorem dX11_nextRow_33 : ml_j cX11_nextRow 33 .goto 37 36 := ⟨4, by decide +kernel, by decide, rfl⟩
theorem dX11_nextRow_36 : ml_d cX11_nextRow 36 (.iconst 0) 1 37 := ⟨by decide +kernel, rfl⟩
theorem dX11_nextRow_37 : ml_d cX11_nextRow 37 (.istore_n 2) 1 38 := ⟨by decide +kernel, rfl⟩
theorem dX11_nextRow_38 : ml_d cX11_nextRow 38 (.aload_n 0) 1 39 := ⟨by decide +kernel, rfl⟩
theorem dX11_nextRow_39 : ml_d cX11_nextRow 39 (.iconst 1) 1 40 := ⟨by decide +kernel, rfl⟩
theorem dX11_nextRow_40 : ml_d cX11_nextRow 40 (.putfield 276) 3 43 := ⟨by decide +kernel, rfl⟩
theorem dX11_nextRow_43 : ml_d cX11_nextRow 43 (.iload_n 2) 1 44 := ⟨by decide +kernel, rfl⟩
theorem dX11_nextRow_44 : ml_d cX11_nextRow 44 (.ireturn) 1 45 := ⟨by decide +kernel, rfl⟩
theorem dX11_nextRow_45 : ml_d cX11_nextRow 45 (.aload_n 0) 1 46 := ⟨by decide +kernel, rfl⟩
theorem dX11_nextRow_46 : ml_d cX11_nextRow 46 (.iconst 1) 1 47 := ⟨by decide +kernel, rfl⟩
theorem dX11_nextRow_47 : ml_d cX11_nextRow 47 (.putfield 276) 3 50 := ⟨by decide +kernel, rfl⟩
theorem dX11_nextRow_50 : ml_d cX11_nextRow 50 (.iload_n 1) 1 51 := ⟨by decide +kernel, rfl⟩
theorem dX11_nextRow_51 : ml_j cX11_nextRow 51 (.ifCond .lt) 132 54 := ⟨81, by decide +kernel, by decide, rfl⟩
theorem dX11_nextRow_54 : ml_d cX11_nextRow 54 (.iload_n 1) 1 55 := ⟨by decide +kernel, rfl⟩
theorem dX11_nextRow_55 : ml_d cX11_nextRow 55 (.aload_n 0) 1 56 := ⟨by decide +kernel, rfl⟩
theorem dX11_nextRow_56 : ml_d cX11_nextRow 56 (.getfield 175) 3 59 := ⟨by decide +kernel, rfl⟩
theorem dX11_nextRow_59 : ml_j cX11_nextRow 59 (.if_icmp .ge) 132 62 := ⟨73, by decide +kernel, by decide, rfl⟩
theorem dX11_nextRow_62 : ml_d cX11_nextRow 62 (.aload_n 0) 1 63 := ⟨by decide +kernel, rfl⟩
theorem dX11_nextRow_63 : ml_d cX11_nextRow 63 (.getfield 53) 3 66 := ⟨by decide +kernel, rfl⟩
theorem dX11_nextRow_66 : ml_d cX11_nextRow 66 (.iload_n 1) 1 67 := ⟨by decide +kernel, rfl⟩
theorem dX11_nextRow_67 : ml_d cX11_nextRow 67 (.iaload) 1 68 := ⟨by decide +kernel, rfl⟩
theorem dX11_nextRow_68 : ml_d cX11_nextRow 68 (.iconst 1) 1 69 := ⟨by decide +kernel, rfl⟩
theorem dX11_nextRow_69 : ml_d cX11_nextRow 69 (.iadd) 1 70 := ⟨by decide +kernel, rfl⟩
theorem dX11_nextRow_70 : ml_d cX11_nextRow 70 (.istore_n 2) 1 71 := ⟨by decide +kernel, rfl⟩
theorem dX11_nextRow_71 : ml_d cX11_nextRow 71 (.iload_n 2) 1 72 := ⟨by decide +kernel, rfl⟩
theorem dX11_nextRow_72 : ml_d cX11_nextRow 72 (.aload_n 0) 1 73 := ⟨by decide +kernel, rfl⟩
theorem dX11_nextRow_73 : ml_d cX11_nextRow 73 (.getfield 172) 3 76 := ⟨by decide +kernel, rfl⟩
theorem dX11_nextRow_76 : ml_j cX11_nextRow 76 (.if_icmp .ge) 94 79 := ⟨18, by decide +kernel, by decide, rfl⟩
theorem dX11_nextRow_79 : ml_d cX11_nextRow 79 (.aload_n 0) 1 80 := ⟨by decide +kernel, rfl⟩
theorem dX11_nextRow_80 : ml_d cX11_nextRow 80 (.iload_n 2) 1 81 := ⟨by decide +kernel, rfl⟩
theorem dX11_nextRow_81 : ml_d cX11_nextRow 81 (.iload_n 1) 1 82 := ⟨by decide +kernel, rfl⟩
theorem dX11_nextRow_82 : ml_d cX11_nextRow 82 (.invokevirtual 280) 3 85 := ⟨by decide +kernel, rfl⟩
theorem dX11_nextRow_85 : ml_j cX11_nextRow 85 (.ifCond .eq) 94 88 := ⟨9, by decide +kernel, by decide, rfl⟩
theorem dX11_nextRow_88 : ml_d cX11_nextRow 88 (.iinc 2 1) 3 91 := ⟨by decide +kernel, rfl⟩
theorem dX11_nextRow_91 : ml_j cX11_nextRow 91 .goto 71 94 := ⟨(-20), by decide +kernel, by decide, rfl⟩
theorem dX11_nextRow_94 : ml_d cX11_nextRow 94 (.aload_n 0) 1 95 := ⟨by decide +kernel, rfl⟩
theorem dX11_nextRow_95 : ml_d cX11_nextRow 95 (.getfield 53) 3 98 := ⟨by decide +kernel, rfl⟩
theorem dX11_nextRow_98 : ml_d cX11_nextRow 98 (.iload_n 1) 1 99 := ⟨by decide +kernel, rfl⟩
theorem dX11_nextRow_99 : ml_d cX11_nextRow 99 (.iload_n 2) 1 100 := ⟨by decide +kernel, rfl⟩
theorem dX11_nextRow_100 : ml_d cX11_nextRow 100 (.aload_n 0) 1 101 := ⟨by decide +kernel, rfl⟩
theorem dX11_nextRow_101 : ml_d cX11_nextRow 101 (.getfield 172) 3 104 := ⟨by decide +kernel, rfl⟩
theorem dX11_nextRow_104 : ml_j cX11_nextRow 104 (.if_icmp .ge) 111 107 := ⟨7, by decide +kernel, by decide, rfl⟩
theorem dX11_nextRow_107 : ml_d cX11_nextRow 107 (.iload_n 2) 1 108 := ⟨by decide +kernel, rfl⟩
theorem dX11_nextRow_108 : ml_j cX11_nextRow 108 .goto 112 111 := ⟨4, by decide +kernel, by decide, rfl⟩
theorem dX11_nextRow_111 : ml_d cX11_nextRow 111 (.iconst (-1)) 1 112 := ⟨by decide +kernel, rfl⟩
theorem dX11_nextRow_112 : ml_d cX11_nextRow 112 (.iastore) 1 113 := ⟨by decide +kernel, rfl⟩
theorem dX11_nextRow_113 : ml_d cX11_nextRow 113 (.iload_n 1) 1 114 := ⟨by decide +kernel, rfl⟩
theorem dX11_nextRow_114 : ml_d cX11_nextRow 114 (.iload_n 2) 1 115 := ⟨by decide +kernel, rfl⟩
theorem dX11_nextRow_115 : ml_d cX11_nextRow 115 (.aload_n 0) 1 116 := ⟨by decide +kernel, rfl⟩
theorem dX11_nextRow_116 : ml_d cX11_nextRow 116 (.getfield 172) 3 119 := ⟨by decide +kernel, rfl⟩
theorem dX11_nextRow_119 : ml_j cX11_nextRow 119 (.if_icmp .ge) 126 122 := ⟨7, by decide +kernel, by decide, rfl⟩
theorem dX11_nextRow_122 : ml_d cX11_nextRow 122 (.iconst 1) 1 123 := ⟨by decide +kernel, rfl⟩
theorem dX11_nextRow_123 : ml_j cX11_nextRow 123 .goto 127 126 := ⟨4, by decide +kernel, by decide, rfl⟩
theorem dX11_nextRow_126 : ml_d cX11_nextRow 126 (.iconst (-1)) 1 127 := ⟨by decide +kernel, rfl⟩
theorem dX11_nextRow_127 : ml_d cX11_nextRow 127 (.iadd) 1 128 := ⟨by decide +kernel, rfl⟩
theorem dX11_nextRow_128 : ml_d cX11_nextRow 128 (.istore_n 1) 1 129 := ⟨by decide +kernel, rfl⟩
theorem dX11_nextRow_129 : ml_j cX11_nextRow 129 .goto 50 132 := ⟨(-79), by decide +kernel, by decide, rfl⟩
theorem dX11_nextRow_132 : ml_d cX11_nextRow 132 (.iload_n 1) 1 133 := ⟨by decide +kernel, rfl⟩
theorem dX11_nextRow_133 : ml_d cX11_nextRow 133 (.aload_n 0) 1 134 := ⟨by decide +kernel, rfl⟩
theorem dX11_nextRow_134 : ml_d cX11_nextRow 134 (.getfield 175) 3 137 := ⟨by decide +kernel, rfl⟩
theorem dX11_nextRow_137 : ml_j cX11_nextRow 137 (.if_icmp .ne) 144 140 := ⟨7, by decide +kernel, by decide, rfl⟩
theorem dX11_nextRow_140 : ml_d cX11_nextRow 140 (.iconst 1) 1 141 := ⟨by decide +kernel, rfl⟩
theorem dX11_nextRow_141 : ml_j cX11_nextRow 141 .goto 145 144 := ⟨4, by decide +kernel, by decide, rfl⟩
theorem dX11_nextRow_144 : ml_d cX11_nextRow 144 (.iconst 0) 1 145 := ⟨by decide +kernel, rfl⟩
theorem dX11_nextRow_145 : ml_d cX11_nextRow 145 (.ireturn) 1 146 := ⟨by decide +kernel, rfl⟩
def fX11_nextRow_37 (l0 : Nat) (t0 : Int32) (m : ml_M) : Option (Int32 × ml_M) :=
    if (ml_K m l0).1 = 11 then
    ml_let (ml_sI m l0 28 (1 : Int32)) fun m2386 =>
    if t0 = 0 ∨ t0 = 1 then some (t0, m2386) else none
    else none
theorem vX11_nextRow_37 {E : ml_E} (hL : ml_eL E = 3) {rv : Int32} {rm : ml_M} (hr : ∀ (pc pc' : Nat) (lv : List (Nat × ml_X)), ml_d cX11_nextRow pc .ireturn 1 pc' → (rv = 0 ∨ rv = 1) → ml_V E "LostRoomModel" cX11_nextRow 3 false rm pc lv [ml_i rv]) : ∀ (l0 : Nat) (t0 : Int32) (m : ml_M), fX11_nextRow_37 l0 t0 m = some (rv, rm) → ml_V E "LostRoomModel" cX11_nextRow 3 false m 37 [(0, ml_r l0)] [ml_i t0] := by
  intro l0 t0 m h
  unfold fX11_nextRow_37 at h
  exact ml_istore_n (lv' := [(2, ml_i t0), (0, ml_r l0)]) dX11_nextRow_37 (ml_hn hL rfl) rfl <| ml_aload_n dX11_nextRow_38 1 rfl <| ml_iconst dX11_nextRow_39 kc_i1 <| ml_ck_of h fun hc2385 h => ml_putZ dX11_nextRow_40 wb_353 hc2385 (Or.inr rfl) <| ml_lt (m := m) rfl h fun m2386 em2387 h => ml_iload_n dX11_nextRow_43 0 rfl <| ml_ck_of h fun hz2388 h => ml_rI (mk := ml_i) hr dX11_nextRow_44 (fun e => e ▸ hz2388) h
def fX11_nextRow_127 (k50 : Nat → Int32 → ml_M → Option (Int32 × ml_M)) (l0 : Nat) (t0 : Int32) (t1 : Int32) (m : ml_M) : Option (Int32 × ml_M) :=
    ml_let (t1 + t0) fun x2389 =>
    k50 l0 x2389 m
theorem vX11_nextRow_127 {E : ml_E} (hL : ml_eL E = 3) {rv : Int32} {rm : ml_M} (hr : ∀ (pc pc' : Nat) (lv : List (Nat × ml_X)), ml_d cX11_nextRow pc .ireturn 1 pc' → (rv = 0 ∨ rv = 1) → ml_V E "LostRoomModel" cX11_nextRow 3 false rm pc lv [ml_i rv]) {k50 : Nat → Int32 → ml_M → Option (Int32 × ml_M)} (hk50 : ∀ (l0 : Nat) (l1 : Int32) (m : ml_M), k50 l0 l1 m = some (rv, rm) → ml_V E "LostRoomModel" cX11_nextRow 3 false m 50 [(0, ml_r l0), (1, ml_i l1)] []) : ∀ (l0 : Nat) (t0 : Int32) (t1 : Int32) (m : ml_M), fX11_nextRow_127 k50 l0 t0 t1 m = some (rv, rm) → ml_V E "LostRoomModel" cX11_nextRow 3 false m 127 [(0, ml_r l0)] [ml_i t0, ml_i t1] := by
  intro l0 t0 t1 m h
  unfold fX11_nextRow_127 at h
  exact ml_iadd dX11_nextRow_127 <| ml_lx (mk := ml_i) h fun x2389 h => ml_istore_n (lv' := [(1, ml_i x2389), (0, ml_r l0)]) dX11_nextRow_128 (ml_hn hL rfl) rfl <| ml_goto dX11_nextRow_129 <| ml_V.sub [1, 0] rfl (hk50 _ _ _ h)
def fX11_nextRow_112 (k50 : Nat → Int32 → ml_M → Option (Int32 × ml_M)) (l0 : Nat) (l1 : Int32) (l2 : Int32) (t0 : Int32) (t1 : Int32) (t2 : Nat) (m : ml_M) : Option (Int32 × ml_M) :=
    if ml_in m t2 20 t1 then
    ml_let (ml_sI m t2 t1.toNatClampNeg t0) fun m2391 =>
    if (ml_K m2391 l0).1 = 11 then
    if (ml_I m2391 l0 9) ≤ l2 then
    fX11_nextRow_127 k50 l0 (-1 : Int32) l1 m2391
    else
    fX11_nextRow_127 k50 l0 (1 : Int32) l1 m2391
    else none
    else none
theorem vX11_nextRow_112 {E : ml_E} (hL : ml_eL E = 3) {rv : Int32} {rm : ml_M} (hr : ∀ (pc pc' : Nat) (lv : List (Nat × ml_X)), ml_d cX11_nextRow pc .ireturn 1 pc' → (rv = 0 ∨ rv = 1) → ml_V E "LostRoomModel" cX11_nextRow 3 false rm pc lv [ml_i rv]) {k50 : Nat → Int32 → ml_M → Option (Int32 × ml_M)} (hk50 : ∀ (l0 : Nat) (l1 : Int32) (m : ml_M), k50 l0 l1 m = some (rv, rm) → ml_V E "LostRoomModel" cX11_nextRow 3 false m 50 [(0, ml_r l0), (1, ml_i l1)] []) : ∀ (l0 : Nat) (l1 : Int32) (l2 : Int32) (t0 : Int32) (t1 : Int32) (t2 : Nat) (m : ml_M), fX11_nextRow_112 k50 l0 l1 l2 t0 t1 t2 m = some (rv, rm) → ml_V E "LostRoomModel" cX11_nextRow 3 false m 112 [(0, ml_r l0), (1, ml_i l1), (2, ml_i l2)] [ml_i t0, ml_i t1, ml_r t2] := by
  intro l0 l1 l2 t0 t1 t2 m h
  unfold fX11_nextRow_112 at h
  exact ml_ck_of h fun hi2390 h => ml_iast dX11_nextRow_112 hi2390 <| ml_lt (m := m) rfl h fun m2391 em2392 h => ml_iload_n dX11_nextRow_113 1 rfl <| ml_iload_n dX11_nextRow_114 2 rfl <| ml_aload_n dX11_nextRow_115 0 rfl <| ml_ck_of h fun hc2393 h => ml_getI dX11_nextRow_116 wb_215 hc2393 <| ml_icmp_ge dX11_nextRow_119 h (fun _ h => ml_iconst dX11_nextRow_126 kc_im1 <| ml_V.sub [0] rfl (vX11_nextRow_127 hL hr hk50 _ _ _ _ h)) (fun _ h => ml_iconst dX11_nextRow_122 kc_i1 <| ml_goto dX11_nextRow_123 <| ml_V.sub [0] rfl (vX11_nextRow_127 hL hr hk50 _ _ _ _ h))
def fX11_nextRow_94 (k50 : Nat → Int32 → ml_M → Option (Int32 × ml_M)) (l0 : Nat) (l1 : Int32) (l2 : Int32) (m : ml_M) : Option (Int32 × ml_M) :=
    if (ml_K m l0).1 = 11 then
    ml_let (ml_R m l0 27) fun a2395 =>
    if (ml_I m l0 9) ≤ l2 then
    fX11_nextRow_112 k50 l0 l1 l2 (-1 : Int32) l1 a2395 m
    else
    fX11_nextRow_112 k50 l0 l1 l2 l2 l1 a2395 m
    else none
theorem vX11_nextRow_94 {E : ml_E} (hL : ml_eL E = 3) {rv : Int32} {rm : ml_M} (hr : ∀ (pc pc' : Nat) (lv : List (Nat × ml_X)), ml_d cX11_nextRow pc .ireturn 1 pc' → (rv = 0 ∨ rv = 1) → ml_V E "LostRoomModel" cX11_nextRow 3 false rm pc lv [ml_i rv]) {k50 : Nat → Int32 → ml_M → Option (Int32 × ml_M)} (hk50 : ∀ (l0 : Nat) (l1 : Int32) (m : ml_M), k50 l0 l1 m = some (rv, rm) → ml_V E "LostRoomModel" cX11_nextRow 3 false m 50 [(0, ml_r l0), (1, ml_i l1)] []) : ∀ (l0 : Nat) (l1 : Int32) (l2 : Int32) (m : ml_M), fX11_nextRow_94 k50 l0 l1 l2 m = some (rv, rm) → ml_V E "LostRoomModel" cX11_nextRow 3 false m 94 [(0, ml_r l0), (1, ml_i l1), (2, ml_i l2)] [] := by
  intro l0 l1 l2 m h
  unfold fX11_nextRow_94 at h
  exact ml_aload_n dX11_nextRow_94 0 rfl <| ml_ck_of h fun hc2394 h => ml_getR dX11_nextRow_95 wb_352 hc2394 <| ml_lx (mk := ml_r) h fun a2395 h => ml_iload_n dX11_nextRow_98 1 rfl <| ml_iload_n dX11_nextRow_99 2 rfl <| ml_aload_n dX11_nextRow_100 0 rfl <| ml_getI dX11_nextRow_101 wb_215 hc2394 <| ml_icmp_ge dX11_nextRow_104 h (fun _ h => ml_iconst dX11_nextRow_111 kc_im1 <| ml_V.sub [0, 1, 2] rfl (vX11_nextRow_112 hL hr hk50 _ _ _ _ _ _ _ h)) (fun _ h => ml_iload_n dX11_nextRow_107 2 rfl <| ml_goto dX11_nextRow_108 <| ml_V.sub [0, 1, 2] rfl (vX11_nextRow_112 hL hr hk50 _ _ _ _ _ _ _ h))
def fX11_nextRow_71 (k50 : Nat → Int32 → ml_M → Option (Int32 × ml_M)) : Nat → Nat → Int32 → Int32 → ml_M → Option (Int32 × ml_M)
  | 0, _, _, _, _ => none
  | fu + 1, l0, l1, l2, m =>
    if (ml_K m l0).1 = 11 then
    if (ml_I m l0 9) ≤ l2 then
    fX11_nextRow_94 k50 l0 l1 l2 m
    else
    ml_b1 (fX11_isTaken l0 l2 l1 m) fun r2398 =>
    if r2398 = 0 then
    fX11_nextRow_94 k50 l0 l1 l2 m
    else
    (fX11_nextRow_71 k50 fu) l0 l1 (l2 + (1 : Int32)) m
    else none
theorem vX11_nextRow_71 {E : ml_E} (hL : ml_eL E = 3) {rv : Int32} {rm : ml_M} (hr : ∀ (pc pc' : Nat) (lv : List (Nat × ml_X)), ml_d cX11_nextRow pc .ireturn 1 pc' → (rv = 0 ∨ rv = 1) → ml_V E "LostRoomModel" cX11_nextRow 3 false rm pc lv [ml_i rv]) {k50 : Nat → Int32 → ml_M → Option (Int32 × ml_M)} (hk50 : ∀ (l0 : Nat) (l1 : Int32) (m : ml_M), k50 l0 l1 m = some (rv, rm) → ml_V E "LostRoomModel" cX11_nextRow 3 false m 50 [(0, ml_r l0), (1, ml_i l1)] []) : ∀ (fu : Nat) (l0 : Nat) (l1 : Int32) (l2 : Int32) (m : ml_M), fX11_nextRow_71 k50 fu l0 l1 l2 m = some (rv, rm) → ml_V E "LostRoomModel" cX11_nextRow 3 false m 71 [(0, ml_r l0), (1, ml_i l1), (2, ml_i l2)] [] := by
  intro fu
  induction fu with
  | zero => intro l0 l1 l2 m h; exact ml_none h
  | succ fu ih =>
    intro l0 l1 l2 m h
    have hk71 := ih
    unfold fX11_nextRow_71 at h
    exact ml_iload_n dX11_nextRow_71 2 rfl <| ml_aload_n dX11_nextRow_72 0 rfl <| ml_ck_of h fun hc2396 h => ml_getI dX11_nextRow_73 wb_215 hc2396 <| ml_icmp_ge dX11_nextRow_76 h (fun _ h => ml_V.sub [0, 1, 2] rfl (vX11_nextRow_94 hL hr hk50 _ _ _ _ h)) (fun _ h => ml_aload_n dX11_nextRow_79 0 rfl <| ml_iload_n dX11_nextRow_80 2 rfl <| ml_iload_n dX11_nextRow_81 1 rfl <| ml_b1_of h fun r2398 hv2397 h => ml_callV dX11_nextRow_82 wm_583 wb_354 hc2396 (sX11_isTaken hv2397) rfl (Nat.le_of_ble_eq_true rfl) (Nat.le_of_ble_eq_true rfl) rfl <| ml_if_eq dX11_nextRow_85 h (fun _ h => ml_V.sub [0, 1, 2] rfl (vX11_nextRow_94 hL hr hk50 _ _ _ _ h)) (fun _ h => ml_iinc (lv' := [(2, ml_i (l2 + (1 : Int32))), (0, ml_r l0), (1, ml_i l1)]) dX11_nextRow_88 2 rfl (congrArg (l2 + ·) kc_i1) (ml_hn hL rfl) rfl <| ml_goto dX11_nextRow_91 <| ml_V.sub [1, 2, 0] rfl (hk71 _ _ _ _ h)))
def fX11_nextRow_132 (l0 : Nat) (l1 : Int32) (m : ml_M) : Option (Int32 × ml_M) :=
    if (ml_K m l0).1 = 11 then
    if l1 = (ml_I m l0 10) then
    some ((1 : Int32), m)
    else
    some ((0 : Int32), m)
    else none
theorem vX11_nextRow_132 {E : ml_E} (hL : ml_eL E = 3) {rv : Int32} {rm : ml_M} (hr : ∀ (pc pc' : Nat) (lv : List (Nat × ml_X)), ml_d cX11_nextRow pc .ireturn 1 pc' → (rv = 0 ∨ rv = 1) → ml_V E "LostRoomModel" cX11_nextRow 3 false rm pc lv [ml_i rv]) : ∀ (l0 : Nat) (l1 : Int32) (m : ml_M), fX11_nextRow_132 l0 l1 m = some (rv, rm) → ml_V E "LostRoomModel" cX11_nextRow 3 false m 132 [(0, ml_r l0), (1, ml_i l1)] [] := by
  intro l0 l1 m h
  unfold fX11_nextRow_132 at h
  exact ml_iload_n dX11_nextRow_132 1 rfl <| ml_aload_n dX11_nextRow_133 0 rfl <| ml_ck_of h fun hc2399 h => ml_getI dX11_nextRow_134 wb_196 hc2399 <| ml_icmp_ne dX11_nextRow_137 h (fun _ h => ml_iconst dX11_nextRow_144 kc_i0 <| ml_rI (mk := ml_i) hr dX11_nextRow_145 (fun e => Or.inl e.symm) h) (fun _ h => ml_iconst dX11_nextRow_140 kc_i1 <| ml_goto dX11_nextRow_141 <| ml_rI (mk := ml_i) hr dX11_nextRow_145 (fun e => Or.inr e.symm) h)
def fX11_nextRow_50 : Nat → Nat → Int32 → ml_M → Option (Int32 × ml_M)
  | 0, _, _, _ => none
  | fu + 1, l0, l1, m =>
    if l1 < 0 then
    fX11_nextRow_132 l0 l1 m
    else
    if (ml_K m l0).1 = 11 then
    if (ml_I m l0 10) ≤ l1 then
    fX11_nextRow_132 l0 l1 m
    else
    ml_let (ml_R m l0 27) fun a2401 =>
    if ml_in m a2401 20 l1 then
    ml_let ((ml_I m a2401 l1.toNatClampNeg) + (1 : Int32)) fun x2403 =>
    fX11_nextRow_71 (fX11_nextRow_50 fu) ml_fu l0 l1 x2403 m
    else none
    else none
theorem vX11_nextRow_50 {E : ml_E} (hL : ml_eL E = 3) {rv : Int32} {rm : ml_M} (hr : ∀ (pc pc' : Nat) (lv : List (Nat × ml_X)), ml_d cX11_nextRow pc .ireturn 1 pc' → (rv = 0 ∨ rv = 1) → ml_V E "LostRoomModel" cX11_nextRow 3 false rm pc lv [ml_i rv]) : ∀ (fu : Nat) (l0 : Nat) (l1 : Int32) (m : ml_M), fX11_nextRow_50 fu l0 l1 m = some (rv, rm) → ml_V E "LostRoomModel" cX11_nextRow 3 false m 50 [(0, ml_r l0), (1, ml_i l1)] [] := by
  intro fu
  induction fu with
  | zero => intro l0 l1 m h; exact ml_none h
  | succ fu ih =>
    intro l0 l1 m h
    have hk50 := ih
    unfold fX11_nextRow_50 at h
    exact ml_iload_n dX11_nextRow_50 1 rfl <| ml_if_lt dX11_nextRow_51 h (fun _ h => ml_V.sub [0, 1] rfl (vX11_nextRow_132 hL hr  _ _ _ h)) (fun _ h => ml_iload_n dX11_nextRow_54 1 rfl <| ml_aload_n dX11_nextRow_55 0 rfl <| ml_ck_of h fun hc2400 h => ml_getI dX11_nextRow_56 wb_196 hc2400 <| ml_icmp_ge dX11_nextRow_59 h (fun _ h => ml_V.sub [0, 1] rfl (vX11_nextRow_132 hL hr  _ _ _ h)) (fun _ h => ml_aload_n dX11_nextRow_62 0 rfl <| ml_getR dX11_nextRow_63 wb_352 hc2400 <| ml_lx (mk := ml_r) h fun a2401 h => ml_iload_n dX11_nextRow_66 1 rfl <| ml_ck_of h fun hi2402 h => ml_iald dX11_nextRow_67 hi2402 <| ml_iconst dX11_nextRow_68 kc_i1 <| ml_iadd dX11_nextRow_69 <| ml_lx (mk := ml_i) h fun x2403 h => ml_istore_n (lv' := [(2, ml_i x2403), (0, ml_r l0), (1, ml_i l1)]) dX11_nextRow_70 (ml_hn hL rfl) rfl <| ml_V.sub [1, 2, 0] rfl (vX11_nextRow_71 hL hr hk50 ml_fu _ _ _ _ h)))
def fX11_nextRow_17 (l0 : Nat) (t0 : Int32) (m : ml_M) : Option (Int32 × ml_M) :=
    if (ml_K m l0).1 = 11 then
    if (ml_I m l0 10) = 0 then
    if (ml_I m l0 28) = 0 then
    fX11_nextRow_37 l0 (1 : Int32) m
    else
    fX11_nextRow_37 l0 (0 : Int32) m
    else
    ml_let (ml_sI m l0 28 (1 : Int32)) fun m2405 =>
    fX11_nextRow_50 ml_fu l0 t0 m2405
    else none
theorem vX11_nextRow_17 {E : ml_E} (hL : ml_eL E = 3) {rv : Int32} {rm : ml_M} (hr : ∀ (pc pc' : Nat) (lv : List (Nat × ml_X)), ml_d cX11_nextRow pc .ireturn 1 pc' → (rv = 0 ∨ rv = 1) → ml_V E "LostRoomModel" cX11_nextRow 3 false rm pc lv [ml_i rv]) : ∀ (l0 : Nat) (t0 : Int32) (m : ml_M), fX11_nextRow_17 l0 t0 m = some (rv, rm) → ml_V E "LostRoomModel" cX11_nextRow 3 false m 17 [(0, ml_r l0)] [ml_i t0] := by
  intro l0 t0 m h
  unfold fX11_nextRow_17 at h
  exact ml_istore_n (lv' := [(1, ml_i t0), (0, ml_r l0)]) dX11_nextRow_17 (ml_hn hL rfl) rfl <| ml_aload_n dX11_nextRow_18 1 rfl <| ml_ck_of h fun hc2404 h => ml_getI dX11_nextRow_19 wb_196 hc2404 <| ml_if_ne dX11_nextRow_22 h (fun _ h => ml_aload_n dX11_nextRow_45 1 rfl <| ml_iconst dX11_nextRow_46 kc_i1 <| ml_putZ dX11_nextRow_47 wb_353 hc2404 (Or.inr rfl) <| ml_lt (m := m) rfl h fun m2405 em2406 h => ml_V.sub [1, 0] rfl (vX11_nextRow_50 hL hr  ml_fu _ _ _ h)) (fun _ h => ml_aload_n dX11_nextRow_25 1 rfl <| ml_getI dX11_nextRow_26 wb_355 hc2404 <| ml_if_ne dX11_nextRow_29 h (fun _ h => ml_iconst dX11_nextRow_36 kc_i0 <| ml_V.sub [1] rfl (vX11_nextRow_37 hL hr  _ _ _ h)) (fun _ h => ml_iconst dX11_nextRow_32 kc_i1 <| ml_goto dX11_nextRow_33 <| ml_V.sub [1] rfl (vX11_nextRow_37 hL hr  _ _ _ h)))
def fX11_nextRow (l0 : Nat) (m : ml_M) : Option (Int32 × ml_M) :=
    if (ml_K m l0).1 = 11 then
    if (ml_I m l0 28) = 0 then
    fX11_nextRow_17 l0 (0 : Int32) m
    else
    fX11_nextRow_17 l0 ((ml_I m l0 10) - (1 : Int32)) m
    else none
theorem wX11_nextRow_0 {E : ml_E} (hL : ml_eL E = 3) {rv : Int32} {rm : ml_M} (hr : ∀ (pc pc' : Nat) (lv : List (Nat × ml_X)), ml_d cX11_nextRow pc .ireturn 1 pc' → (rv = 0 ∨ rv = 1) → ml_V E "LostRoomModel" cX11_nextRow 3 false rm pc lv [ml_i rv]) : ∀ (l0 : Nat) (m : ml_M), fX11_nextRow l0 m = some (rv, rm) → ml_V E "LostRoomModel" cX11_nextRow 3 false m 0 [(0, ml_r l0)] [] := by
  intro l0 m h
  unfold fX11_nextRow at h
  exact ml_aload_n dX11_nextRow_0 0 rfl <| ml_ck_of h fun hc2407 h => ml_getI dX11_nextRow_1 wb_355 hc2407 <| ml_if_eq dX11_nextRow_4 h (fun _ h => ml_iconst dX11_nextRow_16 kc_i0 <| ml_V.sub [0] rfl (vX11_nextRow_17 hL hr  _ _ _ h)) (fun _ h => ml_aload_n dX11_nextRow_7 0 rfl <| ml_getI dX11_nextRow_8 wb_196 hc2407 <| ml_iconst dX11_nextRow_11 kc_i1 <| ml_isub dX11_nextRow_12 <| ml_goto dX11_nextRow_13 <| ml_V.sub [0] rfl (vX11_nextRow_17 hL hr  _ _ _ h))
theorem sX11_nextRow {l0 : Nat} {m : ml_M} {rv : Int32} {rm : ml_M} (h : fX11_nextRow l0 m = some (rv, rm)) : ml_Sn yX11_nextRow cX11_nextRow 3 (some .boolean) 3 [ml_r l0] m (some (ml_i rv)) rm :=
  ml_Sn_of (P := (rv = 0 ∨ rv = 1)) (ini := false) (by decide +kernel) (Nat.le_of_ble_eq_true rfl) (fun h => by cases h) (fun hz => ml_RkZ rv hz) fun E hL hr => wX11_nextRow_0 hL hr _ _ h

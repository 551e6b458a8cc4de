/-! printed by wip/whole/emit.py out of the claim's own listing -/
theorem dX11_thing_0 : ml_d cX11_thing 0 (.iload_n 2) 1 1 := ⟨by decide +kernel, rfl⟩
theorem dX11_thing_1 : ml_d cX11_thing 1 (.iload_n 3) 1 2 := ⟨by decide +kernel, rfl⟩
theorem dX11_thing_2 : ml_d cX11_thing 2 (.invokestatic 211) 3 5 := ⟨by decide +kernel, rfl⟩
theorem dX11_thing_5 : ml_j cX11_thing 5 (.ifCond .eq) 20 8 := ⟨15, by decide +kernel, by decide, rfl⟩
theorem dX11_thing_8 : ml_d cX11_thing 8 (.aload_n 0) 1 9 := ⟨by decide +kernel, rfl⟩
theorem dX11_thing_9 : ml_d cX11_thing 9 (.iload_n 1) 1 10 := ⟨by decide +kernel, rfl⟩
theorem dX11_thing_10 : ml_d cX11_thing 10 (.iload 4) 2 12 := ⟨by decide +kernel, rfl⟩
theorem dX11_thing_12 : ml_d cX11_thing 12 (.iload 5) 2 14 := ⟨by decide +kernel, rfl⟩
theorem dX11_thing_14 : ml_d cX11_thing 14 (.invokevirtual 214) 3 17 := ⟨by decide +kernel, rfl⟩
theorem dX11_thing_17 : ml_j cX11_thing 17 (.ifCond .ne) 22 20 := ⟨5, by decide +kernel, by decide, rfl⟩
theorem dX11_thing_20 : ml_d cX11_thing 20 (.iconst (-1)) 1 21 := ⟨by decide +kernel, rfl⟩
theorem dX11_thing_21 : ml_d cX11_thing 21 (.ireturn) 1 22 := ⟨by decide +kernel, rfl⟩
theorem dX11_thing_22 : ml_d cX11_thing 22 (.aload_n 0) 1 23 := ⟨by decide +kernel, rfl⟩
theorem dX11_thing_23 : ml_d cX11_thing 23 (.getfield 181) 3 26 := ⟨by decide +kernel, rfl⟩
theorem dX11_thing_26 : ml_d cX11_thing 26 (.bipush 20) 2 28 := ⟨by decide +kernel, rfl⟩
theorem dX11_thing_28 : ml_j cX11_thing 28 (.if_icmp .ne) 34 31 := ⟨6, by decide +kernel, by decide, rfl⟩
theorem dX11_thing_31 : ml_d cX11_thing 31 (.bipush (-2)) 2 33 := ⟨by decide +kernel, rfl⟩
theorem dX11_thing_33 : ml_d cX11_thing 33 (.ireturn) 1 34 := ⟨by decide +kernel, rfl⟩
theorem dX11_thing_34 : ml_d cX11_thing 34 (.bipush 7) 2 36 := ⟨by decide +kernel, rfl⟩
theorem dX11_thing_36 : ml_d cX11_thing 36 (.aload_n 0) 1 37 := ⟨by decide +kernel, rfl⟩
theorem dX11_thing_37 : ml_d cX11_thing 37 (.getfield 181) 3 40 := ⟨by decide +kernel, rfl⟩
theorem dX11_thing_40 : ml_d cX11_thing 40 (.imul) 1 41 := ⟨by decide +kernel, rfl⟩
theorem dX11_thing_41 : ml_d cX11_thing 41 (.istore 6) 2 43 := ⟨by decide +kernel, rfl⟩
theorem dX11_thing_43 : ml_d cX11_thing 43 (.aload_n 0) 1 44 := ⟨by decide +kernel, rfl⟩
theorem dX11_thing_44 : ml_d cX11_thing 44 (.getfield 47) 3 47 := ⟨by decide +kernel, rfl⟩
theorem dX11_thing_47 : ml_d cX11_thing 47 (.iload 6) 2 49 := ⟨by decide +kernel, rfl⟩
theorem dX11_thing_49 : ml_d cX11_thing 49 (.iload_n 1) 1 50 := ⟨by decide +kernel, rfl⟩
theorem dX11_thing_50 : ml_d cX11_thing 50 (.iastore) 1 51 := ⟨by decide +kernel, rfl⟩
theorem dX11_thing_51 : ml_d cX11_thing 51 (.aload_n 0) 1 52 := ⟨by decide +kernel, rfl⟩
theorem dX11_thing_52 : ml_d cX11_thing 52 (.getfield 47) 3 55 := ⟨by decide +kernel, rfl⟩
theorem dX11_thing_55 : ml_d cX11_thing 55 (.iload 6) 2 57 := ⟨by decide +kernel, rfl⟩
theorem dX11_thing_57 : ml_d cX11_thing 57 (.iconst 1) 1 58 := ⟨by decide +kernel, rfl⟩
theorem dX11_thing_58 : ml_d cX11_thing 58 (.iadd) 1 59 := ⟨by decide +kernel, rfl⟩
theorem dX11_thing_59 : ml_d cX11_thing 59 (.iload_n 2) 1 60 := ⟨by decide +kernel, rfl⟩
theorem dX11_thing_60 : ml_d cX11_thing 60 (.iastore) 1 61 := ⟨by decide +kernel, rfl⟩
theorem dX11_thing_61 : ml_d cX11_thing 61 (.aload_n 0) 1 62 := ⟨by decide +kernel, rfl⟩
theorem dX11_thing_62 : ml_d cX11_thing 62 (.getfield 47) 3 65 := ⟨by decide +kernel, rfl⟩
theorem dX11_thing_65 : ml_d cX11_thing 65 (.iload 6) 2 67 := ⟨by decide +kernel, rfl⟩
theorem dX11_thing_67 : ml_d cX11_thing 67 (.iconst 2) 1 68 := ⟨by decide +kernel, rfl⟩
theorem dX11_thing_68 : ml_d cX11_thing 68 (.iadd) 1 69 := ⟨by decide +kernel, rfl⟩
theorem dX11_thing_69 : ml_d cX11_thing 69 (.iload_n 3) 1 70 := ⟨by decide +kernel, rfl⟩
theorem dX11_thing_70 : ml_d cX11_thing 70 (.iastore) 1 71 := ⟨by decide +kernel, rfl⟩
theorem dX11_thing_71 : ml_d cX11_thing 71 (.aload_n 0) 1 72 := ⟨by decide +kernel, rfl⟩
theorem dX11_thing_72 : ml_d cX11_thing 72 (.getfield 47) 3 75 := ⟨by decide +kernel, rfl⟩
theorem dX11_thing_75 : ml_d cX11_thing 75 (.iload 6) 2 77 := ⟨by decide +kernel, rfl⟩
theorem dX11_thing_77 : ml_d cX11_thing 77 (.iconst 3) 1 78 := ⟨by decide +kernel, rfl⟩
theorem dX11_thing_78 : ml_d cX11_thing 78 (.iadd) 1 79 := ⟨by decide +kernel, rfl⟩
theorem dX11_thing_79 : ml_d cX11_thing 79 (.bipush (-9)) 2 81 := ⟨by decide +kernel, rfl⟩
theorem dX11_thing_81 : ml_d cX11_thing 81 (.iastore) 1 82 := ⟨by decide +kernel, rfl⟩
theorem dX11_thing_82 : ml_d cX11_thing 82 (.aload_n 0) 1 83 := ⟨by decide +kernel, rfl⟩
theorem dX11_thing_83 : ml_d cX11_thing 83 (.getfield 47) 3 86 := ⟨by decide +kernel, rfl⟩
theorem dX11_thing_86 : ml_d cX11_thing 86 (.iload 6) 2 88 := ⟨by decide +kernel, rfl⟩
theorem dX11_thing_88 : ml_d cX11_thing 88 (.iconst 4) 1 89 := ⟨by decide +kernel, rfl⟩
theorem dX11_thing_89 : ml_d cX11_thing 89 (.iadd) 1 90 := ⟨by decide +kernel, rfl⟩
theorem dX11_thing_90 : ml_d cX11_thing 90 (.iconst 0) 1 91 := ⟨by decide +kernel, rfl⟩
theorem dX11_thing_91 : ml_d cX11_thing 91 (.iastore) 1 92 := ⟨by decide +kernel, rfl⟩
theorem dX11_thing_92 : ml_d cX11_thing 92 (.aload_n 0) 1 93 := ⟨by decide +kernel, rfl⟩
theorem dX11_thing_93 : ml_d cX11_thing 93 (.getfield 47) 3 96 := ⟨by decide +kernel, rfl⟩
theorem dX11_thing_96 : ml_d cX11_thing 96 (.iload 6) 2 98 := ⟨by decide +kernel, rfl⟩
theorem dX11_thing_98 : ml_d cX11_thing 98 (.iconst 5) 1 99 := ⟨by decide +kernel, rfl⟩
theorem dX11_thing_99 : ml_d cX11_thing 99 (.iadd) 1 100 := ⟨by decide +kernel, rfl⟩
theorem dX11_thing_100 : ml_d cX11_thing 100 (.iload_n 1) 1 101 := ⟨by decide +kernel, rfl⟩
theorem dX11_thing_101 : ml_d cX11_thing 101 (.iconst 2) 1 102 := ⟨by decide +kernel, rfl⟩
theorem dX11_thing_102 : ml_j cX11_thing 102 (.if_icmp .ne) 116 105 := ⟨14, by decide +kernel, by decide, rfl⟩
theorem dX11_thing_105 : ml_d cX11_thing 105 (.bipush 10) 2 107 := ⟨by decide +kernel, rfl⟩
theorem dX11_thing_107 : ml_d cX11_thing 107 (.iload 4) 2 109 := ⟨by decide +kernel, rfl⟩
theorem dX11_thing_109 : ml_d cX11_thing 109 (.imul) 1 110 := ⟨by decide +kernel, rfl⟩
theorem dX11_thing_110 : ml_d cX11_thing 110 (.iload 5) 2 112 := ⟨by decide +kernel, rfl⟩
theorem dX11_thing_112 : ml_d cX11_thing 112 (.iadd) 1 113 := ⟨by decide +kernel, rfl⟩
theorem dX11_thing_113 : ml_j cX11_thing 113 .goto 134 116 := ⟨21, by decide +kernel, by decide, rfl⟩
theorem dX11_thing_116 : ml_d cX11_thing 116 (.iload_n 1) 1 117 := ⟨by decide +kernel, rfl⟩
theorem dX11_thing_117 : ml_d cX11_thing 117 (.iconst 4) 1 118 := ⟨by decide +kernel, rfl⟩
theorem dX11_thing_118 : ml_j cX11_thing 118 (.if_icmp .ne) 132 121 := ⟨14, by decide +kernel, by decide, rfl⟩
theorem dX11_thing_121 : ml_d cX11_thing 121 (.bipush 10) 2 123 := ⟨by decide +kernel, rfl⟩
theorem dX11_thing_123 : ml_d cX11_thing 123 (.iload 4) 2 125 := ⟨by decide +kernel, rfl⟩
theorem dX11_thing_125 : ml_d cX11_thing 125 (.imul) 1 126 := ⟨by decide +kernel, rfl⟩
theorem dX11_thing_126 : ml_d cX11_thing 126 (.iload 5) 2 128 := ⟨by decide +kernel, rfl⟩
theorem dX11_thing_128 : ml_d cX11_thing 128 (.iadd) 1 129 := ⟨by decide +kernel, rfl⟩
theorem dX11_thing_129 : ml_j cX11_thing 129 .goto 134 132 := ⟨5, by decide +kernel, by decide, rfl⟩
theorem dX11_thing_132 : ml_d cX11_thing 132 (.iload 4) 2 134 := ⟨by decide +kernel, rfl⟩
theorem dX11_thing_134 : ml_d cX11_thing 134 (.iastore) 1 135 := ⟨by decide +kernel, rfl⟩
theorem dX11_thing_135 : ml_d cX11_thing 135 (.aload_n 0) 1 136 := ⟨by decide +kernel, rfl⟩
theorem dX11_thing_136 : ml_d cX11_thing 136 (.getfield 47) 3 139 := ⟨by decide +kernel, rfl⟩
theorem dX11_thing_139 : ml_d cX11_thing 139 (.iload 6) 2 141 := ⟨by decide +kernel, rfl⟩
theorem dX11_thing_141 : ml_d cX11_thing 141 (.bipush 6) 2 143 := ⟨by decide +kernel, rfl⟩
theorem dX11_thing_143 : ml_d cX11_thing 143 (.iadd) 1 144 := ⟨by decide +kernel, rfl⟩
theorem dX11_thing_144 : ml_d cX11_thing 144 (.iload_n 1) 1 145 := ⟨by decide +kernel, rfl⟩
theorem dX11_thing_145 : ml_d cX11_thing 145 (.iconst 3) 1 146 := ⟨by decide +kernel, rfl⟩
theorem dX11_thing_146 : ml_j cX11_thing 146 (.if_icmp .ne) 154 149 := ⟨8, by decide +kernel, by decide, rfl⟩
theorem dX11_thing_149 : ml_d cX11_thing 149 (.iload 5) 2 151 := ⟨by decide +kernel, rfl⟩
theorem dX11_thing_151 : ml_j cX11_thing 151 .goto 155 154 := ⟨4, by decide +kernel, by decide, rfl⟩
theorem dX11_thing_154 : ml_d cX11_thing 154 (.iconst 0) 1 155 := ⟨by decide +kernel, rfl⟩
theorem dX11_thing_155 : ml_d cX11_thing 155 (.iastore) 1 156 := ⟨by decide +kernel, rfl⟩
theorem dX11_thing_156 : ml_d cX11_thing 156 (.aload_n 0) 1 157 := ⟨by decide +kernel, rfl⟩
theorem dX11_thing_157 : ml_d cX11_thing 157 (.dup) 1 158 := ⟨by decide +kernel, rfl⟩
theorem dX11_thing_158 : ml_d cX11_thing 158 (.getfield 181) 3 161 := ⟨by decide +kernel, rfl⟩
theorem dX11_thing_161 : ml_d cX11_thing 161 (.iconst 1) 1 162 := ⟨by decide +kernel, rfl⟩
theorem dX11_thing_162 : ml_d cX11_thing 162 (.iadd) 1 163 := ⟨by decide +kernel, rfl⟩
theorem dX11_thing_163 : ml_d cX11_thing 163 (.putfield 181) 3 166 := ⟨by decide +kernel, rfl⟩
theorem dX11_thing_166 : ml_d cX11_thing 166 (.aload_n 0) 1 167 := ⟨by decide +kernel, rfl⟩
theorem dX11_thing_167 : ml_d cX11_thing 167 (.getfield 181) 3 170 := ⟨by decide +kernel, rfl⟩
theorem dX11_thing_170 : ml_d cX11_thing 170 (.iconst 1) 1 171 := ⟨by decide +kernel, rfl⟩
theorem dX11_thing_171 : ml_d cX11_thing 171 (.isub) 1 172 := ⟨by decide +kernel, rfl⟩
theorem dX11_thing_172 : ml_d cX11_thing 172 (.ireturn) 1 173 := ⟨by decide +kernel, rfl⟩
def fX11_thing_155 (l0 : Nat) (t0 : Int32) (t1 : Int32) (t2 : Nat) (m : ml_M) : Option (Int32 × ml_M) :=
    if ml_in m t2 20 t1 then
    ml_let (ml_sI m t2 t1.toNatClampNeg t0) fun m1616 =>
    if (ml_K m1616 l0).1 = 11 then
    ml_let (ml_sI m1616 l0 24 ((ml_I m1616 l0 24) + (1 : Int32))) fun m1619 =>
    some (((ml_I m1619 l0 24) - (1 : Int32)), m1619)
    else none
    else none
theorem vX11_thing_155 {E : ml_E} (hL : ml_eL E = 7) {rv : Int32} {rm : ml_M} (hr : ∀ (pc pc' : Nat) (lv : List (Nat × ml_X)), ml_d cX11_thing pc .ireturn 1 pc' → True → ml_V E "LostRoomModel" cX11_thing 5 false rm pc lv [ml_i rv]) : ∀ (l0 : Nat) (t0 : Int32) (t1 : Int32) (t2 : Nat) (m : ml_M), fX11_thing_155 l0 t0 t1 t2 m = some (rv, rm) → ml_V E "LostRoomModel" cX11_thing 5 false m 155 [(0, ml_r l0)] [ml_i t0, ml_i t1, ml_r t2] := by
  intro l0 t0 t1 t2 m h
  unfold fX11_thing_155 at h
  exact ml_ck_of h fun hi1615 h => ml_iast dX11_thing_155 hi1615 <| ml_lt (m := m) rfl h fun m1616 em1617 h => ml_aload_n dX11_thing_156 0 rfl <| ml_dup dX11_thing_157 rfl <| ml_ck_of h fun hc1618 h => ml_getI dX11_thing_158 wb_228 hc1618 <| ml_iconst dX11_thing_161 kc_i1 <| ml_iadd dX11_thing_162 <| ml_putI dX11_thing_163 wb_192 hc1618 <| ml_lt (m := m1616) rfl h fun m1619 em1620 h => ml_aload_n dX11_thing_166 0 rfl <| ml_getI dX11_thing_167 wb_228 (ml_kk em1620 hc1618) <| ml_iconst dX11_thing_170 kc_i1 <| ml_isub dX11_thing_171 <| ml_rI (mk := ml_i) hr dX11_thing_172 (fun _ => trivial) h
def fX11_thing_134 (l0 : Nat) (l1 : Int32) (l5 : Int32) (l6 : Int32) (t0 : Int32) (t1 : Int32) (t2 : Nat) (m : ml_M) : Option (Int32 × ml_M) :=
    if ml_in m t2 20 t1 then
    ml_let (ml_sI m t2 t1.toNatClampNeg t0) fun m1622 =>
    if (ml_K m1622 l0).1 = 11 then
    ml_let (ml_R m1622 l0 25) fun a1625 =>
    if l1 = (3 : Int32) then
    fX11_thing_155 l0 l5 (l6 + (6 : Int32)) a1625 m1622
    else
    fX11_thing_155 l0 (0 : Int32) (l6 + (6 : Int32)) a1625 m1622
    else none
    else none
theorem vX11_thing_134 {E : ml_E} (hL : ml_eL E = 7) {rv : Int32} {rm : ml_M} (hr : ∀ (pc pc' : Nat) (lv : List (Nat × ml_X)), ml_d cX11_thing pc .ireturn 1 pc' → True → ml_V E "LostRoomModel" cX11_thing 5 false rm pc lv [ml_i rv]) : ∀ (l0 : Nat) (l1 : Int32) (l5 : Int32) (l6 : Int32) (t0 : Int32) (t1 : Int32) (t2 : Nat) (m : ml_M), fX11_thing_134 l0 l1 l5 l6 t0 t1 t2 m = some (rv, rm) → ml_V E "LostRoomModel" cX11_thing 5 false m 134 [(0, ml_r l0), (1, ml_i l1), (5, ml_i l5), (6, ml_i l6)] [ml_i t0, ml_i t1, ml_r t2] := by
  intro l0 l1 l5 l6 t0 t1 t2 m h
  unfold fX11_thing_134 at h
  exact ml_ck_of h fun hi1621 h => ml_iast dX11_thing_134 hi1621 <| ml_lt (m := m) rfl h fun m1622 em1623 h => ml_aload_n dX11_thing_135 0 rfl <| ml_ck_of h fun hc1624 h => ml_getR dX11_thing_136 wb_227 hc1624 <| ml_lx (mk := ml_r) h fun a1625 h => ml_iload dX11_thing_139 3 rfl <| ml_bipush dX11_thing_141 kc_b6 <| ml_iadd dX11_thing_143 <| ml_iload_n dX11_thing_144 1 rfl <| ml_iconst dX11_thing_145 kc_i3 <| ml_icmp_ne dX11_thing_146 h (fun _ h => ml_iconst dX11_thing_154 kc_i0 <| ml_V.sub [0] rfl (vX11_thing_155 hL hr  _ _ _ _ _ h)) (fun _ h => ml_iload dX11_thing_149 2 rfl <| ml_goto dX11_thing_151 <| ml_V.sub [0] rfl (vX11_thing_155 hL hr  _ _ _ _ _ h))
def fX11_thing (l0 : Nat) (l1 : Int32) (l2 : Int32) (l3 : Int32) (l4 : Int32) (l5 : Int32) (m : ml_M) : Option (Int32 × ml_M) :=
    ml_b1 (fX11_isYears l2 l3 m) fun r1627 =>
    if r1627 = 0 then
    some ((-1 : Int32), m)
    else
    if (ml_K m l0).1 = 11 then
    ml_b1 (fX11_isThingTold l0 l1 l4 l5 m) fun r1630 =>
    if r1630 = 0 then
    some ((-1 : Int32), m)
    else
    if (ml_I m l0 24) = (20 : Int32) then
    some ((-2 : Int32), m)
    else
    ml_let ((7 : Int32) * (ml_I m l0 24)) fun x1631 =>
    ml_let (ml_R m l0 25) fun a1632 =>
    if ml_in m a1632 20 x1631 then
    ml_let (ml_sI m a1632 x1631.toNatClampNeg l1) fun m1634 =>
    ml_let (ml_R m1634 l0 25) fun a1636 =>
    if ml_in m1634 a1636 20 (x1631 + (1 : Int32)) then
    ml_let (ml_sI m1634 a1636 (x1631 + (1 : Int32)).toNatClampNeg l2) fun m1638 =>
    ml_let (ml_R m1638 l0 25) fun a1640 =>
    if ml_in m1638 a1640 20 (x1631 + (2 : Int32)) then
    ml_let (ml_sI m1638 a1640 (x1631 + (2 : Int32)).toNatClampNeg l3) fun m1642 =>
    ml_let (ml_R m1642 l0 25) fun a1644 =>
    if ml_in m1642 a1644 20 (x1631 + (3 : Int32)) then
    ml_let (ml_sI m1642 a1644 (x1631 + (3 : Int32)).toNatClampNeg (-9 : Int32)) fun m1646 =>
    ml_let (ml_R m1646 l0 25) fun a1648 =>
    if ml_in m1646 a1648 20 (x1631 + (4 : Int32)) then
    ml_let (ml_sI m1646 a1648 (x1631 + (4 : Int32)).toNatClampNeg (0 : Int32)) fun m1650 =>
    ml_let (ml_R m1650 l0 25) fun a1652 =>
    if l1 = (2 : Int32) then
    fX11_thing_134 l0 l1 l5 x1631 (((10 : Int32) * l4) + l5) (x1631 + (5 : Int32)) a1652 m1650
    else
    if l1 = (4 : Int32) then
    fX11_thing_134 l0 l1 l5 x1631 (((10 : Int32) * l4) + l5) (x1631 + (5 : Int32)) a1652 m1650
    else
    fX11_thing_134 l0 l1 l5 x1631 l4 (x1631 + (5 : Int32)) a1652 m1650
    else none
    else none
    else none
    else none
    else none
    else none
theorem wX11_thing_0 {E : ml_E} (hL : ml_eL E = 7) {rv : Int32} {rm : ml_M} (hr : ∀ (pc pc' : Nat) (lv : List (Nat × ml_X)), ml_d cX11_thing pc .ireturn 1 pc' → True → ml_V E "LostRoomModel" cX11_thing 5 false rm pc lv [ml_i rv]) : ∀ (l0 : Nat) (l1 : Int32) (l2 : Int32) (l3 : Int32) (l4 : Int32) (l5 : Int32) (m : ml_M), fX11_thing l0 l1 l2 l3 l4 l5 m = some (rv, rm) → ml_V E "LostRoomModel" cX11_thing 5 false m 0 [(0, ml_r l0), (1, ml_i l1), (2, ml_i l2), (3, ml_i l3), (4, ml_i l4), (5, ml_i l5)] [] := by
  intro l0 l1 l2 l3 l4 l5 m h
  unfold fX11_thing at h
  exact ml_iload_n dX11_thing_0 2 rfl <| ml_iload_n dX11_thing_1 3 rfl <| ml_b1_of h fun r1627 hv1626 h => ml_callS dX11_thing_2 wm_385 wb_262 (sX11_isYears hv1626) rfl (Nat.le_of_ble_eq_true rfl) (Nat.le_of_ble_eq_true rfl) rfl <| ml_if_eq dX11_thing_5 h (fun _ h => ml_iconst dX11_thing_20 kc_im1 <| ml_rI (mk := ml_i) hr dX11_thing_21 (fun _ => trivial) h) (fun _ h => ml_aload_n dX11_thing_8 0 rfl <| ml_iload_n dX11_thing_9 1 rfl <| ml_iload dX11_thing_10 4 rfl <| ml_iload dX11_thing_12 5 rfl <| ml_ck_of h fun hc1629 h => ml_b1_of h fun r1630 hv1628 h => ml_callV dX11_thing_14 wm_389 wb_263 hc1629 (sX11_isThingTold hv1628) rfl (Nat.le_of_ble_eq_true rfl) (Nat.le_of_ble_eq_true rfl) rfl <| ml_if_ne dX11_thing_17 h (fun _ h => ml_aload_n dX11_thing_22 0 rfl <| ml_getI dX11_thing_23 wb_228 hc1629 <| ml_bipush dX11_thing_26 kc_b20 <| ml_icmp_ne dX11_thing_28 h (fun _ h => ml_bipush dX11_thing_34 kc_b7 <| ml_aload_n dX11_thing_36 0 rfl <| ml_getI dX11_thing_37 wb_228 hc1629 <| ml_imul dX11_thing_40 <| ml_lx (mk := ml_i) h fun x1631 h => ml_istore (lv' := [(6, ml_i x1631), (0, ml_r l0), (1, ml_i l1), (2, ml_i l2), (3, ml_i l3), (4, ml_i l4), (5, ml_i l5)]) dX11_thing_41 (ml_hn hL rfl) rfl <| ml_aload_n dX11_thing_43 1 rfl <| ml_getR dX11_thing_44 wb_227 hc1629 <| ml_lx (mk := ml_r) h fun a1632 h => ml_iload dX11_thing_47 0 rfl <| ml_iload_n dX11_thing_49 2 rfl <| ml_ck_of h fun hi1633 h => ml_iast dX11_thing_50 hi1633 <| ml_lt (m := m) rfl h fun m1634 em1635 h => ml_aload_n dX11_thing_51 1 rfl <| ml_getR dX11_thing_52 wb_227 (ml_kk em1635 hc1629) <| ml_lx (mk := ml_r) h fun a1636 h => ml_iload dX11_thing_55 0 rfl <| ml_iconst dX11_thing_57 kc_i1 <| ml_iadd dX11_thing_58 <| ml_iload_n dX11_thing_59 3 rfl <| ml_ck_of h fun hi1637 h => ml_iast dX11_thing_60 hi1637 <| ml_lt (m := m1634) rfl h fun m1638 em1639 h => ml_aload_n dX11_thing_61 1 rfl <| ml_getR dX11_thing_62 wb_227 (ml_kk em1639 (ml_kk em1635 hc1629)) <| ml_lx (mk := ml_r) h fun a1640 h => ml_iload dX11_thing_65 0 rfl <| ml_iconst dX11_thing_67 kc_i2 <| ml_iadd dX11_thing_68 <| ml_iload_n dX11_thing_69 4 rfl <| ml_ck_of h fun hi1641 h => ml_iast dX11_thing_70 hi1641 <| ml_lt (m := m1638) rfl h fun m1642 em1643 h => ml_aload_n dX11_thing_71 1 rfl <| ml_getR dX11_thing_72 wb_227 (ml_kk em1643 (ml_kk em1639 (ml_kk em1635 hc1629))) <| ml_lx (mk := ml_r) h fun a1644 h => ml_iload dX11_thing_75 0 rfl <| ml_iconst dX11_thing_77 kc_i3 <| ml_iadd dX11_thing_78 <| ml_bipush dX11_thing_79 kc_bm9 <| ml_ck_of h fun hi1645 h => ml_iast dX11_thing_81 hi1645 <| ml_lt (m := m1642) rfl h fun m1646 em1647 h => ml_aload_n dX11_thing_82 1 rfl <| ml_getR dX11_thing_83 wb_227 (ml_kk em1647 (ml_kk em1643 (ml_kk em1639 (ml_kk em1635 hc1629)))) <| ml_lx (mk := ml_r) h fun a1648 h => ml_iload dX11_thing_86 0 rfl <| ml_iconst dX11_thing_88 kc_i4 <| ml_iadd dX11_thing_89 <| ml_iconst dX11_thing_90 kc_i0 <| ml_ck_of h fun hi1649 h => ml_iast dX11_thing_91 hi1649 <| ml_lt (m := m1646) rfl h fun m1650 em1651 h => ml_aload_n dX11_thing_92 1 rfl <| ml_getR dX11_thing_93 wb_227 (ml_kk em1651 (ml_kk em1647 (ml_kk em1643 (ml_kk em1639 (ml_kk em1635 hc1629))))) <| ml_lx (mk := ml_r) h fun a1652 h => ml_iload dX11_thing_96 0 rfl <| ml_iconst dX11_thing_98 kc_i5 <| ml_iadd dX11_thing_99 <| ml_iload_n dX11_thing_100 2 rfl <| ml_iconst dX11_thing_101 kc_i2 <| ml_icmp_ne dX11_thing_102 h (fun _ h => ml_iload_n dX11_thing_116 2 rfl <| ml_iconst dX11_thing_117 kc_i4 <| ml_icmp_ne dX11_thing_118 h (fun _ h => ml_iload dX11_thing_132 5 rfl <| ml_V.sub [1, 2, 6, 0] rfl (vX11_thing_134 hL hr  _ _ _ _ _ _ _ _ h)) (fun _ h => ml_bipush dX11_thing_121 kc_b10 <| ml_iload dX11_thing_123 5 rfl <| ml_imul dX11_thing_125 <| ml_iload dX11_thing_126 6 rfl <| ml_iadd dX11_thing_128 <| ml_goto dX11_thing_129 <| ml_V.sub [1, 2, 6, 0] rfl (vX11_thing_134 hL hr  _ _ _ _ _ _ _ _ h))) (fun _ h => ml_bipush dX11_thing_105 kc_b10 <| ml_iload dX11_thing_107 5 rfl <| ml_imul dX11_thing_109 <| ml_iload dX11_thing_110 6 rfl <| ml_iadd dX11_thing_112 <| ml_goto dX11_thing_113 <| ml_V.sub [1, 2, 6, 0] rfl (vX11_thing_134 hL hr  _ _ _ _ _ _ _ _ h))) (fun _ h => ml_bipush dX11_thing_31 kc_bm2 <| ml_rI (mk := ml_i) hr dX11_thing_33 (fun _ => trivial) h)) (fun _ h => ml_iconst dX11_thing_20 kc_im1 <| ml_rI (mk := ml_i) hr dX11_thing_21 (fun _ => trivial) h))
theorem sX11_thing {l0 : Nat} {l1 : Int32} {l2 : Int32} {l3 : Int32} {l4 : Int32} {l5 : Int32} {m : ml_M} {rv : Int32} {rm : ml_M} (h : fX11_thing l0 l1 l2 l3 l4 l5 m = some (rv, rm)) : ml_Sn yX11_thing cX11_thing 7 (some .int) 5 [ml_r l0, ml_i l1, ml_i l2, ml_i l3, ml_i l4, ml_i l5] m (some (ml_i rv)) rm :=
  ml_Sn_of (P := True) (ini := false) (by decide +kernel) (Nat.le_of_ble_eq_true rfl) (fun h => by cases h) (fun _ => ml_RkI rv) fun E hL hr => wX11_thing_0 hL hr _ _ _ _ _ _ _ h
theorem dX10_isThing_0 : ml_d cX10_isThing 0 (.iload_n 1) 1 1 := ⟨by decide +kernel, rfl⟩
theorem dX10_isThing_1 : ml_d cX10_isThing 1 (.iconst 0) 1 2 := ⟨by decide +kernel, rfl⟩
theorem dX10_isThing_2 : ml_d cX10_isThing 2 (.aload_n 0) 1 3 := ⟨by decide +kernel, rfl⟩
theorem dX10_isThing_3 : ml_d cX10_isThing 3 (.getfield 118) 3 6 := ⟨by decide +kernel, rfl⟩
theorem dX10_isThing_6 : ml_d cX10_isThing 6 (.iconst 1) 1 7 := ⟨by decide +kernel, rfl⟩
theorem dX10_isThing_7 : ml_d cX10_isThing 7 (.isub) 1 8 := ⟨by decide +kernel, rfl⟩
theorem dX10_isThing_8 : ml_d cX10_isThing 8 (.invokestatic 138) 3 11 := ⟨by decide +kernel, rfl⟩
theorem dX10_isThing_11 : ml_d cX10_isThing 11 (.ireturn) 1 12 := ⟨by decide +kernel, rfl⟩
def fX10_isThing (l0 : Nat) (l1 : Int32) (m : ml_M) : Option Int32 :=
    if (ml_K m l0).1 = 10 then
    ml_b1 (fX10_within l1 (0 : Int32) ((ml_I m l0 5) - (1 : Int32)) m) fun r1655 =>
    if r1655 = 0 ∨ r1655 = 1 then some r1655 else none
    else none
theorem wX10_isThing_0 {E : ml_E} (hL : ml_eL E = 2) {rv : Int32} {m : ml_M} (hr : ∀ (pc pc' : Nat) (lv : List (Nat × ml_X)), ml_d cX10_isThing pc .ireturn 1 pc' → (rv = 0 ∨ rv = 1) → ml_V E "LostRoom" cX10_isThing 3 false m pc lv [ml_i rv]) : ∀ (l0 : Nat) (l1 : Int32), fX10_isThing l0 l1 m = some rv → ml_V E "LostRoom" cX10_isThing 3 false m 0 [(0, ml_r l0), (1, ml_i l1)] [] := by
  intro l0 l1 h
  unfold fX10_isThing at h
  exact ml_iload_n dX10_isThing_0 1 rfl <| ml_iconst dX10_isThing_1 kc_i0 <| ml_aload_n dX10_isThing_2 0 rfl <| ml_ck_of h fun hc1653 h => ml_getI dX10_isThing_3 wb_217 hc1653 <| ml_iconst dX10_isThing_6 kc_i1 <| ml_isub dX10_isThing_7 <| ml_b1_of h fun r1655 hv1654 h => ml_callS dX10_isThing_8 wm_124 wb_94 (sX10_within hv1654) rfl (Nat.le_of_ble_eq_true rfl) (Nat.le_of_ble_eq_true rfl) rfl <| ml_ck_of h fun hz1656 h => ml_rp (mk := ml_i) hr dX10_isThing_11 (fun e => e ▸ hz1656) h
theorem sX10_isThing {l0 : Nat} {l1 : Int32} {m : ml_M} {rv : Int32} (h : fX10_isThing l0 l1 m = some rv) : ml_Sn yX10_isThing cX10_isThing 2 (some .boolean) 3 [ml_r l0, ml_i l1] m (some (ml_i rv)) m :=
  ml_Sn_of (P := (rv = 0 ∨ rv = 1)) (ini := false) (by decide +kernel) (Nat.le_of_ble_eq_true rfl) (fun h => by cases h) (fun hz => ml_RkZ rv hz) fun E hL hr => wX10_isThing_0 hL hr _ _ h
theorem dX10_lies_0 : ml_d cX10_lies 0 (.aload_n 0) 1 1 := ⟨by decide +kernel, rfl⟩
theorem dX10_lies_1 : ml_d cX10_lies 1 (.iload_n 1) 1 2 := ⟨by decide +kernel, rfl⟩
theorem dX10_lies_2 : ml_d cX10_lies 2 (.invokevirtual 172) 3 5 := ⟨by decide +kernel, rfl⟩
theorem dX10_lies_5 : ml_j cX10_lies 5 (.ifCond .ne) 10 8 := ⟨5, by decide +kernel, by decide, rfl⟩
theorem dX10_lies_8 : ml_d cX10_lies 8 (.iconst (-1)) 1 9 := ⟨by decide +kernel, rfl⟩
theorem dX10_lies_9 : ml_d cX10_lies 9 (.ireturn) 1 10 := ⟨by decide +kernel, rfl⟩
theorem dX10_lies_10 : ml_d cX10_lies 10 (.iload_n 2) 1 11 := ⟨by decide +kernel, rfl⟩
theorem dX10_lies_11 : ml_d cX10_lies 11 (.bipush (-9)) 2 13 := ⟨by decide +kernel, rfl⟩
theorem dX10_lies_13 : ml_j cX10_lies 13 (.if_icmp .eq) 26 16 := ⟨13, by decide +kernel, by decide, rfl⟩
theorem dX10_lies_16 : ml_d cX10_lies 16 (.aload_n 0) 1 17 := ⟨by decide +kernel, rfl⟩
theorem dX10_lies_17 : ml_d cX10_lies 17 (.iload_n 2) 1 18 := ⟨by decide +kernel, rfl⟩
theorem dX10_lies_18 : ml_d cX10_lies 18 (.invokevirtual 148) 3 21 := ⟨by decide +kernel, rfl⟩
theorem dX10_lies_21 : ml_j cX10_lies 21 (.ifCond .ne) 26 24 := ⟨5, by decide +kernel, by decide, rfl⟩
theorem dX10_lies_24 : ml_d cX10_lies 24 (.iconst (-1)) 1 25 := ⟨by decide +kernel, rfl⟩
theorem dX10_lies_25 : ml_d cX10_lies 25 (.ireturn) 1 26 := ⟨by decide +kernel, rfl⟩
theorem dX10_lies_26 : ml_d cX10_lies 26 (.aload_n 0) 1 27 := ⟨by decide +kernel, rfl⟩
theorem dX10_lies_27 : ml_d cX10_lies 27 (.getfield 36) 3 30 := ⟨by decide +kernel, rfl⟩
theorem dX10_lies_30 : ml_d cX10_lies 30 (.iload_n 1) 1 31 := ⟨by decide +kernel, rfl⟩
theorem dX10_lies_31 : ml_d cX10_lies 31 (.aaload) 1 32 := ⟨by decide +kernel, rfl⟩
theorem dX10_lies_32 : ml_d cX10_lies 32 (.iload_n 2) 1 33 := ⟨by decide +kernel, rfl⟩
theorem dX10_lies_33 : ml_d cX10_lies 33 (.putfield 175) 3 36 := ⟨by decide +kernel, rfl⟩
theorem dX10_lies_36 : ml_d cX10_lies 36 (.aload_n 0) 1 37 := ⟨by decide +kernel, rfl⟩
theorem dX10_lies_37 : ml_d cX10_lies 37 (.getfield 36) 3 40 := ⟨by decide +kernel, rfl⟩
theorem dX10_lies_40 : ml_d cX10_lies 40 (.iload_n 1) 1 41 := ⟨by decide +kernel, rfl⟩
theorem dX10_lies_41 : ml_d cX10_lies 41 (.aaload) 1 42 := ⟨by decide +kernel, rfl⟩
theorem dX10_lies_42 : ml_d cX10_lies 42 (.iload_n 3) 1 43 := ⟨by decide +kernel, rfl⟩
theorem dX10_lies_43 : ml_d cX10_lies 43 (.putfield 178) 3 46 := ⟨by decide +kernel, rfl⟩
theorem dX10_lies_46 : ml_d cX10_lies 46 (.aload_n 0) 1 47 := ⟨by decide +kernel, rfl⟩
theorem dX10_lies_47 : ml_d cX10_lies 47 (.getfield 61) 3 50 := ⟨by decide +kernel, rfl⟩
theorem dX10_lies_50 : ml_d cX10_lies 50 (.iconst 1) 1 51 := ⟨by decide +kernel, rfl⟩
theorem dX10_lies_51 : ml_d cX10_lies 51 (.putfield 130) 3 54 := ⟨by decide +kernel, rfl⟩
theorem dX10_lies_54 : ml_d cX10_lies 54 (.iconst 1) 1 55 := ⟨by decide +kernel, rfl⟩
theorem dX10_lies_55 : ml_d cX10_lies 55 (.ireturn) 1 56 := ⟨by decide +kernel, rfl⟩
def fX10_lies_26 (l0 : Nat) (l1 : Int32) (l2 : Int32) (l3 : Int32) (m : ml_M) : Option (Int32 × ml_M) :=
    if (ml_K m l0).1 = 10 then
    ml_let (ml_R m l0 4) fun a1658 =>
    if ml_in m a1658 29 l1 then
    ml_let (ml_R m a1658 l1.toNatClampNeg) fun a1660 =>
    if (ml_K m a1660).1 = 8 then
    ml_let (ml_sI m a1660 6 l2) fun m1662 =>
    ml_let (ml_R m1662 l0 4) fun a1664 =>
    if ml_in m1662 a1664 29 l1 then
    ml_let (ml_R m1662 a1664 l1.toNatClampNeg) fun a1666 =>
    if (ml_K m1662 a1666).1 = 8 then
    if l3 = 0 ∨ l3 = 1 then
    ml_let (ml_sI m1662 a1666 7 l3) fun m1669 =>
    ml_let (ml_R m1669 l0 12) fun a1671 =>
    if (ml_K m1669 a1671).1 = 7 then
    ml_let (ml_sI m1669 a1671 0 (1 : Int32)) fun m1673 =>
    some ((1 : Int32), m1673)
    else none
    else none
    else none
    else none
    else none
    else none
    else none
theorem vX10_lies_26 {E : ml_E} (hL : ml_eL E = 4) {rv : Int32} {rm : ml_M} (hr : ∀ (pc pc' : Nat) (lv : List (Nat × ml_X)), ml_d cX10_lies pc .ireturn 1 pc' → True → ml_V E "LostRoom" cX10_lies 4 false rm pc lv [ml_i rv]) : ∀ (l0 : Nat) (l1 : Int32) (l2 : Int32) (l3 : Int32) (m : ml_M), fX10_lies_26 l0 l1 l2 l3 m = some (rv, rm) → ml_V E "LostRoom" cX10_lies 4 false m 26 [(0, ml_r l0), (1, ml_i l1), (2, ml_i l2), (3, ml_i l3)] [] := by
  intro l0 l1 l2 l3 m h
  unfold fX10_lies_26 at h
  exact ml_aload_n dX10_lies_26 0 rfl <| ml_ck_of h fun hc1657 h => ml_getR dX10_lies_27 wb_218 hc1657 <| ml_lx (mk := ml_r) h fun a1658 h => ml_iload_n dX10_lies_30 1 rfl <| ml_ck_of h fun hi1659 h => ml_aald (kd := 29) dX10_lies_31 (by decide) hi1659 <| ml_lx (mk := ml_r) h fun a1660 h => ml_iload_n dX10_lies_32 2 rfl <| ml_ck_of h fun hc1661 h => ml_putI dX10_lies_33 wb_264 hc1661 <| ml_lt (m := m) rfl h fun m1662 em1663 h => ml_aload_n dX10_lies_36 0 rfl <| ml_getR dX10_lies_37 wb_218 (ml_kk em1663 hc1657) <| ml_lx (mk := ml_r) h fun a1664 h => ml_iload_n dX10_lies_40 1 rfl <| ml_ck_of h fun hi1665 h => ml_aald (kd := 29) dX10_lies_41 (by decide) hi1665 <| ml_lx (mk := ml_r) h fun a1666 h => ml_iload_n dX10_lies_42 3 rfl <| ml_ck_of h fun hc1667 h => ml_ck_of h fun hz1668 h => ml_putZ dX10_lies_43 wb_265 hc1667 hz1668 <| ml_lt (m := m1662) rfl h fun m1669 em1670 h => ml_aload_n dX10_lies_46 0 rfl <| ml_getR dX10_lies_47 wb_185 (ml_kk em1670 (ml_kk em1663 hc1657)) <| ml_lx (mk := ml_r) h fun a1671 h => ml_iconst dX10_lies_50 kc_i1 <| ml_ck_of h fun hc1672 h => ml_putZ dX10_lies_51 wb_186 hc1672 (Or.inr rfl) <| ml_lt (m := m1669) rfl h fun m1673 em1674 h => ml_iconst dX10_lies_54 kc_i1 <| ml_rI (mk := ml_i) hr dX10_lies_55 (fun _ => trivial) h
def fX10_lies (l0 : Nat) (l1 : Int32) (l2 : Int32) (l3 : Int32) (m : ml_M) : Option (Int32 × ml_M) :=
    if (ml_K m l0).1 = 10 then
    ml_b1 (fX10_isThing l0 l1 m) fun r1677 =>
    if r1677 = 0 then
    some ((-1 : Int32), m)
    else
    if l2 = (-9 : Int32) then
    fX10_lies_26 l0 l1 l2 l3 m
    else
    ml_b1 (fX10_isTrunk l0 l2 m) fun r1679 =>
    if r1679 = 0 then
    some ((-1 : Int32), m)
    else
    fX10_lies_26 l0 l1 l2 l3 m
    else none
theorem wX10_lies_0 {E : ml_E} (hL : ml_eL E = 4) {rv : Int32} {rm : ml_M} (hr : ∀ (pc pc' : Nat) (lv : List (Nat × ml_X)), ml_d cX10_lies pc .ireturn 1 pc' → True → ml_V E "LostRoom" cX10_lies 4 false rm pc lv [ml_i rv]) : ∀ (l0 : Nat) (l1 : Int32) (l2 : Int32) (l3 : Int32) (m : ml_M), fX10_lies l0 l1 l2 l3 m = some (rv, rm) → ml_V E "LostRoom" cX10_lies 4 false m 0 [(0, ml_r l0), (1, ml_i l1), (2, ml_i l2), (3, ml_i l3)] [] := by
  intro l0 l1 l2 l3 m h
  unfold fX10_lies at h
  exact ml_aload_n dX10_lies_0 0 rfl <| ml_iload_n dX10_lies_1 1 rfl <| ml_ck_of h fun hc1676 h => ml_b1_of h fun r1677 hv1675 h => ml_callV dX10_lies_2 wm_394 wb_266 hc1676 (sX10_isThing hv1675) rfl (Nat.le_of_ble_eq_true rfl) (Nat.le_of_ble_eq_true rfl) rfl <| ml_if_ne dX10_lies_5 h (fun _ h => ml_iload_n dX10_lies_10 2 rfl <| ml_bipush dX10_lies_11 kc_bm9 <| ml_icmp_eq dX10_lies_13 h (fun _ h => ml_V.sub [0, 1, 2, 3] rfl (vX10_lies_26 hL hr  _ _ _ _ _ h)) (fun _ h => ml_aload_n dX10_lies_16 0 rfl <| ml_iload_n dX10_lies_17 2 rfl <| ml_b1_of h fun r1679 hv1678 h => ml_callV dX10_lies_18 wm_317 wb_225 hc1676 (sX10_isTrunk hv1678) rfl (Nat.le_of_ble_eq_true rfl) (Nat.le_of_ble_eq_true rfl) rfl <| ml_if_ne dX10_lies_21 h (fun _ h => ml_V.sub [0, 1, 2, 3] rfl (vX10_lies_26 hL hr  _ _ _ _ _ h)) (fun _ h => ml_iconst dX10_lies_24 kc_im1 <| ml_rI (mk := ml_i) hr dX10_lies_25 (fun _ => trivial) h))) (fun _ h => ml_iconst dX10_lies_8 kc_im1 <| ml_rI (mk := ml_i) hr dX10_lies_9 (fun _ => trivial) h)
theorem sX10_lies {l0 : Nat} {l1 : Int32} {l2 : Int32} {l3 : Int32} {m : ml_M} {rv : Int32} {rm : ml_M} (h : fX10_lies l0 l1 l2 l3 m = some (rv, rm)) : ml_Sn yX10_lies cX10_lies 4 (some .int) 4 [ml_r l0, ml_i l1, ml_i l2, ml_i l3] m (some (ml_i rv)) rm :=
  ml_Sn_of (P := True) (ini := false) (by decide +kernel) (Nat.le_of_ble_eq_true rfl) (fun h => by cases h) (fun _ => ml_RkI rv) fun E hL hr => wX10_lies_0 hL hr _ _ _ _ _ h
theorem dX11_isThing_0 : ml_d cX11_isThing 0 (.iload_n 1) 1 1 := ⟨by decide +kernel, rfl⟩
theorem dX11_isThing_1 : ml_d cX11_isThing 1 (.iconst 0) 1 2 := ⟨by decide +kernel, rfl⟩
theorem dX11_isThing_2 : ml_d cX11_isThing 2 (.aload_n 0) 1 3 := ⟨by decide +kernel, rfl⟩
theorem dX11_isThing_3 : ml_d cX11_isThing 3 (.getfield 181) 3 6 := ⟨by decide +kernel, rfl⟩
theorem dX11_isThing_6 : ml_d cX11_isThing 6 (.iconst 1) 1 7 := ⟨by decide +kernel, rfl⟩
theorem dX11_isThing_7 : ml_d cX11_isThing 7 (.isub) 1 8 := ⟨by decide +kernel, rfl⟩
theorem dX11_isThing_8 : ml_d cX11_isThing 8 (.invokestatic 100) 3 11 := ⟨by decide +kernel, rfl⟩
theorem dX11_isThing_11 : ml_d cX11_isThing 11 (.ireturn) 1 12 := ⟨by decide +kernel, rfl⟩
def fX11_isThing (l0 : Nat) (l1 : Int32) (m : ml_M) : Option Int32 :=
    if (ml_K m l0).1 = 11 then
    ml_b1 (fX11_in l1 (0 : Int32) ((ml_I m l0 24) - (1 : Int32)) m) fun r1682 =>
    if r1682 = 0 ∨ r1682 = 1 then some r1682 else none
    else none
theorem wX11_isThing_0 {E : ml_E} (hL : ml_eL E = 2) {rv : Int32} {m : ml_M} (hr : ∀ (pc pc' : Nat) (lv : List (Nat × ml_X)), ml_d cX11_isThing pc .ireturn 1 pc' → (rv = 0 ∨ rv = 1) → ml_V E "LostRoomModel" cX11_isThing 3 false m pc lv [ml_i rv]) : ∀ (l0 : Nat) (l1 : Int32), fX11_isThing l0 l1 m = some rv → ml_V E "LostRoomModel" cX11_isThing 3 false m 0 [(0, ml_r l0), (1, ml_i l1)] [] := by
  intro l0 l1 h
  unfold fX11_isThing at h
  exact ml_iload_n dX11_isThing_0 1 rfl <| ml_iconst dX11_isThing_1 kc_i0 <| ml_aload_n dX11_isThing_2 0 rfl <| ml_ck_of h fun hc1680 h => ml_getI dX11_isThing_3 wb_228 hc1680 <| ml_iconst dX11_isThing_6 kc_i1 <| ml_isub dX11_isThing_7 <| ml_b1_of h fun r1682 hv1681 h => ml_callS dX11_isThing_8 wm_136 wb_100 (sX11_in hv1681) rfl (Nat.le_of_ble_eq_true rfl) (Nat.le_of_ble_eq_true rfl) rfl <| ml_ck_of h fun hz1683 h => ml_rp (mk := ml_i) hr dX11_isThing_11 (fun e => e ▸ hz1683) h
theorem sX11_isThing {l0 : Nat} {l1 : Int32} {m : ml_M} {rv : Int32} (h : fX11_isThing l0 l1 m = some rv) : ml_Sn yX11_isThing cX11_isThing 2 (some .boolean) 3 [ml_r l0, ml_i l1] m (some (ml_i rv)) m :=
  ml_Sn_of (P := (rv = 0 ∨ rv = 1)) (ini := false) (by decide +kernel) (Nat.le_of_ble_eq_true rfl) (fun h => by cases h) (fun hz => ml_RkZ rv hz) fun E hL hr => wX11_isThing_0 hL hr _ _ h
theorem dX11_lies_0 : ml_d cX11_lies 0 (.aload_n 0) 1 1 := ⟨by decide +kernel, rfl⟩
theorem dX11_lies_1 : ml_d cX11_lies 1 (.iload_n 1) 1 2 := ⟨by decide +kernel, rfl⟩
theorem dX11_lies_2 : ml_d cX11_lies 2 (.invokevirtual 217) 3 5 := ⟨by decide +kernel, rfl⟩
theorem dX11_lies_5 : ml_j cX11_lies 5 (.ifCond .eq) 22 8 := ⟨17, by decide +kernel, by decide, rfl⟩
theorem dX11_lies_8 : ml_d cX11_lies 8 (.iload_n 2) 1 9 := ⟨by decide +kernel, rfl⟩
theorem dX11_lies_9 : ml_d cX11_lies 9 (.bipush (-9)) 2 11 := ⟨by decide +kernel, rfl⟩
theorem dX11_lies_11 : ml_j cX11_lies 11 (.if_icmp .eq) 24 14 := ⟨13, by decide +kernel, by decide, rfl⟩
theorem dX11_lies_14 : ml_d cX11_lies 14 (.aload_n 0) 1 15 := ⟨by decide +kernel, rfl⟩
theorem dX11_lies_15 : ml_d cX11_lies 15 (.iload_n 2) 1 16 := ⟨by decide +kernel, rfl⟩
theorem dX11_lies_16 : ml_d cX11_lies 16 (.invokevirtual 199) 3 19 := ⟨by decide +kernel, rfl⟩
theorem dX11_lies_19 : ml_j cX11_lies 19 (.ifCond .ne) 24 22 := ⟨5, by decide +kernel, by decide, rfl⟩
theorem dX11_lies_22 : ml_d cX11_lies 22 (.iconst (-1)) 1 23 := ⟨by decide +kernel, rfl⟩
theorem dX11_lies_23 : ml_d cX11_lies 23 (.ireturn) 1 24 := ⟨by decide +kernel, rfl⟩
theorem dX11_lies_24 : ml_d cX11_lies 24 (.aload_n 0) 1 25 := ⟨by decide +kernel, rfl⟩
theorem dX11_lies_25 : ml_d cX11_lies 25 (.getfield 47) 3 28 := ⟨by decide +kernel, rfl⟩
theorem dX11_lies_28 : ml_d cX11_lies 28 (.bipush 7) 2 30 := ⟨by decide +kernel, rfl⟩
theorem dX11_lies_30 : ml_d cX11_lies 30 (.iload_n 1) 1 31 := ⟨by decide +kernel, rfl⟩
theorem dX11_lies_31 : ml_d cX11_lies 31 (.imul) 1 32 := ⟨by decide +kernel, rfl⟩
theorem dX11_lies_32 : ml_d cX11_lies 32 (.iconst 3) 1 33 := ⟨by decide +kernel, rfl⟩
theorem dX11_lies_33 : ml_d cX11_lies 33 (.iadd) 1 34 := ⟨by decide +kernel, rfl⟩
theorem dX11_lies_34 : ml_d cX11_lies 34 (.iload_n 2) 1 35 := ⟨by decide +kernel, rfl⟩
theorem dX11_lies_35 : ml_d cX11_lies 35 (.iastore) 1 36 := ⟨by decide +kernel, rfl⟩
theorem dX11_lies_36 : ml_d cX11_lies 36 (.aload_n 0) 1 37 := ⟨by decide +kernel, rfl⟩
theorem dX11_lies_37 : ml_d cX11_lies 37 (.getfield 47) 3 40 := ⟨by decide +kernel, rfl⟩
theorem dX11_lies_40 : ml_d cX11_lies 40 (.bipush 7) 2 42 := ⟨by decide +kernel, rfl⟩
theorem dX11_lies_42 : ml_d cX11_lies 42 (.iload_n 1) 1 43 := ⟨by decide +kernel, rfl⟩
theorem dX11_lies_43 : ml_d cX11_lies 43 (.imul) 1 44 := ⟨by decide +kernel, rfl⟩
theorem dX11_lies_44 : ml_d cX11_lies 44 (.iconst 4) 1 45 := ⟨by decide +kernel, rfl⟩
theorem dX11_lies_45 : ml_d cX11_lies 45 (.iadd) 1 46 := ⟨by decide +kernel, rfl⟩
theorem dX11_lies_46 : ml_d cX11_lies 46 (.iload_n 3) 1 47 := ⟨by decide +kernel, rfl⟩
theorem dX11_lies_47 : ml_j cX11_lies 47 (.ifCond .eq) 54 50 := ⟨7, by decide +kernel, by decide, rfl⟩
theorem dX11_lies_50 : ml_d cX11_lies 50 (.iconst 1) 1 51 := ⟨by decide +kernel, rfl⟩
theorem dX11_lies_51 : ml_j cX11_lies 51 .goto 55 54 := ⟨4, by decide +kernel, by decide, rfl⟩
theorem dX11_lies_54 : ml_d cX11_lies 54 (.iconst 0) 1 55 := ⟨by decide +kernel, rfl⟩
theorem dX11_lies_55 : ml_d cX11_lies 55 (.iastore) 1 56 := ⟨by decide +kernel, rfl⟩
theorem dX11_lies_56 : ml_d cX11_lies 56 (.iconst 1) 1 57 := ⟨by decide +kernel, rfl⟩
theorem dX11_lies_57 : ml_d cX11_lies 57 (.ireturn) 1 58 := ⟨by decide +kernel, rfl⟩
def fX11_lies_55 (t0 : Int32) (t1 : Int32) (t2 : Nat) (m : ml_M) : Option (Int32 × ml_M) :=
    if ml_in m t2 20 t1 then
    ml_let (ml_sI m t2 t1.toNatClampNeg t0) fun m1685 =>
    some ((1 : Int32), m1685)
    else none
theorem vX11_lies_55 {E : ml_E} (hL : ml_eL E = 4) {rv : Int32} {rm : ml_M} (hr : ∀ (pc pc' : Nat) (lv : List (Nat × ml_X)), ml_d cX11_lies pc .ireturn 1 pc' → True → ml_V E "LostRoomModel" cX11_lies 4 false rm pc lv [ml_i rv]) : ∀ (t0 : Int32) (t1 : Int32) (t2 : Nat) (m : ml_M), fX11_lies_55 t0 t1 t2 m = some (rv, rm) → ml_V E "LostRoomModel" cX11_lies 4 false m 55 [] [ml_i t0, ml_i t1, ml_r t2] := by
  intro t0 t1 t2 m h
  unfold fX11_lies_55 at h
  exact ml_ck_of h fun hi1684 h => ml_iast dX11_lies_55 hi1684 <| ml_lt (m := m) rfl h fun m1685 em1686 h => ml_iconst dX11_lies_56 kc_i1 <| ml_rI (mk := ml_i) hr dX11_lies_57 (fun _ => trivial) h
def fX11_lies_24 (l0 : Nat) (l1 : Int32) (l2 : Int32) (l3 : Int32) (m : ml_M) : Option (Int32 × ml_M) :=
    if (ml_K m l0).1 = 11 then
    ml_let (ml_R m l0 25) fun a1688 =>
    if ml_in m a1688 20 (((7 : Int32) * l1) + (3 : Int32)) then
    ml_let (ml_sI m a1688 (((7 : Int32) * l1) + (3 : Int32)).toNatClampNeg l2) fun m1690 =>
    ml_let (ml_R m1690 l0 25) fun a1692 =>
    if l3 = 0 then
    fX11_lies_55 (0 : Int32) (((7 : Int32) * l1) + (4 : Int32)) a1692 m1690
    else
    fX11_lies_55 (1 : Int32) (((7 : Int32) * l1) + (4 : Int32)) a1692 m1690
    else none
    else none
theorem vX11_lies_24 {E : ml_E} (hL : ml_eL E = 4) {rv : Int32} {rm : ml_M} (hr : ∀ (pc pc' : Nat) (lv : List (Nat × ml_X)), ml_d cX11_lies pc .ireturn 1 pc' → True → ml_V E "LostRoomModel" cX11_lies 4 false rm pc lv [ml_i rv]) : ∀ (l0 : Nat) (l1 : Int32) (l2 : Int32) (l3 : Int32) (m : ml_M), fX11_lies_24 l0 l1 l2 l3 m = some (rv, rm) → ml_V E "LostRoomModel" cX11_lies 4 false m 24 [(0, ml_r l0), (1, ml_i l1), (2, ml_i l2), (3, ml_i l3)] [] := by
  intro l0 l1 l2 l3 m h
  unfold fX11_lies_24 at h
  exact ml_aload_n dX11_lies_24 0 rfl <| ml_ck_of h fun hc1687 h => ml_getR dX11_lies_25 wb_227 hc1687 <| ml_lx (mk := ml_r) h fun a1688 h => ml_bipush dX11_lies_28 kc_b7 <| ml_iload_n dX11_lies_30 1 rfl <| ml_imul dX11_lies_31 <| ml_iconst dX11_lies_32 kc_i3 <| ml_iadd dX11_lies_33 <| ml_iload_n dX11_lies_34 2 rfl <| ml_ck_of h fun hi1689 h => ml_iast dX11_lies_35 hi1689 <| ml_lt (m := m) rfl h fun m1690 em1691 h => ml_aload_n dX11_lies_36 0 rfl <| ml_getR dX11_lies_37 wb_227 (ml_kk em1691 hc1687) <| ml_lx (mk := ml_r) h fun a1692 h => ml_bipush dX11_lies_40 kc_b7 <| ml_iload_n dX11_lies_42 1 rfl <| ml_imul dX11_lies_43 <| ml_iconst dX11_lies_44 kc_i4 <| ml_iadd dX11_lies_45 <| ml_iload_n dX11_lies_46 3 rfl <| ml_if_eq dX11_lies_47 h (fun _ h => ml_iconst dX11_lies_54 kc_i0 <| ml_V.sub [] rfl (vX11_lies_55 hL hr  _ _ _ _ h)) (fun _ h => ml_iconst dX11_lies_50 kc_i1 <| ml_goto dX11_lies_51 <| ml_V.sub [] rfl (vX11_lies_55 hL hr  _ _ _ _ h))
def fX11_lies (l0 : Nat) (l1 : Int32) (l2 : Int32) (l3 : Int32) (m : ml_M) : Option (Int32 × ml_M) :=
    if (ml_K m l0).1 = 11 then
    ml_b1 (fX11_isThing l0 l1 m) fun r1695 =>
    if r1695 = 0 then
    some ((-1 : Int32), m)
    else
    if l2 = (-9 : Int32) then
    fX11_lies_24 l0 l1 l2 l3 m
    else
    ml_b1 (fX11_isTrunk l0 l2 m) fun r1697 =>
    if r1697 = 0 then
    some ((-1 : Int32), m)
    else
    fX11_lies_24 l0 l1 l2 l3 m
    else none
theorem wX11_lies_0 {E : ml_E} (hL : ml_eL E = 4) {rv : Int32} {rm : ml_M} (hr : ∀ (pc pc' : Nat) (lv : List (Nat × ml_X)), ml_d cX11_lies pc .ireturn 1 pc' → True → ml_V E "LostRoomModel" cX11_lies 4 false rm pc lv [ml_i rv]) : ∀ (l0 : Nat) (l1 : Int32) (l2 : Int32) (l3 : Int32) (m : ml_M), fX11_lies l0 l1 l2 l3 m = some (rv, rm) → ml_V E "LostRoomModel" cX11_lies 4 false m 0 [(0, ml_r l0), (1, ml_i l1), (2, ml_i l2), (3, ml_i l3)] [] := by
  intro l0 l1 l2 l3 m h
  unfold fX11_lies at h
  exact ml_aload_n dX11_lies_0 0 rfl <| ml_iload_n dX11_lies_1 1 rfl <| ml_ck_of h fun hc1694 h => ml_b1_of h fun r1695 hv1693 h => ml_callV dX11_lies_2 wm_398 wb_267 hc1694 (sX11_isThing hv1693) rfl (Nat.le_of_ble_eq_true rfl) (Nat.le_of_ble_eq_true rfl) rfl <| ml_if_eq dX11_lies_5 h (fun _ h => ml_iconst dX11_lies_22 kc_im1 <| ml_rI (mk := ml_i) hr dX11_lies_23 (fun _ => trivial) h) (fun _ h => ml_iload_n dX11_lies_8 2 rfl <| ml_bipush dX11_lies_9 kc_bm9 <| ml_icmp_eq dX11_lies_11 h (fun _ h => ml_V.sub [0, 1, 2, 3] rfl (vX11_lies_24 hL hr  _ _ _ _ _ h)) (fun _ h => ml_aload_n dX11_lies_14 0 rfl <| ml_iload_n dX11_lies_15 2 rfl <| ml_b1_of h fun r1697 hv1696 h => ml_callV dX11_lies_16 wm_333 wb_232 hc1694 (sX11_isTrunk hv1696) rfl (Nat.le_of_ble_eq_true rfl) (Nat.le_of_ble_eq_true rfl) rfl <| ml_if_ne dX11_lies_19 h (fun _ h => ml_V.sub [0, 1, 2, 3] rfl (vX11_lies_24 hL hr  _ _ _ _ _ h)) (fun _ h => ml_iconst dX11_lies_22 kc_im1 <| ml_rI (mk := ml_i) hr dX11_lies_23 (fun _ => trivial) h)))
theorem sX11_lies {l0 : Nat} {l1 : Int32} {l2 : Int32} {l3 : Int32} {m : ml_M} {rv : Int32} {rm : ml_M} (h : fX11_lies l0 l1 l2 l3 m = some (rv, rm)) : ml_Sn yX11_lies cX11_lies 4 (some .int) 4 [ml_r l0, ml_i l1, ml_i l2, ml_i l3] m (some (ml_i rv)) rm :=
  ml_Sn_of (P := True) (ini := false) (by decide +kernel) (Nat.le_of_ble_eq_true rfl) (fun h => by cases h) (fun _ => ml_RkI rv) fun E hL hr => wX11_lies_0 hL hr _ _ _ _ _ h
theorem dX10_thingFact_0 : ml_d cX10_thingFact 0 (.aload_n 0) 1 1 := ⟨by decide +kernel, rfl⟩
theorem dX10_thingFact_1 : ml_d cX10_thingFact 1 (.getfield 36) 3 4 := ⟨by decide +kernel, rfl⟩
theorem dX10_thingFact_4 : ml_d cX10_thingFact 4 (.iload_n 1) 1 5 := ⟨by decide +kernel, rfl⟩
theorem dX10_thingFact_5 : ml_d cX10_thingFact 5 (.aaload) 1 6 := ⟨by decide +kernel, rfl⟩
theorem dX10_thingFact_6 : ml_d cX10_thingFact 6 (.astore_n 3) 1 7 := ⟨by decide +kernel, rfl⟩
theorem dX10_thingFact_7 : ml_d cX10_thingFact 7 (.iload_n 2) 1 8 := ⟨by decide +kernel, rfl⟩
theorem dX10_thingFact_8 : decode cX10_thingFact 8 = .ok (.tableswitch 52 0 3 #[32, 37, 42, 47], 32) := by decide +kernel
theorem dX10_thingFact_40 : ml_d cX10_thingFact 40 (.aload_n 3) 1 41 := ⟨by decide +kernel, rfl⟩
theorem dX10_thingFact_41 : ml_d cX10_thingFact 41 (.getfield 210) 3 44 := ⟨by decide +kernel, rfl⟩
theorem dX10_thingFact_44 : ml_d cX10_thingFact 44 (.ireturn) 1 45 := ⟨by decide +kernel, rfl⟩
theorem dX10_thingFact_45 : ml_d cX10_thingFact 45 (.aload_n 3) 1 46 := ⟨by decide +kernel, rfl⟩
theorem dX10_thingFact_46 : ml_d cX10_thingFact 46 (.getfield 390) 3 49 := ⟨by decide +kernel, rfl⟩
theorem dX10_thingFact_49 : ml_d cX10_thingFact 49 (.ireturn) 1 50 := ⟨by decide +kernel, rfl⟩
theorem dX10_thingFact_50 : ml_d cX10_thingFact 50 (.aload_n 3) 1 51 := ⟨by decide +kernel, rfl⟩
theorem dX10_thingFact_51 : ml_d cX10_thingFact 51 (.getfield 391) 3 54 := ⟨by decide +kernel, rfl⟩
theorem dX10_thingFact_54 : ml_d cX10_thingFact 54 (.ireturn) 1 55 := ⟨by decide +kernel, rfl⟩
theorem dX10_thingFact_55 : ml_d cX10_thingFact 55 (.aload_n 3) 1 56 := ⟨by decide +kernel, rfl⟩
theorem dX10_thingFact_56 : ml_d cX10_thingFact 56 (.getfield 175) 3 59 := ⟨by decide +kernel, rfl⟩
theorem dX10_thingFact_59 : ml_d cX10_thingFact 59 (.ireturn) 1 60 := ⟨by decide +kernel, rfl⟩
theorem dX10_thingFact_60 : ml_d cX10_thingFact 60 (.aload_n 3) 1 61 := ⟨by decide +kernel, rfl⟩
theorem dX10_thingFact_61 : ml_d cX10_thingFact 61 (.getfield 178) 3 64 := ⟨by decide +kernel, rfl⟩
theorem dX10_thingFact_64 : ml_j cX10_thingFact 64 (.ifCond .eq) 71 67 := ⟨7, by decide +kernel, by decide, rfl⟩
theorem dX10_thingFact_67 : ml_d cX10_thingFact 67 (.iconst 1) 1 68 := ⟨by decide +kernel, rfl⟩
theorem dX10_thingFact_68 : ml_j cX10_thingFact 68 .goto 72 71 := ⟨4, by decide +kernel, by decide, rfl⟩
theorem dX10_thingFact_71 : ml_d cX10_thingFact 71 (.iconst 0) 1 72 := ⟨by decide +kernel, rfl⟩
theorem dX10_thingFact_72 : ml_d cX10_thingFact 72 (.ireturn) 1 73 := ⟨by decide +kernel, rfl⟩
def fX10_thingFact (l0 : Nat) (l1 : Int32) (l2 : Int32) (m : ml_M) : Option Int32 :=
    if (ml_K m l0).1 = 10 then
    ml_let (ml_R m l0 4) fun a1699 =>
    if ml_in m a1699 29 l1 then
    ml_let (ml_R m a1699 l1.toNatClampNeg) fun a1701 =>
    if l2 = (0 : Int32) then
    if (ml_K m a1701).1 = 8 then
    some (ml_I m a1701 0)
    else none
    else if l2 = (1 : Int32) then
    if (ml_K m a1701).1 = 8 then
    some (ml_I m a1701 1)
    else none
    else if l2 = (2 : Int32) then
    if (ml_K m a1701).1 = 8 then
    some (ml_I m a1701 2)
    else none
    else if l2 = (3 : Int32) then
    if (ml_K m a1701).1 = 8 then
    some (ml_I m a1701 6)
    else none
    else if (ml_K m a1701).1 = 8 then
    if (ml_I m a1701 7) = 0 then
    some (0 : Int32)
    else
    some (1 : Int32)
    else none
    else none
    else none
theorem wX10_thingFact_0 {E : ml_E} (hL : ml_eL E = 4) {rv : Int32} {m : ml_M} (hr : ∀ (pc pc' : Nat) (lv : List (Nat × ml_X)), ml_d cX10_thingFact pc .ireturn 1 pc' → True → ml_V E "LostRoom" cX10_thingFact 2 false m pc lv [ml_i rv]) : ∀ (l0 : Nat) (l1 : Int32) (l2 : Int32), fX10_thingFact l0 l1 l2 m = some rv → ml_V E "LostRoom" cX10_thingFact 2 false m 0 [(0, ml_r l0), (1, ml_i l1), (2, ml_i l2)] [] := by
  intro l0 l1 l2 h
  unfold fX10_thingFact at h
  exact ml_aload_n dX10_thingFact_0 0 rfl <| ml_ck_of h fun hc1698 h => ml_getR dX10_thingFact_1 wb_218 hc1698 <| ml_lx (mk := ml_r) h fun a1699 h => ml_iload_n dX10_thingFact_4 1 rfl <| ml_ck_of h fun hi1700 h => ml_aald (kd := 29) dX10_thingFact_5 (by decide) hi1700 <| ml_lx (mk := ml_r) h fun a1701 h => ml_astore_n (lv' := [(3, ml_r a1701), (0, ml_r l0), (1, ml_i l1), (2, ml_i l2)]) dX10_thingFact_6 (ml_hn hL rfl) rfl <| ml_iload_n dX10_thingFact_7 3 rfl <| ml_sw_of h (fun hq1703 h => ml_swInC (off := 32) (0 : Int32) hq1703 dX10_thingFact_8 ⟨by decide, by decide, by decide⟩ <| ml_aload_n dX10_thingFact_40 0 rfl <| ml_ck_of h fun hc1702 h => ml_getI dX10_thingFact_41 wb_268 hc1702 <| ml_rp (mk := ml_i) hr dX10_thingFact_44 (fun _ => trivial) h) (fun hq1704 h => ml_sw_of h (fun hq1706 h => ml_swInC (off := 37) (1 : Int32) hq1706 dX10_thingFact_8 ⟨by decide, by decide, by decide⟩ <| ml_aload_n dX10_thingFact_45 0 rfl <| ml_ck_of h fun hc1705 h => ml_getI dX10_thingFact_46 wb_269 hc1705 <| ml_rp (mk := ml_i) hr dX10_thingFact_49 (fun _ => trivial) h) (fun hq1707 h => ml_sw_of h (fun hq1709 h => ml_swInC (off := 42) (2 : Int32) hq1709 dX10_thingFact_8 ⟨by decide, by decide, by decide⟩ <| ml_aload_n dX10_thingFact_50 0 rfl <| ml_ck_of h fun hc1708 h => ml_getI dX10_thingFact_51 wb_270 hc1708 <| ml_rp (mk := ml_i) hr dX10_thingFact_54 (fun _ => trivial) h) (fun hq1710 h => ml_sw_of h (fun hq1712 h => ml_swInC (off := 47) (3 : Int32) hq1712 dX10_thingFact_8 ⟨by decide, by decide, by decide⟩ <| ml_aload_n dX10_thingFact_55 0 rfl <| ml_ck_of h fun hc1711 h => ml_getI dX10_thingFact_56 wb_219 hc1711 <| ml_rp (mk := ml_i) hr dX10_thingFact_59 (fun _ => trivial) h) (fun hq1713 h => ml_swOut dX10_thingFact_8 (by have w0 := lv_neT hq1704 (show (0 : Int32).toInt = 0 from by decide); have w1 := lv_neT hq1707 (show (1 : Int32).toInt = 1 from by decide); have w2 := lv_neT hq1710 (show (2 : Int32).toInt = 2 from by decide); have w3 := lv_neT hq1713 (show (3 : Int32).toInt = 3 from by decide); omega) (by decide) <| ml_aload_n dX10_thingFact_60 0 rfl <| ml_ck_of h fun hc1714 h => ml_getI dX10_thingFact_61 wb_271 hc1714 <| ml_if_eq dX10_thingFact_64 h (fun _ h => ml_iconst dX10_thingFact_71 kc_i0 <| ml_rp (mk := ml_i) hr dX10_thingFact_72 (fun _ => trivial) h) (fun _ h => ml_iconst dX10_thingFact_67 kc_i1 <| ml_goto dX10_thingFact_68 <| ml_rp (mk := ml_i) hr dX10_thingFact_72 (fun _ => trivial) h)))))
theorem sX10_thingFact {l0 : Nat} {l1 : Int32} {l2 : Int32} {m : ml_M} {rv : Int32} (h : fX10_thingFact l0 l1 l2 m = some rv) : ml_Sn yX10_thingFact cX10_thingFact 4 (some .int) 2 [ml_r l0, ml_i l1, ml_i l2] m (some (ml_i rv)) m :=
  ml_Sn_of (P := True) (ini := false) (by decide +kernel) (Nat.le_of_ble_eq_true rfl) (fun h => by cases h) (fun _ => ml_RkI rv) fun E hL hr => wX10_thingFact_0 hL hr _ _ _ h
theorem dX10_told_0 : ml_d cX10_told 0 (.aload_n 0) 1 1 := ⟨by decide +kernel, rfl⟩
theorem dX10_told_1 : ml_d cX10_told 1 (.iload_n 1) 1 2 := ⟨by decide +kernel, rfl⟩
theorem dX10_told_2 : ml_d cX10_told 2 (.invokevirtual 172) 3 5 := ⟨by decide +kernel, rfl⟩
theorem dX10_told_5 : ml_j cX10_told 5 (.ifCond .eq) 17 8 := ⟨12, by decide +kernel, by decide, rfl⟩
theorem dX10_told_8 : ml_d cX10_told 8 (.iload_n 2) 1 9 := ⟨by decide +kernel, rfl⟩
theorem dX10_told_9 : ml_d cX10_told 9 (.iconst 0) 1 10 := ⟨by decide +kernel, rfl⟩
theorem dX10_told_10 : ml_d cX10_told 10 (.iconst 4) 1 11 := ⟨by decide +kernel, rfl⟩
theorem dX10_told_11 : ml_d cX10_told 11 (.invokestatic 138) 3 14 := ⟨by decide +kernel, rfl⟩
theorem dX10_told_14 : ml_j cX10_told 14 (.ifCond .ne) 19 17 := ⟨5, by decide +kernel, by decide, rfl⟩
theorem dX10_told_17 : ml_d cX10_told 17 (.iconst (-1)) 1 18 := ⟨by decide +kernel, rfl⟩
theorem dX10_told_18 : ml_d cX10_told 18 (.ireturn) 1 19 := ⟨by decide +kernel, rfl⟩
theorem dX10_told_19 : ml_d cX10_told 19 (.aload_n 0) 1 20 := ⟨by decide +kernel, rfl⟩
theorem dX10_told_20 : ml_d cX10_told 20 (.aload_n 0) 1 21 := ⟨by decide +kernel, rfl⟩
theorem dX10_told_21 : ml_d cX10_told 21 (.iload_n 1) 1 22 := ⟨by decide +kernel, rfl⟩
theorem dX10_told_22 : ml_d cX10_told 22 (.iload_n 2) 1 23 := ⟨by decide +kernel, rfl⟩
theorem dX10_told_23 : ml_d cX10_told 23 (.invokevirtual 181) 3 26 := ⟨by decide +kernel, rfl⟩
theorem dX10_told_26 : ml_d cX10_told 26 (.invokevirtual 90) 3 29 := ⟨by decide +kernel, rfl⟩
theorem dX10_told_29 : ml_d cX10_told 29 (.ireturn) 1 30 := ⟨by decide +kernel, rfl⟩
def fX10_told (l0 : Nat) (l1 : Int32) (l2 : Int32) (m : ml_M) : Option (Int32 × ml_M) :=
    if (ml_K m l0).1 = 10 then
    ml_b1 (fX10_isThing l0 l1 m) fun r1717 =>
    if r1717 = 0 then
    some ((-1 : Int32), m)
    else
    ml_b1 (fX10_within l2 (0 : Int32) (4 : Int32) m) fun r1719 =>
    if r1719 = 0 then
    some ((-1 : Int32), m)
    else
    ml_b1 (fX10_thingFact l0 l1 l2 m) fun r1721 =>
    ml_b2 (fX10_tell l0 r1721 m) fun r1723 m1724 =>
    some (r1723, m1724)
    else none
theorem wX10_told_0 {E : ml_E} (hL : ml_eL E = 3) {rv : Int32} {rm : ml_M} (hr : ∀ (pc pc' : Nat) (lv : List (Nat × ml_X)), ml_d cX10_told pc .ireturn 1 pc' → True → ml_V E "LostRoom" cX10_told 4 false rm pc lv [ml_i rv]) : ∀ (l0 : Nat) (l1 : Int32) (l2 : Int32) (m : ml_M), fX10_told l0 l1 l2 m = some (rv, rm) → ml_V E "LostRoom" cX10_told 4 false m 0 [(0, ml_r l0), (1, ml_i l1), (2, ml_i l2)] [] := by
  intro l0 l1 l2 m h
  unfold fX10_told at h
  exact ml_aload_n dX10_told_0 0 rfl <| ml_iload_n dX10_told_1 1 rfl <| ml_ck_of h fun hc1716 h => ml_b1_of h fun r1717 hv1715 h => ml_callV dX10_told_2 wm_394 wb_266 hc1716 (sX10_isThing hv1715) rfl (Nat.le_of_ble_eq_true rfl) (Nat.le_of_ble_eq_true rfl) rfl <| ml_if_eq dX10_told_5 h (fun _ h => ml_iconst dX10_told_17 kc_im1 <| ml_rI (mk := ml_i) hr dX10_told_18 (fun _ => trivial) h) (fun _ h => ml_iload_n dX10_told_8 2 rfl <| ml_iconst dX10_told_9 kc_i0 <| ml_iconst dX10_told_10 kc_i4 <| ml_b1_of h fun r1719 hv1718 h => ml_callS dX10_told_11 wm_124 wb_94 (sX10_within hv1718) rfl (Nat.le_of_ble_eq_true rfl) (Nat.le_of_ble_eq_true rfl) rfl <| ml_if_ne dX10_told_14 h (fun _ h => ml_aload_n dX10_told_19 0 rfl <| ml_aload_n dX10_told_20 0 rfl <| ml_iload_n dX10_told_21 1 rfl <| ml_iload_n dX10_told_22 2 rfl <| ml_b1_of h fun r1721 hv1720 h => ml_callV dX10_told_23 wm_405 wb_272 hc1716 (sX10_thingFact hv1720) rfl (Nat.le_of_ble_eq_true rfl) (Nat.le_of_ble_eq_true rfl) rfl <| ml_b2_of h fun r1723 m1724 hv1722 h => ml_callV dX10_told_26 wm_149 wb_107 hc1716 (sX10_tell hv1722) rfl (Nat.le_of_ble_eq_true rfl) (Nat.le_of_ble_eq_true rfl) rfl <| ml_rI (mk := ml_i) hr dX10_told_29 (fun _ => trivial) h) (fun _ h => ml_iconst dX10_told_17 kc_im1 <| ml_rI (mk := ml_i) hr dX10_told_18 (fun _ => trivial) h))
theorem sX10_told {l0 : Nat} {l1 : Int32} {l2 : Int32} {m : ml_M} {rv : Int32} {rm : ml_M} (h : fX10_told l0 l1 l2 m = some (rv, rm)) : ml_Sn yX10_told cX10_told 3 (some .int) 4 [ml_r l0, ml_i l1, ml_i l2] m (some (ml_i rv)) rm :=
  ml_Sn_of (P := True) (ini := false) (by decide +kernel) (Nat.le_of_ble_eq_true rfl) (fun h => by cases h) (fun _ => ml_RkI rv) fun E hL hr => wX10_told_0 hL hr _ _ _ _ h
theorem dX11_told_0 : ml_d cX11_told 0 (.aload_n 0) 1 1 := ⟨by decide +kernel, rfl⟩
theorem dX11_told_1 : ml_d cX11_told 1 (.iload_n 1) 1 2 := ⟨by decide +kernel, rfl⟩
theorem dX11_told_2 : ml_d cX11_told 2 (.invokevirtual 217) 3 5 := ⟨by decide +kernel, rfl⟩
theorem dX11_told_5 : ml_j cX11_told 5 (.ifCond .eq) 36 8 := ⟨31, by decide +kernel, by decide, rfl⟩
theorem dX11_told_8 : ml_d cX11_told 8 (.iload_n 2) 1 9 := ⟨by decide +kernel, rfl⟩
theorem dX11_told_9 : ml_d cX11_told 9 (.iconst 0) 1 10 := ⟨by decide +kernel, rfl⟩
theorem dX11_told_10 : ml_d cX11_told 10 (.iconst 4) 1 11 := ⟨by decide +kernel, rfl⟩
theorem dX11_told_11 : ml_d cX11_told 11 (.invokestatic 100) 3 14 := ⟨by decide +kernel, rfl⟩
theorem dX11_told_14 : ml_j cX11_told 14 (.ifCond .eq) 36 17 := ⟨22, by decide +kernel, by decide, rfl⟩
theorem dX11_told_17 : ml_d cX11_told 17 (.aload_n 0) 1 18 := ⟨by decide +kernel, rfl⟩
theorem dX11_told_18 : ml_d cX11_told 18 (.aload_n 0) 1 19 := ⟨by decide +kernel, rfl⟩
theorem dX11_told_19 : ml_d cX11_told 19 (.getfield 47) 3 22 := ⟨by decide +kernel, rfl⟩
theorem dX11_told_22 : ml_d cX11_told 22 (.bipush 7) 2 24 := ⟨by decide +kernel, rfl⟩
theorem dX11_told_24 : ml_d cX11_told 24 (.iload_n 1) 1 25 := ⟨by decide +kernel, rfl⟩
theorem dX11_told_25 : ml_d cX11_told 25 (.imul) 1 26 := ⟨by decide +kernel, rfl⟩
theorem dX11_told_26 : ml_d cX11_told 26 (.iload_n 2) 1 27 := ⟨by decide +kernel, rfl⟩
theorem dX11_told_27 : ml_d cX11_told 27 (.iadd) 1 28 := ⟨by decide +kernel, rfl⟩
theorem dX11_told_28 : ml_d cX11_told 28 (.iaload) 1 29 := ⟨by decide +kernel, rfl⟩
theorem dX11_told_29 : ml_d cX11_told 29 (.iconst 1) 1 30 := ⟨by decide +kernel, rfl⟩
theorem dX11_told_30 : ml_d cX11_told 30 (.invokevirtual 123) 3 33 := ⟨by decide +kernel, rfl⟩
theorem dX11_told_33 : ml_j cX11_told 33 .goto 37 36 := ⟨4, by decide +kernel, by decide, rfl⟩
theorem dX11_told_36 : ml_d cX11_told 36 (.iconst (-1)) 1 37 := ⟨by decide +kernel, rfl⟩
theorem dX11_told_37 : ml_d cX11_told 37 (.ireturn) 1 38 := ⟨by decide +kernel, rfl⟩
def fX11_told (l0 : Nat) (l1 : Int32) (l2 : Int32) (m : ml_M) : Option (Int32 × ml_M) :=
    if (ml_K m l0).1 = 11 then
    ml_b1 (fX11_isThing l0 l1 m) fun r1727 =>
    if r1727 = 0 then
    some ((-1 : Int32), m)
    else
    ml_b1 (fX11_in l2 (0 : Int32) (4 : Int32) m) fun r1729 =>
    if r1729 = 0 then
    some ((-1 : Int32), m)
    else
    ml_let (ml_R m l0 25) fun a1730 =>
    if ml_in m a1730 20 (((7 : Int32) * l1) + l2) then
    ml_b2 (fX11_tells l0 (ml_I m a1730 (((7 : Int32) * l1) + l2).toNatClampNeg) (1 : Int32) m) fun r1733 m1734 =>
    some (r1733, m1734)
    else none
    else none
theorem wX11_told_0 {E : ml_E} (hL : ml_eL E = 3) {rv : Int32} {rm : ml_M} (hr : ∀ (pc pc' : Nat) (lv : List (Nat × ml_X)), ml_d cX11_told pc .ireturn 1 pc' → True → ml_V E "LostRoomModel" cX11_told 4 false rm pc lv [ml_i rv]) : ∀ (l0 : Nat) (l1 : Int32) (l2 : Int32) (m : ml_M), fX11_told l0 l1 l2 m = some (rv, rm) → ml_V E "LostRoomModel" cX11_told 4 false m 0 [(0, ml_r l0), (1, ml_i l1), (2, ml_i l2)] [] := by
  intro l0 l1 l2 m h
  unfold fX11_told at h
  exact ml_aload_n dX11_told_0 0 rfl <| ml_iload_n dX11_told_1 1 rfl <| ml_ck_of h fun hc1726 h => ml_b1_of h fun r1727 hv1725 h => ml_callV dX11_told_2 wm_398 wb_267 hc1726 (sX11_isThing hv1725) rfl (Nat.le_of_ble_eq_true rfl) (Nat.le_of_ble_eq_true rfl) rfl <| ml_if_eq dX11_told_5 h (fun _ h => ml_iconst dX11_told_36 kc_im1 <| ml_rI (mk := ml_i) hr dX11_told_37 (fun _ => trivial) h) (fun _ h => ml_iload_n dX11_told_8 2 rfl <| ml_iconst dX11_told_9 kc_i0 <| ml_iconst dX11_told_10 kc_i4 <| ml_b1_of h fun r1729 hv1728 h => ml_callS dX11_told_11 wm_136 wb_100 (sX11_in hv1728) rfl (Nat.le_of_ble_eq_true rfl) (Nat.le_of_ble_eq_true rfl) rfl <| ml_if_eq dX11_told_14 h (fun _ h => ml_iconst dX11_told_36 kc_im1 <| ml_rI (mk := ml_i) hr dX11_told_37 (fun _ => trivial) h) (fun _ h => ml_aload_n dX11_told_17 0 rfl <| ml_aload_n dX11_told_18 0 rfl <| ml_getR dX11_told_19 wb_227 hc1726 <| ml_lx (mk := ml_r) h fun a1730 h => ml_bipush dX11_told_22 kc_b7 <| ml_iload_n dX11_told_24 1 rfl <| ml_imul dX11_told_25 <| ml_iload_n dX11_told_26 2 rfl <| ml_iadd dX11_told_27 <| ml_ck_of h fun hi1731 h => ml_iald dX11_told_28 hi1731 <| ml_iconst dX11_told_29 kc_i1 <| ml_b2_of h fun r1733 m1734 hv1732 h => ml_callV dX11_told_30 wm_158 wb_110 hc1726 (sX11_tells hv1732) rfl (Nat.le_of_ble_eq_true rfl) (Nat.le_of_ble_eq_true rfl) rfl <| ml_goto dX11_told_33 <| ml_rI (mk := ml_i) hr dX11_told_37 (fun _ => trivial) h))
theorem sX11_told {l0 : Nat} {l1 : Int32} {l2 : Int32} {m : ml_M} {rv : Int32} {rm : ml_M} (h : fX11_told l0 l1 l2 m = some (rv, rm)) : ml_Sn yX11_told cX11_told 3 (some .int) 4 [ml_r l0, ml_i l1, ml_i l2] m (some (ml_i rv)) rm :=
  ml_Sn_of (P := True) (ini := false) (by decide +kernel) (Nat.le_of_ble_eq_true rfl) (fun h => by cases h) (fun _ => ml_RkI rv) fun E hL hr => wX11_told_0 hL hr _ _ _ _ h
theorem dX10_isKind_0 : ml_d cX10_isKind 0 (.iload_n 0) 1 1 := ⟨by decide +kernel, rfl⟩
theorem dX10_isKind_1 : ml_d cX10_isKind 1 (.iconst 1) 1 2 := ⟨by decide +kernel, rfl⟩
theorem dX10_isKind_2 : ml_d cX10_isKind 2 (.iconst 5) 1 3 := ⟨by decide +kernel, rfl⟩
theorem dX10_isKind_3 : ml_d cX10_isKind 3 (.invokestatic 138) 3 6 := ⟨by decide +kernel, rfl⟩
theorem dX10_isKind_6 : ml_d cX10_isKind 6 (.ireturn) 1 7 := ⟨by decide +kernel, rfl⟩
def fX10_isKind (l0 : Int32) (m : ml_M) : Option Int32 :=
    ml_b1 (fX10_within l0 (1 : Int32) (5 : Int32) m) fun r1736 =>
    if r1736 = 0 ∨ r1736 = 1 then some r1736 else none
theorem wX10_isKind_0 {E : ml_E} (hL : ml_eL E = 1) {rv : Int32} {m : ml_M} (hr : ∀ (pc pc' : Nat) (lv : List (Nat × ml_X)), ml_d cX10_isKind pc .ireturn 1 pc' → (rv = 0 ∨ rv = 1) → ml_V E "LostRoom" cX10_isKind 3 false m pc lv [ml_i rv]) : ∀ (l0 : Int32), fX10_isKind l0 m = some rv → ml_V E "LostRoom" cX10_isKind 3 false m 0 [(0, ml_i l0)] [] := by
  intro l0 h
  unfold fX10_isKind at h
  exact ml_iload_n dX10_isKind_0 0 rfl <| ml_iconst dX10_isKind_1 kc_i1 <| ml_iconst dX10_isKind_2 kc_i5 <| ml_b1_of h fun r1736 hv1735 h => ml_callS dX10_isKind_3 wm_124 wb_94 (sX10_within hv1735) rfl (Nat.le_of_ble_eq_true rfl) (Nat.le_of_ble_eq_true rfl) rfl <| ml_ck_of h fun hz1737 h => ml_rp (mk := ml_i) hr dX10_isKind_6 (fun e => e ▸ hz1737) h
theorem sX10_isKind {l0 : Int32} {m : ml_M} {rv : Int32} (h : fX10_isKind l0 m = some rv) : ml_Sn yX10_isKind cX10_isKind 1 (some .boolean) 3 [ml_i l0] m (some (ml_i rv)) m :=
  ml_Sn_of (P := (rv = 0 ∨ rv = 1)) (ini := false) (by decide +kernel) (Nat.le_of_ble_eq_true rfl) (fun h => by cases h) (fun hz => ml_RkZ rv hz) fun E hL hr => wX10_isKind_0 hL hr _ h
theorem dX8_isOf_0 : ml_d cX8_isOf 0 (.aload_n 0) 1 1 := ⟨by decide +kernel, rfl⟩
theorem dX8_isOf_1 : ml_d cX8_isOf 1 (.getfield 15) 3 4 := ⟨by decide +kernel, rfl⟩
theorem dX8_isOf_4 : ml_d cX8_isOf 4 (.iload_n 1) 1 5 := ⟨by decide +kernel, rfl⟩
theorem dX8_isOf_5 : ml_j cX8_isOf 5 (.if_icmp .eq) 21 8 := ⟨16, by decide +kernel, by decide, rfl⟩
theorem dX8_isOf_8 : ml_d cX8_isOf 8 (.aload_n 0) 1 9 := ⟨by decide +kernel, rfl⟩
theorem dX8_isOf_9 : ml_d cX8_isOf 9 (.getfield 15) 3 12 := ⟨by decide +kernel, rfl⟩
theorem dX8_isOf_12 : ml_d cX8_isOf 12 (.iconst 3) 1 13 := ⟨by decide +kernel, rfl⟩
theorem dX8_isOf_13 : ml_j cX8_isOf 13 (.if_icmp .ne) 25 16 := ⟨12, by decide +kernel, by decide, rfl⟩
theorem dX8_isOf_16 : ml_d cX8_isOf 16 (.iload_n 1) 1 17 := ⟨by decide +kernel, rfl⟩
theorem dX8_isOf_17 : ml_d cX8_isOf 17 (.iconst 2) 1 18 := ⟨by decide +kernel, rfl⟩
theorem dX8_isOf_18 : ml_j cX8_isOf 18 (.if_icmp .ne) 25 21 := ⟨7, by decide +kernel, by decide, rfl⟩
theorem dX8_isOf_21 : ml_d cX8_isOf 21 (.iconst 1) 1 22 := ⟨by decide +kernel, rfl⟩
theorem dX8_isOf_22 : ml_j cX8_isOf 22 .goto 26 25 := ⟨4, by decide +kernel, by decide, rfl⟩
theorem dX8_isOf_25 : ml_d cX8_isOf 25 (.iconst 0) 1 26 := ⟨by decide +kernel, rfl⟩
theorem dX8_isOf_26 : ml_d cX8_isOf 26 (.ireturn) 1 27 := ⟨by decide +kernel, rfl⟩
def fX8_isOf_21 (m : ml_M) : Option Int32 :=
    some (1 : Int32)
theorem vX8_isOf_21 {E : ml_E} (hL : ml_eL E = 2) {rv : Int32} {m : ml_M} (hr : ∀ (pc pc' : Nat) (lv : List (Nat × ml_X)), ml_d cX8_isOf pc .ireturn 1 pc' → (rv = 0 ∨ rv = 1) → ml_V E "LostRoom$Thing" cX8_isOf 2 false m pc lv [ml_i rv]) : fX8_isOf_21  m = some rv → ml_V E "LostRoom$Thing" cX8_isOf 2 false m 21 [] [] := by
  intro  h
  unfold fX8_isOf_21 at h
  exact ml_iconst dX8_isOf_21 kc_i1 <| ml_goto dX8_isOf_22 <| ml_rp (mk := ml_i) hr dX8_isOf_26 (fun e => Or.inr e.symm) h
def fX8_isOf (l0 : Nat) (l1 : Int32) (m : ml_M) : Option Int32 :=
    if (ml_K m l0).1 = 8 then
    if (ml_I m l0 0) = l1 then
    fX8_isOf_21 m
    else
    if (ml_I m l0 0) = (3 : Int32) then
    if l1 = (2 : Int32) then
    fX8_isOf_21 m
    else
    some (0 : Int32)
    else
    some (0 : Int32)
    else none
theorem wX8_isOf_0 {E : ml_E} (hL : ml_eL E = 2) {rv : Int32} {m : ml_M} (hr : ∀ (pc pc' : Nat) (lv : List (Nat × ml_X)), ml_d cX8_isOf pc .ireturn 1 pc' → (rv = 0 ∨ rv = 1) → ml_V E "LostRoom$Thing" cX8_isOf 2 false m pc lv [ml_i rv]) : ∀ (l0 : Nat) (l1 : Int32), fX8_isOf l0 l1 m = some rv → ml_V E "LostRoom$Thing" cX8_isOf 2 false m 0 [(0, ml_r l0), (1, ml_i l1)] [] := by
  intro l0 l1 h
  unfold fX8_isOf at h
  exact ml_aload_n dX8_isOf_0 0 rfl <| ml_ck_of h fun hc1738 h => ml_getI dX8_isOf_1 wb_249 hc1738 <| ml_iload_n dX8_isOf_4 1 rfl <| ml_icmp_eq dX8_isOf_5 h (fun _ h => ml_V.sub [] rfl (vX8_isOf_21 hL hr  h)) (fun _ h => ml_aload_n dX8_isOf_8 0 rfl <| ml_getI dX8_isOf_9 wb_249 hc1738 <| ml_iconst dX8_isOf_12 kc_i3 <| ml_icmp_ne dX8_isOf_13 h (fun _ h => ml_iconst dX8_isOf_25 kc_i0 <| ml_rp (mk := ml_i) hr dX8_isOf_26 (fun e => Or.inl e.symm) h) (fun _ h => ml_iload_n dX8_isOf_16 1 rfl <| ml_iconst dX8_isOf_17 kc_i2 <| ml_icmp_ne dX8_isOf_18 h (fun _ h => ml_iconst dX8_isOf_25 kc_i0 <| ml_rp (mk := ml_i) hr dX8_isOf_26 (fun e => Or.inl e.symm) h) (fun _ h => ml_V.sub [] rfl (vX8_isOf_21 hL hr  h))))
theorem sX8_isOf {l0 : Nat} {l1 : Int32} {m : ml_M} {rv : Int32} (h : fX8_isOf l0 l1 m = some rv) : ml_Sn yX8_isOf cX8_isOf 2 (some .boolean) 2 [ml_r l0, ml_i l1] m (some (ml_i rv)) m :=
  ml_Sn_of (P := (rv = 0 ∨ rv = 1)) (ini := false) (by decide +kernel) (Nat.le_of_ble_eq_true rfl) (fun h => by cases h) (fun hz => ml_RkZ rv hz) fun E hL hr => wX8_isOf_0 hL hr _ _ h
theorem dX8_tells_0 : ml_d cX8_tells 0 (.iload_n 1) 1 1 := ⟨by decide +kernel, rfl⟩
theorem dX8_tells_1 : ml_d cX8_tells 1 (.iconst 3) 1 2 := ⟨by decide +kernel, rfl⟩
theorem dX8_tells_2 : ml_j cX8_tells 2 (.if_icmp .ne) 12 5 := ⟨10, by decide +kernel, by decide, rfl⟩
theorem dX8_tells_5 : ml_d cX8_tells 5 (.aload_n 0) 1 6 := ⟨by decide +kernel, rfl⟩
theorem dX8_tells_6 : ml_d cX8_tells 6 (.getfield 27) 3 9 := ⟨by decide +kernel, rfl⟩
theorem dX8_tells_9 : ml_j cX8_tells 9 .goto 16 12 := ⟨7, by decide +kernel, by decide, rfl⟩
theorem dX8_tells_12 : ml_d cX8_tells 12 (.aload_n 0) 1 13 := ⟨by decide +kernel, rfl⟩
theorem dX8_tells_13 : ml_d cX8_tells 13 (.getfield 24) 3 16 := ⟨by decide +kernel, rfl⟩
theorem dX8_tells_16 : ml_d cX8_tells 16 (.ireturn) 1 17 := ⟨by decide +kernel, rfl⟩
def fX8_tells (l0 : Nat) (l1 : Int32) (m : ml_M) : Option Int32 :=
    if l1 = (3 : Int32) then
    if (ml_K m l0).1 = 8 then
    some (ml_I m l0 4)
    else none
    else
    if (ml_K m l0).1 = 8 then
    some (ml_I m l0 3)
    else none
theorem wX8_tells_0 {E : ml_E} (hL : ml_eL E = 2) {rv : Int32} {m : ml_M} (hr : ∀ (pc pc' : Nat) (lv : List (Nat × ml_X)), ml_d cX8_tells pc .ireturn 1 pc' → True → ml_V E "LostRoom$Thing" cX8_tells 2 false m pc lv [ml_i rv]) : ∀ (l0 : Nat) (l1 : Int32), fX8_tells l0 l1 m = some rv → ml_V E "LostRoom$Thing" cX8_tells 2 false m 0 [(0, ml_r l0), (1, ml_i l1)] [] := by
  intro l0 l1 h
  unfold fX8_tells at h
  exact ml_iload_n dX8_tells_0 1 rfl <| ml_iconst dX8_tells_1 kc_i3 <| ml_icmp_ne dX8_tells_2 h (fun _ h => ml_aload_n dX8_tells_12 0 rfl <| ml_ck_of h fun hc1739 h => ml_getI dX8_tells_13 wb_242 hc1739 <| ml_rp (mk := ml_i) hr dX8_tells_16 (fun _ => trivial) h) (fun _ h => ml_aload_n dX8_tells_5 0 rfl <| ml_ck_of h fun hc1740 h => ml_getI dX8_tells_6 wb_253 hc1740 <| ml_goto dX8_tells_9 <| ml_rp (mk := ml_i) hr dX8_tells_16 (fun _ => trivial) h)
theorem sX8_tells {l0 : Nat} {l1 : Int32} {m : ml_M} {rv : Int32} (h : fX8_tells l0 l1 m = some rv) : ml_Sn yX8_tells cX8_tells 2 (some .int) 2 [ml_r l0, ml_i l1] m (some (ml_i rv)) m :=
  ml_Sn_of (P := True) (ini := false) (by decide +kernel) (Nat.le_of_ble_eq_true rfl) (fun h => by cases h) (fun _ => ml_RkI rv) fun E hL hr => wX8_tells_0 hL hr _ _ h
theorem dX10_mark_0 : ml_d cX10_mark 0 (.aload_n 0) 1 1 := ⟨by decide +kernel, rfl⟩
theorem dX10_mark_1 : ml_d cX10_mark 1 (.iload_n 1) 1 2 := ⟨by decide +kernel, rfl⟩
theorem dX10_mark_2 : ml_d cX10_mark 2 (.invokevirtual 172) 3 5 := ⟨by decide +kernel, rfl⟩
theorem dX10_mark_5 : ml_j cX10_mark 5 (.ifCond .eq) 15 8 := ⟨10, by decide +kernel, by decide, rfl⟩
theorem dX10_mark_8 : ml_d cX10_mark 8 (.iload_n 2) 1 9 := ⟨by decide +kernel, rfl⟩
theorem dX10_mark_9 : ml_d cX10_mark 9 (.invokestatic 184) 3 12 := ⟨by decide +kernel, rfl⟩
theorem dX10_mark_12 : ml_j cX10_mark 12 (.ifCond .ne) 17 15 := ⟨5, by decide +kernel, by decide, rfl⟩
theorem dX10_mark_15 : ml_d cX10_mark 15 (.iconst (-1)) 1 16 := ⟨by decide +kernel, rfl⟩
theorem dX10_mark_16 : ml_d cX10_mark 16 (.ireturn) 1 17 := ⟨by decide +kernel, rfl⟩
theorem dX10_mark_17 : ml_d cX10_mark 17 (.aload_n 0) 1 18 := ⟨by decide +kernel, rfl⟩
theorem dX10_mark_18 : ml_d cX10_mark 18 (.getfield 36) 3 21 := ⟨by decide +kernel, rfl⟩
theorem dX10_mark_21 : ml_d cX10_mark 21 (.iload_n 1) 1 22 := ⟨by decide +kernel, rfl⟩
theorem dX10_mark_22 : ml_d cX10_mark 22 (.aaload) 1 23 := ⟨by decide +kernel, rfl⟩
theorem dX10_mark_23 : ml_d cX10_mark 23 (.astore_n 3) 1 24 := ⟨by decide +kernel, rfl⟩
theorem dX10_mark_24 : ml_d cX10_mark 24 (.aload_n 3) 1 25 := ⟨by decide +kernel, rfl⟩
theorem dX10_mark_25 : ml_d cX10_mark 25 (.iload_n 2) 1 26 := ⟨by decide +kernel, rfl⟩
theorem dX10_mark_26 : ml_d cX10_mark 26 (.invokevirtual 187) 3 29 := ⟨by decide +kernel, rfl⟩
theorem dX10_mark_29 : ml_j cX10_mark 29 (.ifCond .eq) 40 32 := ⟨11, by decide +kernel, by decide, rfl⟩
theorem dX10_mark_32 : ml_d cX10_mark 32 (.aload_n 3) 1 33 := ⟨by decide +kernel, rfl⟩
theorem dX10_mark_33 : ml_d cX10_mark 33 (.iload_n 2) 1 34 := ⟨by decide +kernel, rfl⟩
theorem dX10_mark_34 : ml_d cX10_mark 34 (.invokevirtual 190) 3 37 := ⟨by decide +kernel, rfl⟩
theorem dX10_mark_37 : ml_j cX10_mark 37 .goto 45 40 := ⟨8, by decide +kernel, by decide, rfl⟩
theorem dX10_mark_40 : ml_d cX10_mark 40 (.aload_n 0) 1 41 := ⟨by decide +kernel, rfl⟩
theorem dX10_mark_41 : ml_d cX10_mark 41 (.iconst 3) 1 42 := ⟨by decide +kernel, rfl⟩
theorem dX10_mark_42 : ml_d cX10_mark 42 (.invokevirtual 86) 3 45 := ⟨by decide +kernel, rfl⟩
theorem dX10_mark_45 : ml_d cX10_mark 45 (.ireturn) 1 46 := ⟨by decide +kernel, rfl⟩
def fX10_mark (l0 : Nat) (l1 : Int32) (l2 : Int32) (m : ml_M) : Option (Int32 × ml_M) :=
    if (ml_K m l0).1 = 10 then
    ml_b1 (fX10_isThing l0 l1 m) fun r1743 =>
    if r1743 = 0 then
    some ((-1 : Int32), m)
    else
    ml_b1 (fX10_isKind l2 m) fun r1745 =>
    if r1745 = 0 then
    some ((-1 : Int32), m)
    else
    ml_let (ml_R m l0 4) fun a1746 =>
    if ml_in m a1746 29 l1 then
    ml_let (ml_R m a1746 l1.toNatClampNeg) fun a1748 =>
    if (ml_K m a1748).1 = 8 then
    ml_b1 (fX8_isOf a1748 l2 m) fun r1751 =>
    if r1751 = 0 then
    ml_b2 (fX10_found l0 (3 : Int32) m) fun r1753 m1754 =>
    some (r1753, m1754)
    else
    ml_b1 (fX8_tells a1748 l2 m) fun r1756 =>
    some (r1756, m)
    else none
    else none
    else none
theorem wX10_mark_0 {E : ml_E} (hL : ml_eL E = 4) {rv : Int32} {rm : ml_M} (hr : ∀ (pc pc' : Nat) (lv : List (Nat × ml_X)), ml_d cX10_mark pc .ireturn 1 pc' → True → ml_V E "LostRoom" cX10_mark 4 false rm pc lv [ml_i rv]) : ∀ (l0 : Nat) (l1 : Int32) (l2 : Int32) (m : ml_M), fX10_mark l0 l1 l2 m = some (rv, rm) → ml_V E "LostRoom" cX10_mark 4 false m 0 [(0, ml_r l0), (1, ml_i l1), (2, ml_i l2)] [] := by
  intro l0 l1 l2 m h
  unfold fX10_mark at h
  exact ml_aload_n dX10_mark_0 0 rfl <| ml_iload_n dX10_mark_1 1 rfl <| ml_ck_of h fun hc1742 h => ml_b1_of h fun r1743 hv1741 h => ml_callV dX10_mark_2 wm_394 wb_266 hc1742 (sX10_isThing hv1741) rfl (Nat.le_of_ble_eq_true rfl) (Nat.le_of_ble_eq_true rfl) rfl <| ml_if_eq dX10_mark_5 h (fun _ h => ml_iconst dX10_mark_15 kc_im1 <| ml_rI (mk := ml_i) hr dX10_mark_16 (fun _ => trivial) h) (fun _ h => ml_iload_n dX10_mark_8 2 rfl <| ml_b1_of h fun r1745 hv1744 h => ml_callS dX10_mark_9 wm_408 wb_273 (sX10_isKind hv1744) rfl (Nat.le_of_ble_eq_true rfl) (Nat.le_of_ble_eq_true rfl) rfl <| ml_if_ne dX10_mark_12 h (fun _ h => ml_aload_n dX10_mark_17 0 rfl <| ml_getR dX10_mark_18 wb_218 hc1742 <| ml_lx (mk := ml_r) h fun a1746 h => ml_iload_n dX10_mark_21 1 rfl <| ml_ck_of h fun hi1747 h => ml_aald (kd := 29) dX10_mark_22 (by decide) hi1747 <| ml_lx (mk := ml_r) h fun a1748 h => ml_astore_n (lv' := [(3, ml_r a1748), (0, ml_r l0), (1, ml_i l1), (2, ml_i l2)]) dX10_mark_23 (ml_hn hL rfl) rfl <| ml_aload_n dX10_mark_24 0 rfl <| ml_iload_n dX10_mark_25 3 rfl <| ml_ck_of h fun hc1750 h => ml_b1_of h fun r1751 hv1749 h => ml_callV dX10_mark_26 wm_412 wb_274 hc1750 (sX8_isOf hv1749) rfl (Nat.le_of_ble_eq_true rfl) (Nat.le_of_ble_eq_true rfl) rfl <| ml_if_eq dX10_mark_29 h (fun _ h => ml_aload_n dX10_mark_40 1 rfl <| ml_iconst dX10_mark_41 kc_i3 <| ml_b2_of h fun r1753 m1754 hv1752 h => ml_callV dX10_mark_42 wm_132 wb_99 hc1742 (sX10_found hv1752) rfl (Nat.le_of_ble_eq_true rfl) (Nat.le_of_ble_eq_true rfl) rfl <| ml_rI (mk := ml_i) hr dX10_mark_45 (fun _ => trivial) h) (fun _ h => ml_aload_n dX10_mark_32 0 rfl <| ml_iload_n dX10_mark_33 3 rfl <| ml_b1_of h fun r1756 hv1755 h => ml_callV dX10_mark_34 wm_416 wb_275 hc1750 (sX8_tells hv1755) rfl (Nat.le_of_ble_eq_true rfl) (Nat.le_of_ble_eq_true rfl) rfl <| ml_goto dX10_mark_37 <| ml_rI (mk := ml_i) hr dX10_mark_45 (fun _ => trivial) h)) (fun _ h => ml_iconst dX10_mark_15 kc_im1 <| ml_rI (mk := ml_i) hr dX10_mark_16 (fun _ => trivial) h))
theorem sX10_mark {l0 : Nat} {l1 : Int32} {l2 : Int32} {m : ml_M} {rv : Int32} {rm : ml_M} (h : fX10_mark l0 l1 l2 m = some (rv, rm)) : ml_Sn yX10_mark cX10_mark 4 (some .int) 4 [ml_r l0, ml_i l1, ml_i l2] m (some (ml_i rv)) rm :=
  ml_Sn_of (P := True) (ini := false) (by decide +kernel) (Nat.le_of_ble_eq_true rfl) (fun h => by cases h) (fun _ => ml_RkI rv) fun E hL hr => wX10_mark_0 hL hr _ _ _ _ h
theorem dX11_kind_0 : ml_d cX11_kind 0 (.aload_n 0) 1 1 := ⟨by decide +kernel, rfl⟩
theorem dX11_kind_1 : ml_d cX11_kind 1 (.getfield 47) 3 4 := ⟨by decide +kernel, rfl⟩
theorem dX11_kind_4 : ml_d cX11_kind 4 (.bipush 7) 2 6 := ⟨by decide +kernel, rfl⟩
theorem dX11_kind_6 : ml_d cX11_kind 6 (.iload_n 1) 1 7 := ⟨by decide +kernel, rfl⟩
theorem dX11_kind_7 : ml_d cX11_kind 7 (.imul) 1 8 := ⟨by decide +kernel, rfl⟩
theorem dX11_kind_8 : ml_d cX11_kind 8 (.iaload) 1 9 := ⟨by decide +kernel, rfl⟩
theorem dX11_kind_9 : ml_d cX11_kind 9 (.ireturn) 1 10 := ⟨by decide +kernel, rfl⟩
def fX11_kind (l0 : Nat) (l1 : Int32) (m : ml_M) : Option Int32 :=
    if (ml_K m l0).1 = 11 then
    ml_let (ml_R m l0 25) fun a1758 =>
    if ml_in m a1758 20 ((7 : Int32) * l1) then
    some (ml_I m a1758 ((7 : Int32) * l1).toNatClampNeg)
    else none
    else none
theorem wX11_kind_0 {E : ml_E} (hL : ml_eL E = 2) {rv : Int32} {m : ml_M} (hr : ∀ (pc pc' : Nat) (lv : List (Nat × ml_X)), ml_d cX11_kind pc .ireturn 1 pc' → True → ml_V E "LostRoomModel" cX11_kind 2 false m pc lv [ml_i rv]) : ∀ (l0 : Nat) (l1 : Int32), fX11_kind l0 l1 m = some rv → ml_V E "LostRoomModel" cX11_kind 2 false m 0 [(0, ml_r l0), (1, ml_i l1)] [] := by
  intro l0 l1 h
  unfold fX11_kind at h
  exact ml_aload_n dX11_kind_0 0 rfl <| ml_ck_of h fun hc1757 h => ml_getR dX11_kind_1 wb_227 hc1757 <| ml_lx (mk := ml_r) h fun a1758 h => ml_bipush dX11_kind_4 kc_b7 <| ml_iload_n dX11_kind_6 1 rfl <| ml_imul dX11_kind_7 <| ml_ck_of h fun hi1759 h => ml_iald dX11_kind_8 hi1759 <| ml_rp (mk := ml_i) hr dX11_kind_9 (fun _ => trivial) h
theorem sX11_kind {l0 : Nat} {l1 : Int32} {m : ml_M} {rv : Int32} (h : fX11_kind l0 l1 m = some rv) : ml_Sn yX11_kind cX11_kind 2 (some .int) 2 [ml_r l0, ml_i l1] m (some (ml_i rv)) m :=
  ml_Sn_of (P := True) (ini := false) (by decide +kernel) (Nat.le_of_ble_eq_true rfl) (fun h => by cases h) (fun _ => ml_RkI rv) fun E hL hr => wX11_kind_0 hL hr _ _ h
theorem dX11_isOf_0 : ml_d cX11_isOf 0 (.aload_n 0) 1 1 := ⟨by decide +kernel, rfl⟩
theorem dX11_isOf_1 : ml_d cX11_isOf 1 (.iload_n 1) 1 2 := ⟨by decide +kernel, rfl⟩
theorem dX11_isOf_2 : ml_d cX11_isOf 2 (.invokevirtual 220) 3 5 := ⟨by decide +kernel, rfl⟩
theorem dX11_isOf_5 : ml_d cX11_isOf 5 (.iload_n 2) 1 6 := ⟨by decide +kernel, rfl⟩
theorem dX11_isOf_6 : ml_j cX11_isOf 6 (.if_icmp .eq) 23 9 := ⟨17, by decide +kernel, by decide, rfl⟩
theorem dX11_isOf_9 : ml_d cX11_isOf 9 (.iload_n 2) 1 10 := ⟨by decide +kernel, rfl⟩
theorem dX11_isOf_10 : ml_d cX11_isOf 10 (.iconst 2) 1 11 := ⟨by decide +kernel, rfl⟩
theorem dX11_isOf_11 : ml_j cX11_isOf 11 (.if_icmp .ne) 27 14 := ⟨16, by decide +kernel, by decide, rfl⟩
theorem dX11_isOf_14 : ml_d cX11_isOf 14 (.aload_n 0) 1 15 := ⟨by decide +kernel, rfl⟩
theorem dX11_isOf_15 : ml_d cX11_isOf 15 (.iload_n 1) 1 16 := ⟨by decide +kernel, rfl⟩
theorem dX11_isOf_16 : ml_d cX11_isOf 16 (.invokevirtual 220) 3 19 := ⟨by decide +kernel, rfl⟩
theorem dX11_isOf_19 : ml_d cX11_isOf 19 (.iconst 3) 1 20 := ⟨by decide +kernel, rfl⟩
theorem dX11_isOf_20 : ml_j cX11_isOf 20 (.if_icmp .ne) 27 23 := ⟨7, by decide +kernel, by decide, rfl⟩
theorem dX11_isOf_23 : ml_d cX11_isOf 23 (.iconst 1) 1 24 := ⟨by decide +kernel, rfl⟩
theorem dX11_isOf_24 : ml_j cX11_isOf 24 .goto 28 27 := ⟨4, by decide +kernel, by decide, rfl⟩
theorem dX11_isOf_27 : ml_d cX11_isOf 27 (.iconst 0) 1 28 := ⟨by decide +kernel, rfl⟩
theorem dX11_isOf_28 : ml_d cX11_isOf 28 (.ireturn) 1 29 := ⟨by decide +kernel, rfl⟩
def fX11_isOf_23 (m : ml_M) : Option Int32 :=
    some (1 : Int32)
theorem vX11_isOf_23 {E : ml_E} (hL : ml_eL E = 3) {rv : Int32} {m : ml_M} (hr : ∀ (pc pc' : Nat) (lv : List (Nat × ml_X)), ml_d cX11_isOf pc .ireturn 1 pc' → (rv = 0 ∨ rv = 1) → ml_V E "LostRoomModel" cX11_isOf 3 false m pc lv [ml_i rv]) : fX11_isOf_23  m = some rv → ml_V E "LostRoomModel" cX11_isOf 3 false m 23 [] [] := by
  intro  h
  unfold fX11_isOf_23 at h
  exact ml_iconst dX11_isOf_23 kc_i1 <| ml_goto dX11_isOf_24 <| ml_rp (mk := ml_i) hr dX11_isOf_28 (fun e => Or.inr e.symm) h
def fX11_isOf (l0 : Nat) (l1 : Int32) (l2 : Int32) (m : ml_M) : Option Int32 :=
    if (ml_K m l0).1 = 11 then
    ml_b1 (fX11_kind l0 l1 m) fun r1762 =>
    if r1762 = l2 then
    fX11_isOf_23 m
    else
    if l2 = (2 : Int32) then
    ml_b1 (fX11_kind l0 l1 m) fun r1764 =>
    if r1764 = (3 : Int32) then
    fX11_isOf_23 m
    else
    some (0 : Int32)
    else
    some (0 : Int32)
    else none
theorem wX11_isOf_0 {E : ml_E} (hL : ml_eL E = 3) {rv : Int32} {m : ml_M} (hr : ∀ (pc pc' : Nat) (lv : List (Nat × ml_X)), ml_d cX11_isOf pc .ireturn 1 pc' → (rv = 0 ∨ rv = 1) → ml_V E "LostRoomModel" cX11_isOf 3 false m pc lv [ml_i rv]) : ∀ (l0 : Nat) (l1 : Int32) (l2 : Int32), fX11_isOf l0 l1 l2 m = some rv → ml_V E "LostRoomModel" cX11_isOf 3 false m 0 [(0, ml_r l0), (1, ml_i l1), (2, ml_i l2)] [] := by
  intro l0 l1 l2 h
  unfold fX11_isOf at h
  exact ml_aload_n dX11_isOf_0 0 rfl <| ml_iload_n dX11_isOf_1 1 rfl <| ml_ck_of h fun hc1761 h => ml_b1_of h fun r1762 hv1760 h => ml_callV dX11_isOf_2 wm_420 wb_276 hc1761 (sX11_kind hv1760) rfl (Nat.le_of_ble_eq_true rfl) (Nat.le_of_ble_eq_true rfl) rfl <| ml_iload_n dX11_isOf_5 2 rfl <| ml_icmp_eq dX11_isOf_6 h (fun _ h => ml_V.sub [] rfl (vX11_isOf_23 hL hr  h)) (fun _ h => ml_iload_n dX11_isOf_9 2 rfl <| ml_iconst dX11_isOf_10 kc_i2 <| ml_icmp_ne dX11_isOf_11 h (fun _ h => ml_iconst dX11_isOf_27 kc_i0 <| ml_rp (mk := ml_i) hr dX11_isOf_28 (fun e => Or.inl e.symm) h) (fun _ h => ml_aload_n dX11_isOf_14 0 rfl <| ml_iload_n dX11_isOf_15 1 rfl <| ml_b1_of h fun r1764 hv1763 h => ml_callV dX11_isOf_16 wm_420 wb_276 hc1761 (sX11_kind hv1763) rfl (Nat.le_of_ble_eq_true rfl) (Nat.le_of_ble_eq_true rfl) rfl <| ml_iconst dX11_isOf_19 kc_i3 <| ml_icmp_ne dX11_isOf_20 h (fun _ h => ml_iconst dX11_isOf_27 kc_i0 <| ml_rp (mk := ml_i) hr dX11_isOf_28 (fun e => Or.inl e.symm) h) (fun _ h => ml_V.sub [] rfl (vX11_isOf_23 hL hr  h))))
theorem sX11_isOf {l0 : Nat} {l1 : Int32} {l2 : Int32} {m : ml_M} {rv : Int32} (h : fX11_isOf l0 l1 l2 m = some rv) : ml_Sn yX11_isOf cX11_isOf 3 (some .boolean) 3 [ml_r l0, ml_i l1, ml_i l2] m (some (ml_i rv)) m :=
  ml_Sn_of (P := (rv = 0 ∨ rv = 1)) (ini := false) (by decide +kernel) (Nat.le_of_ble_eq_true rfl) (fun h => by cases h) (fun hz => ml_RkZ rv hz) fun E hL hr => wX11_isOf_0 hL hr _ _ _ h
theorem dX11_y_0 : ml_d cX11_y 0 (.aload_n 0) 1 1 := ⟨by decide +kernel, rfl⟩
theorem dX11_y_1 : ml_d cX11_y 1 (.getfield 47) 3 4 := ⟨by decide +kernel, rfl⟩
theorem dX11_y_4 : ml_d cX11_y 4 (.bipush 7) 2 6 := ⟨by decide +kernel, rfl⟩
theorem dX11_y_6 : ml_d cX11_y 6 (.iload_n 1) 1 7 := ⟨by decide +kernel, rfl⟩
theorem dX11_y_7 : ml_d cX11_y 7 (.imul) 1 8 := ⟨by decide +kernel, rfl⟩
theorem dX11_y_8 : ml_d cX11_y 8 (.bipush 6) 2 10 := ⟨by decide +kernel, rfl⟩
theorem dX11_y_10 : ml_d cX11_y 10 (.iadd) 1 11 := ⟨by decide +kernel, rfl⟩
theorem dX11_y_11 : ml_d cX11_y 11 (.iaload) 1 12 := ⟨by decide +kernel, rfl⟩
theorem dX11_y_12 : ml_d cX11_y 12 (.ireturn) 1 13 := ⟨by decide +kernel, rfl⟩
def fX11_y (l0 : Nat) (l1 : Int32) (m : ml_M) : Option Int32 :=
    if (ml_K m l0).1 = 11 then
    ml_let (ml_R m l0 25) fun a1766 =>
    if ml_in m a1766 20 (((7 : Int32) * l1) + (6 : Int32)) then
    some (ml_I m a1766 (((7 : Int32) * l1) + (6 : Int32)).toNatClampNeg)
    else none
    else none
theorem wX11_y_0 {E : ml_E} (hL : ml_eL E = 2) {rv : Int32} {m : ml_M} (hr : ∀ (pc pc' : Nat) (lv : List (Nat × ml_X)), ml_d cX11_y pc .ireturn 1 pc' → True → ml_V E "LostRoomModel" cX11_y 2 false m pc lv [ml_i rv]) : ∀ (l0 : Nat) (l1 : Int32), fX11_y l0 l1 m = some rv → ml_V E "LostRoomModel" cX11_y 2 false m 0 [(0, ml_r l0), (1, ml_i l1)] [] := by
  intro l0 l1 h
  unfold fX11_y at h
  exact ml_aload_n dX11_y_0 0 rfl <| ml_ck_of h fun hc1765 h => ml_getR dX11_y_1 wb_227 hc1765 <| ml_lx (mk := ml_r) h fun a1766 h => ml_bipush dX11_y_4 kc_b7 <| ml_iload_n dX11_y_6 1 rfl <| ml_imul dX11_y_7 <| ml_bipush dX11_y_8 kc_b6 <| ml_iadd dX11_y_10 <| ml_ck_of h fun hi1767 h => ml_iald dX11_y_11 hi1767 <| ml_rp (mk := ml_i) hr dX11_y_12 (fun _ => trivial) h
theorem sX11_y {l0 : Nat} {l1 : Int32} {m : ml_M} {rv : Int32} (h : fX11_y l0 l1 m = some rv) : ml_Sn yX11_y cX11_y 2 (some .int) 2 [ml_r l0, ml_i l1] m (some (ml_i rv)) m :=
  ml_Sn_of (P := True) (ini := false) (by decide +kernel) (Nat.le_of_ble_eq_true rfl) (fun h => by cases h) (fun _ => ml_RkI rv) fun E hL hr => wX11_y_0 hL hr _ _ h
theorem dX11_x_0 : ml_d cX11_x 0 (.aload_n 0) 1 1 := ⟨by decide +kernel, rfl⟩
theorem dX11_x_1 : ml_d cX11_x 1 (.getfield 47) 3 4 := ⟨by decide +kernel, rfl⟩
theorem dX11_x_4 : ml_d cX11_x 4 (.bipush 7) 2 6 := ⟨by decide +kernel, rfl⟩
theorem dX11_x_6 : ml_d cX11_x 6 (.iload_n 1) 1 7 := ⟨by decide +kernel, rfl⟩
theorem dX11_x_7 : ml_d cX11_x 7 (.imul) 1 8 := ⟨by decide +kernel, rfl⟩
theorem dX11_x_8 : ml_d cX11_x 8 (.iconst 5) 1 9 := ⟨by decide +kernel, rfl⟩
theorem dX11_x_9 : ml_d cX11_x 9 (.iadd) 1 10 := ⟨by decide +kernel, rfl⟩
theorem dX11_x_10 : ml_d cX11_x 10 (.iaload) 1 11 := ⟨by decide +kernel, rfl⟩
theorem dX11_x_11 : ml_d cX11_x 11 (.ireturn) 1 12 := ⟨by decide +kernel, rfl⟩
def fX11_x (l0 : Nat) (l1 : Int32) (m : ml_M) : Option Int32 :=
    if (ml_K m l0).1 = 11 then
    ml_let (ml_R m l0 25) fun a1769 =>
    if ml_in m a1769 20 (((7 : Int32) * l1) + (5 : Int32)) then
    some (ml_I m a1769 (((7 : Int32) * l1) + (5 : Int32)).toNatClampNeg)
    else none
    else none
theorem wX11_x_0 {E : ml_E} (hL : ml_eL E = 2) {rv : Int32} {m : ml_M} (hr : ∀ (pc pc' : Nat) (lv : List (Nat × ml_X)), ml_d cX11_x pc .ireturn 1 pc' → True → ml_V E "LostRoomModel" cX11_x 2 false m pc lv [ml_i rv]) : ∀ (l0 : Nat) (l1 : Int32), fX11_x l0 l1 m = some rv → ml_V E "LostRoomModel" cX11_x 2 false m 0 [(0, ml_r l0), (1, ml_i l1)] [] := by
  intro l0 l1 h
  unfold fX11_x at h
  exact ml_aload_n dX11_x_0 0 rfl <| ml_ck_of h fun hc1768 h => ml_getR dX11_x_1 wb_227 hc1768 <| ml_lx (mk := ml_r) h fun a1769 h => ml_bipush dX11_x_4 kc_b7 <| ml_iload_n dX11_x_6 1 rfl <| ml_imul dX11_x_7 <| ml_iconst dX11_x_8 kc_i5 <| ml_iadd dX11_x_9 <| ml_ck_of h fun hi1770 h => ml_iald dX11_x_10 hi1770 <| ml_rp (mk := ml_i) hr dX11_x_11 (fun _ => trivial) h
theorem sX11_x {l0 : Nat} {l1 : Int32} {m : ml_M} {rv : Int32} (h : fX11_x l0 l1 m = some rv) : ml_Sn yX11_x cX11_x 2 (some .int) 2 [ml_r l0, ml_i l1] m (some (ml_i rv)) m :=
  ml_Sn_of (P := True) (ini := false) (by decide +kernel) (Nat.le_of_ble_eq_true rfl) (fun h => by cases h) (fun _ => ml_RkI rv) fun E hL hr => wX11_x_0 hL hr _ _ h
theorem dX11_markOf_0 : ml_d cX11_markOf 0 (.iload_n 2) 1 1 := ⟨by decide +kernel, rfl⟩
theorem dX11_markOf_1 : ml_d cX11_markOf 1 (.iconst 3) 1 2 := ⟨by decide +kernel, rfl⟩
theorem dX11_markOf_2 : ml_j cX11_markOf 2 (.if_icmp .ne) 13 5 := ⟨11, by decide +kernel, by decide, rfl⟩
theorem dX11_markOf_5 : ml_d cX11_markOf 5 (.aload_n 0) 1 6 := ⟨by decide +kernel, rfl⟩
theorem dX11_markOf_6 : ml_d cX11_markOf 6 (.iload_n 1) 1 7 := ⟨by decide +kernel, rfl⟩
theorem dX11_markOf_7 : ml_d cX11_markOf 7 (.invokevirtual 223) 3 10 := ⟨by decide +kernel, rfl⟩
theorem dX11_markOf_10 : ml_j cX11_markOf 10 .goto 18 13 := ⟨8, by decide +kernel, by decide, rfl⟩
theorem dX11_markOf_13 : ml_d cX11_markOf 13 (.aload_n 0) 1 14 := ⟨by decide +kernel, rfl⟩
theorem dX11_markOf_14 : ml_d cX11_markOf 14 (.iload_n 1) 1 15 := ⟨by decide +kernel, rfl⟩
theorem dX11_markOf_15 : ml_d cX11_markOf 15 (.invokevirtual 226) 3 18 := ⟨by decide +kernel, rfl⟩
theorem dX11_markOf_18 : ml_d cX11_markOf 18 (.ireturn) 1 19 := ⟨by decide +kernel, rfl⟩
def fX11_markOf (l0 : Nat) (l1 : Int32) (l2 : Int32) (m : ml_M) : Option Int32 :=
    if l2 = (3 : Int32) then
    if (ml_K m l0).1 = 11 then
    ml_b1 (fX11_y l0 l1 m) fun r1776 =>
    some r1776
    else none
    else
    if (ml_K m l0).1 = 11 then
    ml_b1 (fX11_x l0 l1 m) fun r1773 =>
    some r1773
    else none
theorem wX11_markOf_0 {E : ml_E} (hL : ml_eL E = 3) {rv : Int32} {m : ml_M} (hr : ∀ (pc pc' : Nat) (lv : List (Nat × ml_X)), ml_d cX11_markOf pc .ireturn 1 pc' → True → ml_V E "LostRoomModel" cX11_markOf 3 false m pc lv [ml_i rv]) : ∀ (l0 : Nat) (l1 : Int32) (l2 : Int32), fX11_markOf l0 l1 l2 m = some rv → ml_V E "LostRoomModel" cX11_markOf 3 false m 0 [(0, ml_r l0), (1, ml_i l1), (2, ml_i l2)] [] := by
  intro l0 l1 l2 h
  unfold fX11_markOf at h
  exact ml_iload_n dX11_markOf_0 2 rfl <| ml_iconst dX11_markOf_1 kc_i3 <| ml_icmp_ne dX11_markOf_2 h (fun _ h => ml_aload_n dX11_markOf_13 0 rfl <| ml_iload_n dX11_markOf_14 1 rfl <| ml_ck_of h fun hc1772 h => ml_b1_of h fun r1773 hv1771 h => ml_callV dX11_markOf_15 wm_424 wb_277 hc1772 (sX11_x hv1771) rfl (Nat.le_of_ble_eq_true rfl) (Nat.le_of_ble_eq_true rfl) rfl <| ml_rp (mk := ml_i) hr dX11_markOf_18 (fun _ => trivial) h) (fun _ h => ml_aload_n dX11_markOf_5 0 rfl <| ml_iload_n dX11_markOf_6 1 rfl <| ml_ck_of h fun hc1775 h => ml_b1_of h fun r1776 hv1774 h => ml_callV dX11_markOf_7 wm_428 wb_278 hc1775 (sX11_y hv1774) rfl (Nat.le_of_ble_eq_true rfl) (Nat.le_of_ble_eq_true rfl) rfl <| ml_goto dX11_markOf_10 <| ml_rp (mk := ml_i) hr dX11_markOf_18 (fun _ => trivial) h)
theorem sX11_markOf {l0 : Nat} {l1 : Int32} {l2 : Int32} {m : ml_M} {rv : Int32} (h : fX11_markOf l0 l1 l2 m = some rv) : ml_Sn yX11_markOf cX11_markOf 3 (some .int) 3 [ml_r l0, ml_i l1, ml_i l2] m (some (ml_i rv)) m :=
  ml_Sn_of (P := True) (ini := false) (by decide +kernel) (Nat.le_of_ble_eq_true rfl) (fun h => by cases h) (fun _ => ml_RkI rv) fun E hL hr => wX11_markOf_0 hL hr _ _ _ h
theorem dX11_mark_0 : ml_d cX11_mark 0 (.aload_n 0) 1 1 := ⟨by decide +kernel, rfl⟩
theorem dX11_mark_1 : ml_d cX11_mark 1 (.iload_n 1) 1 2 := ⟨by decide +kernel, rfl⟩
theorem dX11_mark_2 : ml_d cX11_mark 2 (.invokevirtual 217) 3 5 := ⟨by decide +kernel, rfl⟩
theorem dX11_mark_5 : ml_j cX11_mark 5 (.ifCond .eq) 17 8 := ⟨12, by decide +kernel, by decide, rfl⟩
theorem dX11_mark_8 : ml_d cX11_mark 8 (.iload_n 2) 1 9 := ⟨by decide +kernel, rfl⟩
theorem dX11_mark_9 : ml_d cX11_mark 9 (.iconst 1) 1 10 := ⟨by decide +kernel, rfl⟩
theorem dX11_mark_10 : ml_d cX11_mark 10 (.iconst 5) 1 11 := ⟨by decide +kernel, rfl⟩
theorem dX11_mark_11 : ml_d cX11_mark 11 (.invokestatic 100) 3 14 := ⟨by decide +kernel, rfl⟩
theorem dX11_mark_14 : ml_j cX11_mark 14 (.ifCond .ne) 19 17 := ⟨5, by decide +kernel, by decide, rfl⟩
theorem dX11_mark_17 : ml_d cX11_mark 17 (.iconst (-1)) 1 18 := ⟨by decide +kernel, rfl⟩
theorem dX11_mark_18 : ml_d cX11_mark 18 (.ireturn) 1 19 := ⟨by decide +kernel, rfl⟩
theorem dX11_mark_19 : ml_d cX11_mark 19 (.aload_n 0) 1 20 := ⟨by decide +kernel, rfl⟩
theorem dX11_mark_20 : ml_d cX11_mark 20 (.iload_n 1) 1 21 := ⟨by decide +kernel, rfl⟩
theorem dX11_mark_21 : ml_d cX11_mark 21 (.iload_n 2) 1 22 := ⟨by decide +kernel, rfl⟩
theorem dX11_mark_22 : ml_d cX11_mark 22 (.invokevirtual 229) 3 25 := ⟨by decide +kernel, rfl⟩
theorem dX11_mark_25 : ml_j cX11_mark 25 (.ifCond .eq) 37 28 := ⟨12, by decide +kernel, by decide, rfl⟩
theorem dX11_mark_28 : ml_d cX11_mark 28 (.aload_n 0) 1 29 := ⟨by decide +kernel, rfl⟩
theorem dX11_mark_29 : ml_d cX11_mark 29 (.iload_n 1) 1 30 := ⟨by decide +kernel, rfl⟩
theorem dX11_mark_30 : ml_d cX11_mark 30 (.iload_n 2) 1 31 := ⟨by decide +kernel, rfl⟩
theorem dX11_mark_31 : ml_d cX11_mark 31 (.invokevirtual 232) 3 34 := ⟨by decide +kernel, rfl⟩
theorem dX11_mark_34 : ml_j cX11_mark 34 .goto 42 37 := ⟨8, by decide +kernel, by decide, rfl⟩
theorem dX11_mark_37 : ml_d cX11_mark 37 (.aload_n 0) 1 38 := ⟨by decide +kernel, rfl⟩
theorem dX11_mark_38 : ml_d cX11_mark 38 (.iconst 3) 1 39 := ⟨by decide +kernel, rfl⟩
theorem dX11_mark_39 : ml_d cX11_mark 39 (.invokevirtual 115) 3 42 := ⟨by decide +kernel, rfl⟩
theorem dX11_mark_42 : ml_d cX11_mark 42 (.ireturn) 1 43 := ⟨by decide +kernel, rfl⟩
def fX11_mark (l0 : Nat) (l1 : Int32) (l2 : Int32) (m : ml_M) : Option (Int32 × ml_M) :=
    if (ml_K m l0).1 = 11 then
    ml_b1 (fX11_isThing l0 l1 m) fun r1779 =>
    if r1779 = 0 then
    some ((-1 : Int32), m)
    else
    ml_b1 (fX11_in l2 (1 : Int32) (5 : Int32) m) fun r1781 =>
    if r1781 = 0 then
    some ((-1 : Int32), m)
    else
    ml_b1 (fX11_isOf l0 l1 l2 m) fun r1783 =>
    if r1783 = 0 then
    ml_b2 (fX11_meets l0 (3 : Int32) m) fun r1785 m1786 =>
    some (r1785, m1786)
    else
    ml_b1 (fX11_markOf l0 l1 l2 m) fun r1788 =>
    some (r1788, m)
    else none
theorem wX11_mark_0 {E : ml_E} (hL : ml_eL E = 3) {rv : Int32} {rm : ml_M} (hr : ∀ (pc pc' : Nat) (lv : List (Nat × ml_X)), ml_d cX11_mark pc .ireturn 1 pc' → True → ml_V E "LostRoomModel" cX11_mark 4 false rm pc lv [ml_i rv]) : ∀ (l0 : Nat) (l1 : Int32) (l2 : Int32) (m : ml_M), fX11_mark l0 l1 l2 m = some (rv, rm) → ml_V E "LostRoomModel" cX11_mark 4 false m 0 [(0, ml_r l0), (1, ml_i l1), (2, ml_i l2)] [] := by
  intro l0 l1 l2 m h
  unfold fX11_mark at h
  exact ml_aload_n dX11_mark_0 0 rfl <| ml_iload_n dX11_mark_1 1 rfl <| ml_ck_of h fun hc1778 h => ml_b1_of h fun r1779 hv1777 h => ml_callV dX11_mark_2 wm_398 wb_267 hc1778 (sX11_isThing hv1777) rfl (Nat.le_of_ble_eq_true rfl) (Nat.le_of_ble_eq_true rfl) rfl <| ml_if_eq dX11_mark_5 h (fun _ h => ml_iconst dX11_mark_17 kc_im1 <| ml_rI (mk := ml_i) hr dX11_mark_18 (fun _ => trivial) h) (fun _ h => ml_iload_n dX11_mark_8 2 rfl <| ml_iconst dX11_mark_9 kc_i1 <| ml_iconst dX11_mark_10 kc_i5 <| ml_b1_of h fun r1781 hv1780 h => ml_callS dX11_mark_11 wm_136 wb_100 (sX11_in hv1780) rfl (Nat.le_of_ble_eq_true rfl) (Nat.le_of_ble_eq_true rfl) rfl <| ml_if_ne dX11_mark_14 h (fun _ h => ml_aload_n dX11_mark_19 0 rfl <| ml_iload_n dX11_mark_20 1 rfl <| ml_iload_n dX11_mark_21 2 rfl <| ml_b1_of h fun r1783 hv1782 h => ml_callV dX11_mark_22 wm_432 wb_279 hc1778 (sX11_isOf hv1782) rfl (Nat.le_of_ble_eq_true rfl) (Nat.le_of_ble_eq_true rfl) rfl <| ml_if_eq dX11_mark_25 h (fun _ h => ml_aload_n dX11_mark_37 0 rfl <| ml_iconst dX11_mark_38 kc_i3 <| ml_b2_of h fun r1785 m1786 hv1784 h => ml_callV dX11_mark_39 wm_144 wb_105 hc1778 (sX11_meets hv1784) rfl (Nat.le_of_ble_eq_true rfl) (Nat.le_of_ble_eq_true rfl) rfl <| ml_rI (mk := ml_i) hr dX11_mark_42 (fun _ => trivial) h) (fun _ h => ml_aload_n dX11_mark_28 0 rfl <| ml_iload_n dX11_mark_29 1 rfl <| ml_iload_n dX11_mark_30 2 rfl <| ml_b1_of h fun r1788 hv1787 h => ml_callV dX11_mark_31 wm_436 wb_280 hc1778 (sX11_markOf hv1787) rfl (Nat.le_of_ble_eq_true rfl) (Nat.le_of_ble_eq_true rfl) rfl <| ml_goto dX11_mark_34 <| ml_rI (mk := ml_i) hr dX11_mark_42 (fun _ => trivial) h)) (fun _ h => ml_iconst dX11_mark_17 kc_im1 <| ml_rI (mk := ml_i) hr dX11_mark_18 (fun _ => trivial) h))
theorem sX11_mark {l0 : Nat} {l1 : Int32} {l2 : Int32} {m : ml_M} {rv : Int32} {rm : ml_M} (h : fX11_mark l0 l1 l2 m = some (rv, rm)) : ml_Sn yX11_mark cX11_mark 3 (some .int) 4 [ml_r l0, ml_i l1, ml_i l2] m (some (ml_i rv)) rm :=
  ml_Sn_of (P := True) (ini := false) (by decide +kernel) (Nat.le_of_ble_eq_true rfl) (fun h => by cases h) (fun _ => ml_RkI rv) fun E hL hr => wX11_mark_0 hL hr _ _ _ _ h
theorem dX10_may_0 : ml_d cX10_may 0 (.aload_n 0) 1 1 := ⟨by decide +kernel, rfl⟩
theorem dX10_may_1 : ml_d cX10_may 1 (.iload_n 1) 1 2 := ⟨by decide +kernel, rfl⟩
theorem dX10_may_2 : ml_d cX10_may 2 (.invokevirtual 172) 3 5 := ⟨by decide +kernel, rfl⟩
theorem dX10_may_5 : ml_j cX10_may 5 (.ifCond .eq) 20 8 := ⟨15, by decide +kernel, by decide, rfl⟩
theorem dX10_may_8 : ml_d cX10_may 8 (.aload_n 0) 1 9 := ⟨by decide +kernel, rfl⟩
theorem dX10_may_9 : ml_d cX10_may 9 (.getfield 36) 3 12 := ⟨by decide +kernel, rfl⟩
theorem dX10_may_12 : ml_d cX10_may 12 (.iload_n 1) 1 13 := ⟨by decide +kernel, rfl⟩
theorem dX10_may_13 : ml_d cX10_may 13 (.aaload) 1 14 := ⟨by decide +kernel, rfl⟩
theorem dX10_may_14 : ml_d cX10_may 14 (.getfield 169) 3 17 := ⟨by decide +kernel, rfl⟩
theorem dX10_may_17 : ml_j cX10_may 17 .goto 21 20 := ⟨4, by decide +kernel, by decide, rfl⟩
theorem dX10_may_20 : ml_d cX10_may 20 (.iconst (-1)) 1 21 := ⟨by decide +kernel, rfl⟩
theorem dX10_may_21 : ml_d cX10_may 21 (.ireturn) 1 22 := ⟨by decide +kernel, rfl⟩
def fX10_may (l0 : Nat) (l1 : Int32) (m : ml_M) : Option Int32 :=
    if (ml_K m l0).1 = 10 then
    ml_b1 (fX10_isThing l0 l1 m) fun r1791 =>
    if r1791 = 0 then
    some (-1 : Int32)
    else
    ml_let (ml_R m l0 4) fun a1792 =>
    if ml_in m a1792 29 l1 then
    ml_let (ml_R m a1792 l1.toNatClampNeg) fun a1794 =>
    if (ml_K m a1794).1 = 8 then
    some (ml_I m a1794 5)
    else none
    else none
    else none
theorem wX10_may_0 {E : ml_E} (hL : ml_eL E = 2) {rv : Int32} {m : ml_M} (hr : ∀ (pc pc' : Nat) (lv : List (Nat × ml_X)), ml_d cX10_may pc .ireturn 1 pc' → True → ml_V E "LostRoom" cX10_may 4 false m pc lv [ml_i rv]) : ∀ (l0 : Nat) (l1 : Int32), fX10_may l0 l1 m = some rv → ml_V E "LostRoom" cX10_may 4 false m 0 [(0, ml_r l0), (1, ml_i l1)] [] := by
  intro l0 l1 h
  unfold fX10_may at h
  exact ml_aload_n dX10_may_0 0 rfl <| ml_iload_n dX10_may_1 1 rfl <| ml_ck_of h fun hc1790 h => ml_b1_of h fun r1791 hv1789 h => ml_callV dX10_may_2 wm_394 wb_266 hc1790 (sX10_isThing hv1789) rfl (Nat.le_of_ble_eq_true rfl) (Nat.le_of_ble_eq_true rfl) rfl <| ml_if_eq dX10_may_5 h (fun _ h => ml_iconst dX10_may_20 kc_im1 <| ml_rp (mk := ml_i) hr dX10_may_21 (fun _ => trivial) h) (fun _ h => ml_aload_n dX10_may_8 0 rfl <| ml_getR dX10_may_9 wb_218 hc1790 <| ml_lx (mk := ml_r) h fun a1792 h => ml_iload_n dX10_may_12 1 rfl <| ml_ck_of h fun hi1793 h => ml_aald (kd := 29) dX10_may_13 (by decide) hi1793 <| ml_lx (mk := ml_r) h fun a1794 h => ml_ck_of h fun hc1795 h => ml_getI dX10_may_14 wb_281 hc1795 <| ml_goto dX10_may_17 <| ml_rp (mk := ml_i) hr dX10_may_21 (fun _ => trivial) h)
theorem sX10_may {l0 : Nat} {l1 : Int32} {m : ml_M} {rv : Int32} (h : fX10_may l0 l1 m = some rv) : ml_Sn yX10_may cX10_may 2 (some .int) 4 [ml_r l0, ml_i l1] m (some (ml_i rv)) m :=
  ml_Sn_of (P := True) (ini := false) (by decide +kernel) (Nat.le_of_ble_eq_true rfl) (fun h => by cases h) (fun _ => ml_RkI rv) fun E hL hr => wX10_may_0 hL hr _ _ h
theorem dX11_meetYears_0 : ml_d cX11_meetYears 0 (.iload_n 1) 1 1 := ⟨by decide +kernel, rfl⟩
theorem dX11_meetYears_1 : ml_d cX11_meetYears 1 (.iload 4) 2 3 := ⟨by decide +kernel, rfl⟩
theorem dX11_meetYears_3 : ml_j cX11_meetYears 3 (.if_icmp .gt) 15 6 := ⟨12, by decide +kernel, by decide, rfl⟩
theorem dX11_meetYears_6 : ml_d cX11_meetYears 6 (.iload_n 3) 1 7 := ⟨by decide +kernel, rfl⟩
theorem dX11_meetYears_7 : ml_d cX11_meetYears 7 (.iload_n 2) 1 8 := ⟨by decide +kernel, rfl⟩
theorem dX11_meetYears_8 : ml_j cX11_meetYears 8 (.if_icmp .gt) 15 11 := ⟨7, by decide +kernel, by decide, rfl⟩
theorem dX11_meetYears_11 : ml_d cX11_meetYears 11 (.iconst 1) 1 12 := ⟨by decide +kernel, rfl⟩
theorem dX11_meetYears_12 : ml_j cX11_meetYears 12 .goto 16 15 := ⟨4, by decide +kernel, by decide, rfl⟩
theorem dX11_meetYears_15 : ml_d cX11_meetYears 15 (.iconst 0) 1 16 := ⟨by decide +kernel, rfl⟩
theorem dX11_meetYears_16 : ml_d cX11_meetYears 16 (.ireturn) 1 17 := ⟨by decide +kernel, rfl⟩
def fX11_meetYears (l0 : Nat) (l1 : Int32) (l2 : Int32) (l3 : Int32) (l4 : Int32) (m : ml_M) : Option Int32 :=
    if l4 < l1 then
    some (0 : Int32)
    else
    if l2 < l3 then
    some (0 : Int32)
    else
    some (1 : Int32)
theorem wX11_meetYears_0 {E : ml_E} (hL : ml_eL E = 5) {rv : Int32} {m : ml_M} (hr : ∀ (pc pc' : Nat) (lv : List (Nat × ml_X)), ml_d cX11_meetYears pc .ireturn 1 pc' → (rv = 0 ∨ rv = 1) → ml_V E "LostRoomModel" cX11_meetYears 2 false m pc lv [ml_i rv]) : ∀ (l0 : Nat) (l1 : Int32) (l2 : Int32) (l3 : Int32) (l4 : Int32), fX11_meetYears l0 l1 l2 l3 l4 m = some rv → ml_V E "LostRoomModel" cX11_meetYears 2 false m 0 [(0, ml_r l0), (1, ml_i l1), (2, ml_i l2), (3, ml_i l3), (4, ml_i l4)] [] := by
  intro l0 l1 l2 l3 l4 h
  unfold fX11_meetYears at h
  exact ml_iload_n dX11_meetYears_0 1 rfl <| ml_iload dX11_meetYears_1 4 rfl <| ml_icmp_gt dX11_meetYears_3 h (fun _ h => ml_iconst dX11_meetYears_15 kc_i0 <| ml_rp (mk := ml_i) hr dX11_meetYears_16 (fun e => Or.inl e.symm) h) (fun _ h => ml_iload_n dX11_meetYears_6 3 rfl <| ml_iload_n dX11_meetYears_7 2 rfl <| ml_icmp_gt dX11_meetYears_8 h (fun _ h => ml_iconst dX11_meetYears_15 kc_i0 <| ml_rp (mk := ml_i) hr dX11_meetYears_16 (fun e => Or.inl e.symm) h) (fun _ h => ml_iconst dX11_meetYears_11 kc_i1 <| ml_goto dX11_meetYears_12 <| ml_rp (mk := ml_i) hr dX11_meetYears_16 (fun e => Or.inr e.symm) h))
theorem sX11_meetYears {l0 : Nat} {l1 : Int32} {l2 : Int32} {l3 : Int32} {l4 : Int32} {m : ml_M} {rv : Int32} (h : fX11_meetYears l0 l1 l2 l3 l4 m = some rv) : ml_Sn yX11_meetYears cX11_meetYears 5 (some .boolean) 2 [ml_r l0, ml_i l1, ml_i l2, ml_i l3, ml_i l4] m (some (ml_i rv)) m :=
  ml_Sn_of (P := (rv = 0 ∨ rv = 1)) (ini := false) (by decide +kernel) (Nat.le_of_ble_eq_true rfl) (fun h => by cases h) (fun hz => ml_RkZ rv hz) fun E hL hr => wX11_meetYears_0 hL hr _ _ _ _ _ h
theorem dX11_off_0 : ml_d cX11_off 0 (.iload_n 0) 1 1 := ⟨by decide +kernel, rfl⟩
theorem dX11_off_1 : ml_d cX11_off 1 (.iload_n 1) 1 2 := ⟨by decide +kernel, rfl⟩
theorem dX11_off_2 : ml_j cX11_off 2 (.if_icmp .ge) 11 5 := ⟨9, by decide +kernel, by decide, rfl⟩
theorem dX11_off_5 : ml_d cX11_off 5 (.iload_n 1) 1 6 := ⟨by decide +kernel, rfl⟩
theorem dX11_off_6 : ml_d cX11_off 6 (.iload_n 0) 1 7 := ⟨by decide +kernel, rfl⟩
theorem dX11_off_7 : ml_d cX11_off 7 (.isub) 1 8 := ⟨by decide +kernel, rfl⟩
theorem dX11_off_8 : ml_j cX11_off 8 .goto 14 11 := ⟨6, by decide +kernel, by decide, rfl⟩
theorem dX11_off_11 : ml_d cX11_off 11 (.iload_n 0) 1 12 := ⟨by decide +kernel, rfl⟩
theorem dX11_off_12 : ml_d cX11_off 12 (.iload_n 1) 1 13 := ⟨by decide +kernel, rfl⟩
theorem dX11_off_13 : ml_d cX11_off 13 (.isub) 1 14 := ⟨by decide +kernel, rfl⟩
theorem dX11_off_14 : ml_d cX11_off 14 (.ireturn) 1 15 := ⟨by decide +kernel, rfl⟩
def fX11_off (l0 : Int32) (l1 : Int32) (m : ml_M) : Option Int32 :=
    if l1 ≤ l0 then
    some (l0 - l1)
    else
    some (l1 - l0)
theorem wX11_off_0 {E : ml_E} (hL : ml_eL E = 2) {rv : Int32} {m : ml_M} (hr : ∀ (pc pc' : Nat) (lv : List (Nat × ml_X)), ml_d cX11_off pc .ireturn 1 pc' → True → ml_V E "LostRoomModel" cX11_off 2 false m pc lv [ml_i rv]) : ∀ (l0 : Int32) (l1 : Int32), fX11_off l0 l1 m = some rv → ml_V E "LostRoomModel" cX11_off 2 false m 0 [(0, ml_i l0), (1, ml_i l1)] [] := by
  intro l0 l1 h
  unfold fX11_off at h
  exact ml_iload_n dX11_off_0 0 rfl <| ml_iload_n dX11_off_1 1 rfl <| ml_icmp_ge dX11_off_2 h (fun _ h => ml_iload_n dX11_off_11 0 rfl <| ml_iload_n dX11_off_12 1 rfl <| ml_isub dX11_off_13 <| ml_rp (mk := ml_i) hr dX11_off_14 (fun _ => trivial) h) (fun _ h => ml_iload_n dX11_off_5 1 rfl <| ml_iload_n dX11_off_6 0 rfl <| ml_isub dX11_off_7 <| ml_goto dX11_off_8 <| ml_rp (mk := ml_i) hr dX11_off_14 (fun _ => trivial) h)
theorem sX11_off {l0 : Int32} {l1 : Int32} {m : ml_M} {rv : Int32} (h : fX11_off l0 l1 m = some rv) : ml_Sn yX11_off cX11_off 2 (some .int) 2 [ml_i l0, ml_i l1] m (some (ml_i rv)) m :=
  ml_Sn_of (P := True) (ini := false) (by decide +kernel) (Nat.le_of_ble_eq_true rfl) (fun h => by cases h) (fun _ => ml_RkI rv) fun E hL hr => wX11_off_0 hL hr _ _ h
theorem dX11_mayHave_0 : ml_d cX11_mayHave 0 (.iconst 5) 1 1 := ⟨by decide +kernel, rfl⟩
theorem dX11_mayHave_1 : ml_d cX11_mayHave 1 (.iload_n 1) 1 2 := ⟨by decide +kernel, rfl⟩
theorem dX11_mayHave_2 : ml_d cX11_mayHave 2 (.imul) 1 3 := ⟨by decide +kernel, rfl⟩
theorem dX11_mayHave_3 : ml_d cX11_mayHave 3 (.istore_n 3) 1 4 := ⟨by decide +kernel, rfl⟩
theorem dX11_mayHave_4 : ml_d cX11_mayHave 4 (.aload_n 0) 1 5 := ⟨by decide +kernel, rfl⟩
theorem dX11_mayHave_5 : ml_d cX11_mayHave 5 (.aload_n 0) 1 6 := ⟨by decide +kernel, rfl⟩
theorem dX11_mayHave_6 : ml_d cX11_mayHave 6 (.getfield 29) 3 9 := ⟨by decide +kernel, rfl⟩
theorem dX11_mayHave_9 : ml_d cX11_mayHave 9 (.iload_n 3) 1 10 := ⟨by decide +kernel, rfl⟩
theorem dX11_mayHave_10 : ml_d cX11_mayHave 10 (.iaload) 1 11 := ⟨by decide +kernel, rfl⟩
theorem dX11_mayHave_11 : ml_d cX11_mayHave 11 (.aload_n 0) 1 12 := ⟨by decide +kernel, rfl⟩
theorem dX11_mayHave_12 : ml_d cX11_mayHave 12 (.getfield 29) 3 15 := ⟨by decide +kernel, rfl⟩
theorem dX11_mayHave_15 : ml_d cX11_mayHave 15 (.iload_n 3) 1 16 := ⟨by decide +kernel, rfl⟩
theorem dX11_mayHave_16 : ml_d cX11_mayHave 16 (.iconst 1) 1 17 := ⟨by decide +kernel, rfl⟩
theorem dX11_mayHave_17 : ml_d cX11_mayHave 17 (.iadd) 1 18 := ⟨by decide +kernel, rfl⟩
theorem dX11_mayHave_18 : ml_d cX11_mayHave 18 (.iaload) 1 19 := ⟨by decide +kernel, rfl⟩
theorem dX11_mayHave_19 : ml_d cX11_mayHave 19 (.aload_n 0) 1 20 := ⟨by decide +kernel, rfl⟩
theorem dX11_mayHave_20 : ml_d cX11_mayHave 20 (.getfield 47) 3 23 := ⟨by decide +kernel, rfl⟩
theorem dX11_mayHave_23 : ml_d cX11_mayHave 23 (.bipush 7) 2 25 := ⟨by decide +kernel, rfl⟩
theorem dX11_mayHave_25 : ml_d cX11_mayHave 25 (.iload_n 2) 1 26 := ⟨by decide +kernel, rfl⟩
theorem dX11_mayHave_26 : ml_d cX11_mayHave 26 (.imul) 1 27 := ⟨by decide +kernel, rfl⟩
theorem dX11_mayHave_27 : ml_d cX11_mayHave 27 (.iconst 1) 1 28 := ⟨by decide +kernel, rfl⟩
theorem dX11_mayHave_28 : ml_d cX11_mayHave 28 (.iadd) 1 29 := ⟨by decide +kernel, rfl⟩
theorem dX11_mayHave_29 : ml_d cX11_mayHave 29 (.iaload) 1 30 := ⟨by decide +kernel, rfl⟩
theorem dX11_mayHave_30 : ml_d cX11_mayHave 30 (.aload_n 0) 1 31 := ⟨by decide +kernel, rfl⟩
theorem dX11_mayHave_31 : ml_d cX11_mayHave 31 (.getfield 47) 3 34 := ⟨by decide +kernel, rfl⟩
theorem dX11_mayHave_34 : ml_d cX11_mayHave 34 (.bipush 7) 2 36 := ⟨by decide +kernel, rfl⟩
theorem dX11_mayHave_36 : ml_d cX11_mayHave 36 (.iload_n 2) 1 37 := ⟨by decide +kernel, rfl⟩
theorem dX11_mayHave_37 : ml_d cX11_mayHave 37 (.imul) 1 38 := ⟨by decide +kernel, rfl⟩
theorem dX11_mayHave_38 : ml_d cX11_mayHave 38 (.iconst 2) 1 39 := ⟨by decide +kernel, rfl⟩
theorem dX11_mayHave_39 : ml_d cX11_mayHave 39 (.iadd) 1 40 := ⟨by decide +kernel, rfl⟩
theorem dX11_mayHave_40 : ml_d cX11_mayHave 40 (.iaload) 1 41 := ⟨by decide +kernel, rfl⟩
theorem dX11_mayHave_41 : ml_d cX11_mayHave 41 (.invokevirtual 235) 3 44 := ⟨by decide +kernel, rfl⟩
theorem dX11_mayHave_44 : ml_j cX11_mayHave 44 (.ifCond .ne) 49 47 := ⟨5, by decide +kernel, by decide, rfl⟩
theorem dX11_mayHave_47 : ml_d cX11_mayHave 47 (.iconst 0) 1 48 := ⟨by decide +kernel, rfl⟩
theorem dX11_mayHave_48 : ml_d cX11_mayHave 48 (.ireturn) 1 49 := ⟨by decide +kernel, rfl⟩
theorem dX11_mayHave_49 : ml_d cX11_mayHave 49 (.aload_n 0) 1 50 := ⟨by decide +kernel, rfl⟩
theorem dX11_mayHave_50 : ml_d cX11_mayHave 50 (.getfield 29) 3 53 := ⟨by decide +kernel, rfl⟩
theorem dX11_mayHave_53 : ml_d cX11_mayHave 53 (.iload_n 3) 1 54 := ⟨by decide +kernel, rfl⟩
theorem dX11_mayHave_54 : ml_d cX11_mayHave 54 (.iconst 3) 1 55 := ⟨by decide +kernel, rfl⟩
theorem dX11_mayHave_55 : ml_d cX11_mayHave 55 (.iadd) 1 56 := ⟨by decide +kernel, rfl⟩
theorem dX11_mayHave_56 : ml_d cX11_mayHave 56 (.iaload) 1 57 := ⟨by decide +kernel, rfl⟩
theorem dX11_mayHave_57 : ml_d cX11_mayHave 57 (.istore 4) 2 59 := ⟨by decide +kernel, rfl⟩
theorem dX11_mayHave_59 : ml_d cX11_mayHave 59 (.aload_n 0) 1 60 := ⟨by decide +kernel, rfl⟩
theorem dX11_mayHave_60 : ml_d cX11_mayHave 60 (.iload_n 2) 1 61 := ⟨by decide +kernel, rfl⟩
theorem dX11_mayHave_61 : ml_d cX11_mayHave 61 (.invokevirtual 226) 3 64 := ⟨by decide +kernel, rfl⟩
theorem dX11_mayHave_64 : ml_d cX11_mayHave 64 (.bipush 10) 2 66 := ⟨by decide +kernel, rfl⟩
theorem dX11_mayHave_66 : ml_d cX11_mayHave 66 (.idiv) 1 67 := ⟨by decide +kernel, rfl⟩
theorem dX11_mayHave_67 : ml_d cX11_mayHave 67 (.istore 5) 2 69 := ⟨by decide +kernel, rfl⟩
theorem dX11_mayHave_69 : ml_d cX11_mayHave 69 (.aload_n 0) 1 70 := ⟨by decide +kernel, rfl⟩
theorem dX11_mayHave_70 : ml_d cX11_mayHave 70 (.iload_n 2) 1 71 := ⟨by decide +kernel, rfl⟩
theorem dX11_mayHave_71 : ml_d cX11_mayHave 71 (.invokevirtual 226) 3 74 := ⟨by decide +kernel, rfl⟩
theorem dX11_mayHave_74 : ml_d cX11_mayHave 74 (.bipush 10) 2 76 := ⟨by decide +kernel, rfl⟩
theorem dX11_mayHave_76 : ml_d cX11_mayHave 76 (.irem) 1 77 := ⟨by decide +kernel, rfl⟩
theorem dX11_mayHave_77 : ml_d cX11_mayHave 77 (.istore 6) 2 79 := ⟨by decide +kernel, rfl⟩
theorem dX11_mayHave_79 : ml_d cX11_mayHave 79 (.aload_n 0) 1 80 := ⟨by decide +kernel, rfl⟩
theorem dX11_mayHave_80 : ml_d cX11_mayHave 80 (.iload_n 2) 1 81 := ⟨by decide +kernel, rfl⟩
theorem dX11_mayHave_81 : ml_d cX11_mayHave 81 (.invokevirtual 220) 3 84 := ⟨by decide +kernel, rfl⟩
theorem dX11_mayHave_84 : decode cX11_mayHave 84 = .ok (.tableswitch 149 1 4 #[32, 58, 89, 129], 32) := by decide +kernel
theorem dX11_mayHave_116 : ml_d cX11_mayHave 116 (.aload_n 0) 1 117 := ⟨by decide +kernel, rfl⟩
theorem dX11_mayHave_117 : ml_d cX11_mayHave 117 (.iload_n 2) 1 118 := ⟨by decide +kernel, rfl⟩
theorem dX11_mayHave_118 : ml_d cX11_mayHave 118 (.invokevirtual 226) 3 121 := ⟨by decide +kernel, rfl⟩
theorem dX11_mayHave_121 : ml_d cX11_mayHave 121 (.aload_n 0) 1 122 := ⟨by decide +kernel, rfl⟩
theorem dX11_mayHave_122 : ml_d cX11_mayHave 122 (.getfield 29) 3 125 := ⟨by decide +kernel, rfl⟩
theorem dX11_mayHave_125 : ml_d cX11_mayHave 125 (.iload_n 3) 1 126 := ⟨by decide +kernel, rfl⟩
theorem dX11_mayHave_126 : ml_d cX11_mayHave 126 (.iconst 2) 1 127 := ⟨by decide +kernel, rfl⟩
theorem dX11_mayHave_127 : ml_d cX11_mayHave 127 (.iadd) 1 128 := ⟨by decide +kernel, rfl⟩
theorem dX11_mayHave_128 : ml_d cX11_mayHave 128 (.iaload) 1 129 := ⟨by decide +kernel, rfl⟩
theorem dX11_mayHave_129 : ml_d cX11_mayHave 129 (.invokestatic 239) 3 132 := ⟨by decide +kernel, rfl⟩
theorem dX11_mayHave_132 : ml_d cX11_mayHave 132 (.iconst 1) 1 133 := ⟨by decide +kernel, rfl⟩
theorem dX11_mayHave_133 : ml_j cX11_mayHave 133 (.if_icmp .gt) 140 136 := ⟨7, by decide +kernel, by decide, rfl⟩
theorem dX11_mayHave_136 : ml_d cX11_mayHave 136 (.iconst 1) 1 137 := ⟨by decide +kernel, rfl⟩
theorem dX11_mayHave_137 : ml_j cX11_mayHave 137 .goto 141 140 := ⟨4, by decide +kernel, by decide, rfl⟩
theorem dX11_mayHave_140 : ml_d cX11_mayHave 140 (.iconst 0) 1 141 := ⟨by decide +kernel, rfl⟩
theorem dX11_mayHave_141 : ml_d cX11_mayHave 141 (.ireturn) 1 142 := ⟨by decide +kernel, rfl⟩
theorem dX11_mayHave_142 : ml_d cX11_mayHave 142 (.iload 5) 2 144 := ⟨by decide +kernel, rfl⟩
theorem dX11_mayHave_144 : ml_d cX11_mayHave 144 (.iload 4) 2 146 := ⟨by decide +kernel, rfl⟩
theorem dX11_mayHave_146 : ml_j cX11_mayHave 146 (.if_icmp .eq) 154 149 := ⟨8, by decide +kernel, by decide, rfl⟩
theorem dX11_mayHave_149 : ml_d cX11_mayHave 149 (.iload 5) 2 151 := ⟨by decide +kernel, rfl⟩
theorem dX11_mayHave_151 : ml_j cX11_mayHave 151 (.ifCond .ne) 171 154 := ⟨20, by decide +kernel, by decide, rfl⟩
theorem dX11_mayHave_154 : ml_d cX11_mayHave 154 (.iload 6) 2 156 := ⟨by decide +kernel, rfl⟩
theorem dX11_mayHave_156 : ml_d cX11_mayHave 156 (.aload_n 0) 1 157 := ⟨by decide +kernel, rfl⟩
theorem dX11_mayHave_157 : ml_d cX11_mayHave 157 (.getfield 29) 3 160 := ⟨by decide +kernel, rfl⟩
theorem dX11_mayHave_160 : ml_d cX11_mayHave 160 (.iload_n 3) 1 161 := ⟨by decide +kernel, rfl⟩
theorem dX11_mayHave_161 : ml_d cX11_mayHave 161 (.iconst 4) 1 162 := ⟨by decide +kernel, rfl⟩
theorem dX11_mayHave_162 : ml_d cX11_mayHave 162 (.iadd) 1 163 := ⟨by decide +kernel, rfl⟩
theorem dX11_mayHave_163 : ml_d cX11_mayHave 163 (.iaload) 1 164 := ⟨by decide +kernel, rfl⟩
theorem dX11_mayHave_164 : ml_j cX11_mayHave 164 (.if_icmp .eq) 171 167 := ⟨7, by decide +kernel, by decide, rfl⟩
theorem dX11_mayHave_167 : ml_d cX11_mayHave 167 (.iconst 1) 1 168 := ⟨by decide +kernel, rfl⟩
theorem dX11_mayHave_168 : ml_j cX11_mayHave 168 .goto 172 171 := ⟨4, by decide +kernel, by decide, rfl⟩
theorem dX11_mayHave_171 : ml_d cX11_mayHave 171 (.iconst 0) 1 172 := ⟨by decide +kernel, rfl⟩
theorem dX11_mayHave_172 : ml_d cX11_mayHave 172 (.ireturn) 1 173 := ⟨by decide +kernel, rfl⟩
theorem dX11_mayHave_173 : ml_d cX11_mayHave 173 (.aload_n 0) 1 174 := ⟨by decide +kernel, rfl⟩
theorem dX11_mayHave_174 : ml_d cX11_mayHave 174 (.iload_n 2) 1 175 := ⟨by decide +kernel, rfl⟩
theorem dX11_mayHave_175 : ml_d cX11_mayHave 175 (.invokevirtual 223) 3 178 := ⟨by decide +kernel, rfl⟩
theorem dX11_mayHave_178 : ml_d cX11_mayHave 178 (.iload_n 1) 1 179 := ⟨by decide +kernel, rfl⟩
theorem dX11_mayHave_179 : ml_j cX11_mayHave 179 (.if_icmp .ne) 211 182 := ⟨32, by decide +kernel, by decide, rfl⟩
theorem dX11_mayHave_182 : ml_d cX11_mayHave 182 (.iload 5) 2 184 := ⟨by decide +kernel, rfl⟩
theorem dX11_mayHave_184 : ml_d cX11_mayHave 184 (.iload 4) 2 186 := ⟨by decide +kernel, rfl⟩
theorem dX11_mayHave_186 : ml_j cX11_mayHave 186 (.if_icmp .eq) 194 189 := ⟨8, by decide +kernel, by decide, rfl⟩
theorem dX11_mayHave_189 : ml_d cX11_mayHave 189 (.iload 5) 2 191 := ⟨by decide +kernel, rfl⟩
theorem dX11_mayHave_191 : ml_j cX11_mayHave 191 (.ifCond .ne) 211 194 := ⟨20, by decide +kernel, by decide, rfl⟩
theorem dX11_mayHave_194 : ml_d cX11_mayHave 194 (.iload 6) 2 196 := ⟨by decide +kernel, rfl⟩
theorem dX11_mayHave_196 : ml_d cX11_mayHave 196 (.aload_n 0) 1 197 := ⟨by decide +kernel, rfl⟩
theorem dX11_mayHave_197 : ml_d cX11_mayHave 197 (.getfield 29) 3 200 := ⟨by decide +kernel, rfl⟩
theorem dX11_mayHave_200 : ml_d cX11_mayHave 200 (.iload_n 3) 1 201 := ⟨by decide +kernel, rfl⟩
theorem dX11_mayHave_201 : ml_d cX11_mayHave 201 (.iconst 4) 1 202 := ⟨by decide +kernel, rfl⟩
theorem dX11_mayHave_202 : ml_d cX11_mayHave 202 (.iadd) 1 203 := ⟨by decide +kernel, rfl⟩
theorem dX11_mayHave_203 : ml_d cX11_mayHave 203 (.iaload) 1 204 := ⟨by decide +kernel, rfl⟩
theorem dX11_mayHave_204 : ml_j cX11_mayHave 204 (.if_icmp .eq) 211 207 := ⟨7, by decide +kernel, by decide, rfl⟩
theorem dX11_mayHave_207 : ml_d cX11_mayHave 207 (.iconst 1) 1 208 := ⟨by decide +kernel, rfl⟩
theorem dX11_mayHave_208 : ml_j cX11_mayHave 208 .goto 212 211 := ⟨4, by decide +kernel, by decide, rfl⟩
theorem dX11_mayHave_211 : ml_d cX11_mayHave 211 (.iconst 0) 1 212 := ⟨by decide +kernel, rfl⟩
theorem dX11_mayHave_212 : ml_d cX11_mayHave 212 (.ireturn) 1 213 := ⟨by decide +kernel, rfl⟩
theorem dX11_mayHave_213 : ml_d cX11_mayHave 213 (.iload 5) 2 215 := ⟨by decide +kernel, rfl⟩
theorem dX11_mayHave_215 : ml_d cX11_mayHave 215 (.iload 4) 2 217 := ⟨by decide +kernel, rfl⟩
theorem dX11_mayHave_217 : ml_j cX11_mayHave 217 (.if_icmp .eq) 227 220 := ⟨10, by decide +kernel, by decide, rfl⟩
theorem dX11_mayHave_220 : ml_d cX11_mayHave 220 (.iload 6) 2 222 := ⟨by decide +kernel, rfl⟩
theorem dX11_mayHave_222 : ml_d cX11_mayHave 222 (.iload 4) 2 224 := ⟨by decide +kernel, rfl⟩
theorem dX11_mayHave_224 : ml_j cX11_mayHave 224 (.if_icmp .ne) 231 227 := ⟨7, by decide +kernel, by decide, rfl⟩
theorem dX11_mayHave_227 : ml_d cX11_mayHave 227 (.iconst 1) 1 228 := ⟨by decide +kernel, rfl⟩
theorem dX11_mayHave_228 : ml_j cX11_mayHave 228 .goto 232 231 := ⟨4, by decide +kernel, by decide, rfl⟩
theorem dX11_mayHave_231 : ml_d cX11_mayHave 231 (.iconst 0) 1 232 := ⟨by decide +kernel, rfl⟩
theorem dX11_mayHave_232 : ml_d cX11_mayHave 232 (.ireturn) 1 233 := ⟨by decide +kernel, rfl⟩
theorem dX11_mayHave_233 : ml_d cX11_mayHave 233 (.iconst 1) 1 234 := ⟨by decide +kernel, rfl⟩
theorem dX11_mayHave_234 : ml_d cX11_mayHave 234 (.ireturn) 1 235 := ⟨by decide +kernel, rfl⟩
def fX11_mayHave_154 (l0 : Nat) (l3 : Int32) (l6 : Int32) (m : ml_M) : Option Int32 :=
    if (ml_K m l0).1 = 11 then
    ml_let (ml_R m l0 12) fun a1797 =>
    if ml_in m a1797 20 (l3 + (4 : Int32)) then
    if l6 = (ml_I m a1797 (l3 + (4 : Int32)).toNatClampNeg) then
    some (0 : Int32)
    else
    some (1 : Int32)
    else none
    else none
theorem vX11_mayHave_154 {E : ml_E} (hL : ml_eL E = 7) {rv : Int32} {m : ml_M} (hr : ∀ (pc pc' : Nat) (lv : List (Nat × ml_X)), ml_d cX11_mayHave pc .ireturn 1 pc' → (rv = 0 ∨ rv = 1) → ml_V E "LostRoomModel" cX11_mayHave 3 false m pc lv [ml_i rv]) : ∀ (l0 : Nat) (l3 : Int32) (l6 : Int32), fX11_mayHave_154 l0 l3 l6 m = some rv → ml_V E "LostRoomModel" cX11_mayHave 3 false m 154 [(0, ml_r l0), (3, ml_i l3), (6, ml_i l6)] [] := by
  intro l0 l3 l6 h
  unfold fX11_mayHave_154 at h
  exact ml_iload dX11_mayHave_154 2 rfl <| ml_aload_n dX11_mayHave_156 0 rfl <| ml_ck_of h fun hc1796 h => ml_getR dX11_mayHave_157 wb_197 hc1796 <| ml_lx (mk := ml_r) h fun a1797 h => ml_iload_n dX11_mayHave_160 1 rfl <| ml_iconst dX11_mayHave_161 kc_i4 <| ml_iadd dX11_mayHave_162 <| ml_ck_of h fun hi1798 h => ml_iald dX11_mayHave_163 hi1798 <| ml_icmp_eq dX11_mayHave_164 h (fun _ h => ml_iconst dX11_mayHave_171 kc_i0 <| ml_rp (mk := ml_i) hr dX11_mayHave_172 (fun e => Or.inl e.symm) h) (fun _ h => ml_iconst dX11_mayHave_167 kc_i1 <| ml_goto dX11_mayHave_168 <| ml_rp (mk := ml_i) hr dX11_mayHave_172 (fun e => Or.inr e.symm) h)
def fX11_mayHave_194 (l0 : Nat) (l3 : Int32) (l6 : Int32) (m : ml_M) : Option Int32 :=
    if (ml_K m l0).1 = 11 then
    ml_let (ml_R m l0 12) fun a1800 =>
    if ml_in m a1800 20 (l3 + (4 : Int32)) then
    if l6 = (ml_I m a1800 (l3 + (4 : Int32)).toNatClampNeg) then
    some (0 : Int32)
    else
    some (1 : Int32)
    else none
    else none
theorem vX11_mayHave_194 {E : ml_E} (hL : ml_eL E = 7) {rv : Int32} {m : ml_M} (hr : ∀ (pc pc' : Nat) (lv : List (Nat × ml_X)), ml_d cX11_mayHave pc .ireturn 1 pc' → (rv = 0 ∨ rv = 1) → ml_V E "LostRoomModel" cX11_mayHave 3 false m pc lv [ml_i rv]) : ∀ (l0 : Nat) (l3 : Int32) (l6 : Int32), fX11_mayHave_194 l0 l3 l6 m = some rv → ml_V E "LostRoomModel" cX11_mayHave 3 false m 194 [(0, ml_r l0), (3, ml_i l3), (6, ml_i l6)] [] := by
  intro l0 l3 l6 h
  unfold fX11_mayHave_194 at h
  exact ml_iload dX11_mayHave_194 2 rfl <| ml_aload_n dX11_mayHave_196 0 rfl <| ml_ck_of h fun hc1799 h => ml_getR dX11_mayHave_197 wb_197 hc1799 <| ml_lx (mk := ml_r) h fun a1800 h => ml_iload_n dX11_mayHave_200 1 rfl <| ml_iconst dX11_mayHave_201 kc_i4 <| ml_iadd dX11_mayHave_202 <| ml_ck_of h fun hi1801 h => ml_iald dX11_mayHave_203 hi1801 <| ml_icmp_eq dX11_mayHave_204 h (fun _ h => ml_iconst dX11_mayHave_211 kc_i0 <| ml_rp (mk := ml_i) hr dX11_mayHave_212 (fun e => Or.inl e.symm) h) (fun _ h => ml_iconst dX11_mayHave_207 kc_i1 <| ml_goto dX11_mayHave_208 <| ml_rp (mk := ml_i) hr dX11_mayHave_212 (fun e => Or.inr e.symm) h)
def fX11_mayHave_227 (m : ml_M) : Option Int32 :=
    some (1 : Int32)
theorem vX11_mayHave_227 {E : ml_E} (hL : ml_eL E = 7) {rv : Int32} {m : ml_M} (hr : ∀ (pc pc' : Nat) (lv : List (Nat × ml_X)), ml_d cX11_mayHave pc .ireturn 1 pc' → (rv = 0 ∨ rv = 1) → ml_V E "LostRoomModel" cX11_mayHave 3 false m pc lv [ml_i rv]) : fX11_mayHave_227  m = some rv → ml_V E "LostRoomModel" cX11_mayHave 3 false m 227 [] [] := by
  intro  h
  unfold fX11_mayHave_227 at h
  exact ml_iconst dX11_mayHave_227 kc_i1 <| ml_goto dX11_mayHave_228 <| ml_rp (mk := ml_i) hr dX11_mayHave_232 (fun e => Or.inr e.symm) h
def fX11_mayHave (l0 : Nat) (l1 : Int32) (l2 : Int32) (m : ml_M) : Option Int32 :=
    ml_let ((5 : Int32) * l1) fun x1802 =>
    if (ml_K m l0).1 = 11 then
    ml_let (ml_R m l0 12) fun a1804 =>
    if ml_in m a1804 20 x1802 then
    ml_let (ml_R m l0 12) fun a1806 =>
    if ml_in m a1806 20 (x1802 + (1 : Int32)) then
    ml_let (ml_R m l0 25) fun a1808 =>
    if ml_in m a1808 20 (((7 : Int32) * l2) + (1 : Int32)) then
    ml_let (ml_R m l0 25) fun a1810 =>
    if ml_in m a1810 20 (((7 : Int32) * l2) + (2 : Int32)) then
    ml_b1 (fX11_meetYears l0 (ml_I m a1804 x1802.toNatClampNeg) (ml_I m a1806 (x1802 + (1 : Int32)).toNatClampNeg) (ml_I m a1808 (((7 : Int32) * l2) + (1 : Int32)).toNatClampNeg) (ml_I m a1810 (((7 : Int32) * l2) + (2 : Int32)).toNatClampNeg) m) fun r1813 =>
    if r1813 = 0 then
    some (0 : Int32)
    else
    ml_let (ml_R m l0 12) fun a1814 =>
    if ml_in m a1814 20 (x1802 + (3 : Int32)) then
    ml_let (ml_I m a1814 (x1802 + (3 : Int32)).toNatClampNeg) fun x1816 =>
    ml_b1 (fX11_x l0 l2 m) fun r1818 =>
    ml_let (r1818 / (10 : Int32)) fun x1819 =>
    ml_b1 (fX11_x l0 l2 m) fun r1821 =>
    ml_let (r1821 - r1821 / (10 : Int32) * (10 : Int32)) fun x1822 =>
    ml_b1 (fX11_kind l0 l2 m) fun r1824 =>
    if r1824 = (1 : Int32) then
    ml_b1 (fX11_x l0 l2 m) fun r1826 =>
    ml_let (ml_R m l0 12) fun a1827 =>
    if ml_in m a1827 20 (x1802 + (2 : Int32)) then
    ml_b1 (fX11_off r1826 (ml_I m a1827 (x1802 + (2 : Int32)).toNatClampNeg) m) fun r1830 =>
    if (1 : Int32) < r1830 then
    some (0 : Int32)
    else
    some (1 : Int32)
    else none
    else if r1824 = (2 : Int32) then
    if x1819 = x1816 then
    fX11_mayHave_154 l0 x1802 x1822 m
    else
    if x1819 = 0 then
    fX11_mayHave_154 l0 x1802 x1822 m
    else
    some (0 : Int32)
    else if r1824 = (3 : Int32) then
    ml_b1 (fX11_y l0 l2 m) fun r1836 =>
    if r1836 = l1 then
    if x1819 = x1816 then
    fX11_mayHave_194 l0 x1802 x1822 m
    else
    if x1819 = 0 then
    fX11_mayHave_194 l0 x1802 x1822 m
    else
    some (0 : Int32)
    else
    some (0 : Int32)
    else if r1824 = (4 : Int32) then
    if x1819 = x1816 then
    fX11_mayHave_227 m
    else
    if x1822 = x1816 then
    fX11_mayHave_227 m
    else
    some (0 : Int32)
    else some (1 : Int32)
    else none
    else none
    else none
    else none
    else none
    else none
theorem wX11_mayHave_0 {E : ml_E} (hL : ml_eL E = 7) {rv : Int32} {m : ml_M} (hr : ∀ (pc pc' : Nat) (lv : List (Nat × ml_X)), ml_d cX11_mayHave pc .ireturn 1 pc' → (rv = 0 ∨ rv = 1) → ml_V E "LostRoomModel" cX11_mayHave 3 false m pc lv [ml_i rv]) : ∀ (l0 : Nat) (l1 : Int32) (l2 : Int32), fX11_mayHave l0 l1 l2 m = some rv → ml_V E "LostRoomModel" cX11_mayHave 3 false m 0 [(0, ml_r l0), (1, ml_i l1), (2, ml_i l2)] [] := by
  intro l0 l1 l2 h
  unfold fX11_mayHave at h
  exact ml_iconst dX11_mayHave_0 kc_i5 <| ml_iload_n dX11_mayHave_1 1 rfl <| ml_imul dX11_mayHave_2 <| ml_lx (mk := ml_i) h fun x1802 h => ml_istore_n (lv' := [(3, ml_i x1802), (0, ml_r l0), (1, ml_i l1), (2, ml_i l2)]) dX11_mayHave_3 (ml_hn hL rfl) rfl <| ml_aload_n dX11_mayHave_4 1 rfl <| ml_aload_n dX11_mayHave_5 1 rfl <| ml_ck_of h fun hc1803 h => ml_getR dX11_mayHave_6 wb_197 hc1803 <| ml_lx (mk := ml_r) h fun a1804 h => ml_iload_n dX11_mayHave_9 0 rfl <| ml_ck_of h fun hi1805 h => ml_iald dX11_mayHave_10 hi1805 <| ml_aload_n dX11_mayHave_11 1 rfl <| ml_getR dX11_mayHave_12 wb_197 hc1803 <| ml_lx (mk := ml_r) h fun a1806 h => ml_iload_n dX11_mayHave_15 0 rfl <| ml_iconst dX11_mayHave_16 kc_i1 <| ml_iadd dX11_mayHave_17 <| ml_ck_of h fun hi1807 h => ml_iald dX11_mayHave_18 hi1807 <| ml_aload_n dX11_mayHave_19 1 rfl <| ml_getR dX11_mayHave_20 wb_227 hc1803 <| ml_lx (mk := ml_r) h fun a1808 h => ml_bipush dX11_mayHave_23 kc_b7 <| ml_iload_n dX11_mayHave_25 3 rfl <| ml_imul dX11_mayHave_26 <| ml_iconst dX11_mayHave_27 kc_i1 <| ml_iadd dX11_mayHave_28 <| ml_ck_of h fun hi1809 h => ml_iald dX11_mayHave_29 hi1809 <| ml_aload_n dX11_mayHave_30 1 rfl <| ml_getR dX11_mayHave_31 wb_227 hc1803 <| ml_lx (mk := ml_r) h fun a1810 h => ml_bipush dX11_mayHave_34 kc_b7 <| ml_iload_n dX11_mayHave_36 3 rfl <| ml_imul dX11_mayHave_37 <| ml_iconst dX11_mayHave_38 kc_i2 <| ml_iadd dX11_mayHave_39 <| ml_ck_of h fun hi1811 h => ml_iald dX11_mayHave_40 hi1811 <| ml_b1_of h fun r1813 hv1812 h => ml_callV dX11_mayHave_41 wm_440 wb_282 hc1803 (sX11_meetYears hv1812) rfl (Nat.le_of_ble_eq_true rfl) (Nat.le_of_ble_eq_true rfl) rfl <| ml_if_ne dX11_mayHave_44 h (fun _ h => ml_aload_n dX11_mayHave_49 1 rfl <| ml_getR dX11_mayHave_50 wb_197 hc1803 <| ml_lx (mk := ml_r) h fun a1814 h => ml_iload_n dX11_mayHave_53 0 rfl <| ml_iconst dX11_mayHave_54 kc_i3 <| ml_iadd dX11_mayHave_55 <| ml_ck_of h fun hi1815 h => ml_iald dX11_mayHave_56 hi1815 <| ml_lx (mk := ml_i) h fun x1816 h => ml_istore (lv' := [(4, ml_i x1816), (3, ml_i x1802), (0, ml_r l0), (1, ml_i l1), (2, ml_i l2)]) dX11_mayHave_57 (ml_hn hL rfl) rfl <| ml_aload_n dX11_mayHave_59 2 rfl <| ml_iload_n dX11_mayHave_60 4 rfl <| ml_b1_of h fun r1818 hv1817 h => ml_callV dX11_mayHave_61 wm_424 wb_277 hc1803 (sX11_x hv1817) rfl (Nat.le_of_ble_eq_true rfl) (Nat.le_of_ble_eq_true rfl) rfl <| ml_bipush dX11_mayHave_64 kc_b10 <| ml_idiv dX11_mayHave_66 (by decide) <| ml_lx (mk := ml_i) h fun x1819 h => ml_istore (lv' := [(5, ml_i x1819), (4, ml_i x1816), (3, ml_i x1802), (0, ml_r l0), (1, ml_i l1), (2, ml_i l2)]) dX11_mayHave_67 (ml_hn hL rfl) rfl <| ml_aload_n dX11_mayHave_69 3 rfl <| ml_iload_n dX11_mayHave_70 5 rfl <| ml_b1_of h fun r1821 hv1820 h => ml_callV dX11_mayHave_71 wm_424 wb_277 hc1803 (sX11_x hv1820) rfl (Nat.le_of_ble_eq_true rfl) (Nat.le_of_ble_eq_true rfl) rfl <| ml_bipush dX11_mayHave_74 kc_b10 <| ml_irem dX11_mayHave_76 (by decide) <| ml_lx (mk := ml_i) h fun x1822 h => ml_istore (lv' := [(6, ml_i x1822), (5, ml_i x1819), (4, ml_i x1816), (3, ml_i x1802), (0, ml_r l0), (1, ml_i l1), (2, ml_i l2)]) dX11_mayHave_77 (ml_hn hL rfl) rfl <| ml_aload_n dX11_mayHave_79 4 rfl <| ml_iload_n dX11_mayHave_80 6 rfl <| ml_b1_of h fun r1824 hv1823 h => ml_callV dX11_mayHave_81 wm_420 wb_276 hc1803 (sX11_kind hv1823) rfl (Nat.le_of_ble_eq_true rfl) (Nat.le_of_ble_eq_true rfl) rfl <| ml_sw_of h (fun hq1831 h => ml_swInC (off := 32) (1 : Int32) hq1831 dX11_mayHave_84 ⟨by decide, by decide, by decide⟩ <| ml_aload_n dX11_mayHave_116 4 rfl <| ml_iload_n dX11_mayHave_117 6 rfl <| ml_b1_of h fun r1826 hv1825 h => ml_callV dX11_mayHave_118 wm_424 wb_277 hc1803 (sX11_x hv1825) rfl (Nat.le_of_ble_eq_true rfl) (Nat.le_of_ble_eq_true rfl) rfl <| ml_aload_n dX11_mayHave_121 4 rfl <| ml_getR dX11_mayHave_122 wb_197 hc1803 <| ml_lx (mk := ml_r) h fun a1827 h => ml_iload_n dX11_mayHave_125 3 rfl <| ml_iconst dX11_mayHave_126 kc_i2 <| ml_iadd dX11_mayHave_127 <| ml_ck_of h fun hi1828 h => ml_iald dX11_mayHave_128 hi1828 <| ml_b1_of h fun r1830 hv1829 h => ml_callS dX11_mayHave_129 wm_443 wb_283 (sX11_off hv1829) rfl (Nat.le_of_ble_eq_true rfl) (Nat.le_of_ble_eq_true rfl) rfl <| ml_iconst dX11_mayHave_132 kc_i1 <| ml_icmp_gt dX11_mayHave_133 h (fun _ h => ml_iconst dX11_mayHave_140 kc_i0 <| ml_rp (mk := ml_i) hr dX11_mayHave_141 (fun e => Or.inl e.symm) h) (fun _ h => ml_iconst dX11_mayHave_136 kc_i1 <| ml_goto dX11_mayHave_137 <| ml_rp (mk := ml_i) hr dX11_mayHave_141 (fun e => Or.inr e.symm) h)) (fun hq1832 h => ml_sw_of h (fun hq1833 h => ml_swInC (off := 58) (2 : Int32) hq1833 dX11_mayHave_84 ⟨by decide, by decide, by decide⟩ <| ml_iload dX11_mayHave_142 1 rfl <| ml_iload dX11_mayHave_144 2 rfl <| ml_icmp_eq dX11_mayHave_146 h (fun _ h => ml_V.sub [4, 3, 0] rfl (vX11_mayHave_154 hL hr  _ _ _ h)) (fun _ h => ml_iload dX11_mayHave_149 1 rfl <| ml_if_ne dX11_mayHave_151 h (fun _ h => ml_iconst dX11_mayHave_171 kc_i0 <| ml_rp (mk := ml_i) hr dX11_mayHave_172 (fun e => Or.inl e.symm) h) (fun _ h => ml_V.sub [4, 3, 0] rfl (vX11_mayHave_154 hL hr  _ _ _ h)))) (fun hq1834 h => ml_sw_of h (fun hq1837 h => ml_swInC (off := 89) (3 : Int32) hq1837 dX11_mayHave_84 ⟨by decide, by decide, by decide⟩ <| ml_aload_n dX11_mayHave_173 4 rfl <| ml_iload_n dX11_mayHave_174 6 rfl <| ml_b1_of h fun r1836 hv1835 h => ml_callV dX11_mayHave_175 wm_428 wb_278 hc1803 (sX11_y hv1835) rfl (Nat.le_of_ble_eq_true rfl) (Nat.le_of_ble_eq_true rfl) rfl <| ml_iload_n dX11_mayHave_178 5 rfl <| ml_icmp_ne dX11_mayHave_179 h (fun _ h => ml_iconst dX11_mayHave_211 kc_i0 <| ml_rp (mk := ml_i) hr dX11_mayHave_212 (fun e => Or.inl e.symm) h) (fun _ h => ml_iload dX11_mayHave_182 1 rfl <| ml_iload dX11_mayHave_184 2 rfl <| ml_icmp_eq dX11_mayHave_186 h (fun _ h => ml_V.sub [4, 3, 0] rfl (vX11_mayHave_194 hL hr  _ _ _ h)) (fun _ h => ml_iload dX11_mayHave_189 1 rfl <| ml_if_ne dX11_mayHave_191 h (fun _ h => ml_iconst dX11_mayHave_211 kc_i0 <| ml_rp (mk := ml_i) hr dX11_mayHave_212 (fun e => Or.inl e.symm) h) (fun _ h => ml_V.sub [4, 3, 0] rfl (vX11_mayHave_194 hL hr  _ _ _ h))))) (fun hq1838 h => ml_sw_of h (fun hq1839 h => ml_swInC (off := 129) (4 : Int32) hq1839 dX11_mayHave_84 ⟨by decide, by decide, by decide⟩ <| ml_iload dX11_mayHave_213 1 rfl <| ml_iload dX11_mayHave_215 2 rfl <| ml_icmp_eq dX11_mayHave_217 h (fun _ h => ml_V.sub [] rfl (vX11_mayHave_227 hL hr  h)) (fun _ h => ml_iload dX11_mayHave_220 0 rfl <| ml_iload dX11_mayHave_222 2 rfl <| ml_icmp_ne dX11_mayHave_224 h (fun _ h => ml_iconst dX11_mayHave_231 kc_i0 <| ml_rp (mk := ml_i) hr dX11_mayHave_232 (fun e => Or.inl e.symm) h) (fun _ h => ml_V.sub [] rfl (vX11_mayHave_227 hL hr  h)))) (fun hq1840 h => ml_swOut dX11_mayHave_84 (by have w0 := lv_neT hq1832 (show (1 : Int32).toInt = 1 from by decide); have w1 := lv_neT hq1834 (show (2 : Int32).toInt = 2 from by decide); have w2 := lv_neT hq1838 (show (3 : Int32).toInt = 3 from by decide); have w3 := lv_neT hq1840 (show (4 : Int32).toInt = 4 from by decide); omega) (by decide) <| ml_iconst dX11_mayHave_233 kc_i1 <| ml_rp (mk := ml_i) hr dX11_mayHave_234 (fun e => Or.inr e.symm) h))))) (fun _ h => ml_iconst dX11_mayHave_47 kc_i0 <| ml_rp (mk := ml_i) hr dX11_mayHave_48 (fun e => Or.inl e.symm) h)
theorem sX11_mayHave {l0 : Nat} {l1 : Int32} {l2 : Int32} {m : ml_M} {rv : Int32} (h : fX11_mayHave l0 l1 l2 m = some rv) : ml_Sn yX11_mayHave cX11_mayHave 7 (some .boolean) 3 [ml_r l0, ml_i l1, ml_i l2] m (some (ml_i rv)) m :=
  ml_Sn_of (P := (rv = 0 ∨ rv = 1)) (ini := false) (by decide +kernel) (Nat.le_of_ble_eq_true rfl) (fun h => by cases h) (fun hz => ml_RkZ rv hz) fun E hL hr => wX11_mayHave_0 hL hr _ _ _ h
theorem dX11_mayOf_0 : ml_d cX11_mayOf 0 (.iconst 0) 1 1 := ⟨by decide +kernel, rfl⟩
theorem dX11_mayOf_1 : ml_d cX11_mayOf 1 (.istore_n 2) 1 2 := ⟨by decide +kernel, rfl⟩
theorem dX11_mayOf_2 : ml_d cX11_mayOf 2 (.iconst 0) 1 3 := ⟨by decide +kernel, rfl⟩
theorem dX11_mayOf_3 : ml_d cX11_mayOf 3 (.istore_n 3) 1 4 := ⟨by decide +kernel, rfl⟩
theorem dX11_mayOf_4 : ml_d cX11_mayOf 4 (.iload_n 3) 1 5 := ⟨by decide +kernel, rfl⟩
theorem dX11_mayOf_5 : ml_d cX11_mayOf 5 (.aload_n 0) 1 6 := ⟨by decide +kernel, rfl⟩
theorem dX11_mayOf_6 : ml_d cX11_mayOf 6 (.getfield 172) 3 9 := ⟨by decide +kernel, rfl⟩
theorem dX11_mayOf_9 : ml_j cX11_mayOf 9 (.if_icmp .ge) 37 12 := ⟨28, by decide +kernel, by decide, rfl⟩
theorem dX11_mayOf_12 : ml_d cX11_mayOf 12 (.iload_n 2) 1 13 := ⟨by decide +kernel, rfl⟩
theorem dX11_mayOf_13 : ml_d cX11_mayOf 13 (.aload_n 0) 1 14 := ⟨by decide +kernel, rfl⟩
theorem dX11_mayOf_14 : ml_d cX11_mayOf 14 (.iload_n 3) 1 15 := ⟨by decide +kernel, rfl⟩
theorem dX11_mayOf_15 : ml_d cX11_mayOf 15 (.iload_n 1) 1 16 := ⟨by decide +kernel, rfl⟩
theorem dX11_mayOf_16 : ml_d cX11_mayOf 16 (.invokevirtual 242) 3 19 := ⟨by decide +kernel, rfl⟩
theorem dX11_mayOf_19 : ml_j cX11_mayOf 19 (.ifCond .eq) 28 22 := ⟨9, by decide +kernel, by decide, rfl⟩
theorem dX11_mayOf_22 : ml_d cX11_mayOf 22 (.iconst 1) 1 23 := ⟨by decide +kernel, rfl⟩
theorem dX11_mayOf_23 : ml_d cX11_mayOf 23 (.iload_n 3) 1 24 := ⟨by decide +kernel, rfl⟩
theorem dX11_mayOf_24 : ml_d cX11_mayOf 24 (.ishl) 1 25 := ⟨by decide +kernel, rfl⟩
theorem dX11_mayOf_25 : ml_j cX11_mayOf 25 .goto 29 28 := ⟨4, by decide +kernel, by decide, rfl⟩
theorem dX11_mayOf_28 : ml_d cX11_mayOf 28 (.iconst 0) 1 29 := ⟨by decide +kernel, rfl⟩
theorem dX11_mayOf_29 : ml_d cX11_mayOf 29 (.ior) 1 30 := ⟨by decide +kernel, rfl⟩
theorem dX11_mayOf_30 : ml_d cX11_mayOf 30 (.istore_n 2) 1 31 := ⟨by decide +kernel, rfl⟩
theorem dX11_mayOf_31 : ml_d cX11_mayOf 31 (.iinc 3 1) 3 34 := ⟨by decide +kernel, rfl⟩
theorem dX11_mayOf_34 : ml_j cX11_mayOf 34 .goto 4 37 := ⟨(-30), by decide +kernel, by decide, rfl⟩
theorem dX11_mayOf_37 : ml_d cX11_mayOf 37 (.iload_n 2) 1 38 := ⟨by decide +kernel, rfl⟩
theorem dX11_mayOf_38 : ml_d cX11_mayOf 38 (.ireturn) 1 39 := ⟨by decide +kernel, rfl⟩
def fX11_mayOf_29 (k4 : Nat → Int32 → Int32 → Int32 → ml_M → Option Int32) (l0 : Nat) (l1 : Int32) (l3 : Int32) (t0 : Int32) (t1 : Int32) (m : ml_M) : Option Int32 :=
    ml_let (t1 ||| t0) fun x1841 =>
    k4 l0 l1 x1841 (l3 + (1 : Int32)) m
theorem vX11_mayOf_29 {E : ml_E} (hL : ml_eL E = 4) {rv : Int32} {m : ml_M} (hr : ∀ (pc pc' : Nat) (lv : List (Nat × ml_X)), ml_d cX11_mayOf pc .ireturn 1 pc' → True → ml_V E "LostRoomModel" cX11_mayOf 4 false m pc lv [ml_i rv]) {k4 : Nat → Int32 → Int32 → Int32 → ml_M → Option Int32} (hk4 : ∀ (l0 : Nat) (l1 : Int32) (l2 : Int32) (l3 : Int32), k4 l0 l1 l2 l3 m = some rv → ml_V E "LostRoomModel" cX11_mayOf 4 false m 4 [(0, ml_r l0), (1, ml_i l1), (2, ml_i l2), (3, ml_i l3)] []) : ∀ (l0 : Nat) (l1 : Int32) (l3 : Int32) (t0 : Int32) (t1 : Int32), fX11_mayOf_29 k4 l0 l1 l3 t0 t1 m = some rv → ml_V E "LostRoomModel" cX11_mayOf 4 false m 29 [(0, ml_r l0), (1, ml_i l1), (3, ml_i l3)] [ml_i t0, ml_i t1] := by
  intro l0 l1 l3 t0 t1 h
  unfold fX11_mayOf_29 at h
  exact ml_ior dX11_mayOf_29 <| ml_lx (mk := ml_i) h fun x1841 h => ml_istore_n (lv' := [(2, ml_i x1841), (0, ml_r l0), (1, ml_i l1), (3, ml_i l3)]) dX11_mayOf_30 (ml_hn hL rfl) rfl <| ml_iinc (lv' := [(3, ml_i (l3 + (1 : Int32))), (2, ml_i x1841), (0, ml_r l0), (1, ml_i l1)]) dX11_mayOf_31 3 rfl (congrArg (l3 + ·) kc_i1) (ml_hn hL rfl) rfl <| ml_goto dX11_mayOf_34 <| ml_V.sub [2, 3, 1, 0] rfl (hk4 _ _ _ _ h)
def fX11_mayOf_4 : Nat → Nat → Int32 → Int32 → Int32 → ml_M → Option Int32
  | 0, _, _, _, _, _ => none
  | fu + 1, l0, l1, l2, l3, m =>
    if (ml_K m l0).1 = 11 then
    if (ml_I m l0 9) ≤ l3 then
    some l2
    else
    ml_b1 (fX11_mayHave l0 l3 l1 m) fun r1844 =>
    if r1844 = 0 then
    fX11_mayOf_29 (fX11_mayOf_4 fu) l0 l1 l3 (0 : Int32) l2 m
    else
    fX11_mayOf_29 (fX11_mayOf_4 fu) l0 l1 l3 ((1 : Int32) <<< (l3 &&& 31)) l2 m
    else none
theorem vX11_mayOf_4 {E : ml_E} (hL : ml_eL E = 4) {rv : Int32} {m : ml_M} (hr : ∀ (pc pc' : Nat) (lv : List (Nat × ml_X)), ml_d cX11_mayOf pc .ireturn 1 pc' → True → ml_V E "LostRoomModel" cX11_mayOf 4 false m pc lv [ml_i rv]) : ∀ (fu : Nat) (l0 : Nat) (l1 : Int32) (l2 : Int32) (l3 : Int32), fX11_mayOf_4 fu l0 l1 l2 l3 m = some rv → ml_V E "LostRoomModel" cX11_mayOf 4 false m 4 [(0, ml_r l0), (1, ml_i l1), (2, ml_i l2), (3, ml_i l3)] [] := by
  intro fu
  induction fu with
  | zero => intro l0 l1 l2 l3 h; exact ml_none h
  | succ fu ih =>
    intro l0 l1 l2 l3 h
    have hk4 := ih
    unfold fX11_mayOf_4 at h
    exact ml_iload_n dX11_mayOf_4 3 rfl <| ml_aload_n dX11_mayOf_5 0 rfl <| ml_ck_of h fun hc1842 h => ml_getI dX11_mayOf_6 wb_215 hc1842 <| ml_icmp_ge dX11_mayOf_9 h (fun _ h => ml_iload_n dX11_mayOf_37 2 rfl <| ml_rp (mk := ml_i) hr dX11_mayOf_38 (fun _ => trivial) h) (fun _ h => ml_iload_n dX11_mayOf_12 2 rfl <| ml_aload_n dX11_mayOf_13 0 rfl <| ml_iload_n dX11_mayOf_14 3 rfl <| ml_iload_n dX11_mayOf_15 1 rfl <| ml_b1_of h fun r1844 hv1843 h => ml_callV dX11_mayOf_16 wm_447 wb_284 hc1842 (sX11_mayHave hv1843) rfl (Nat.le_of_ble_eq_true rfl) (Nat.le_of_ble_eq_true rfl) rfl <| ml_if_eq dX11_mayOf_19 h (fun _ h => ml_iconst dX11_mayOf_28 kc_i0 <| ml_V.sub [0, 1, 3] rfl (vX11_mayOf_29 hL hr hk4 _ _ _ _ _ h)) (fun _ h => ml_iconst dX11_mayOf_22 kc_i1 <| ml_iload_n dX11_mayOf_23 3 rfl <| ml_ishl dX11_mayOf_24 <| ml_goto dX11_mayOf_25 <| ml_V.sub [0, 1, 3] rfl (vX11_mayOf_29 hL hr hk4 _ _ _ _ _ h)))
def fX11_mayOf (l0 : Nat) (l1 : Int32) (m : ml_M) : Option Int32 :=
    fX11_mayOf_4 ml_fu l0 l1 (0 : Int32) (0 : Int32) m
theorem wX11_mayOf_0 {E : ml_E} (hL : ml_eL E = 4) {rv : Int32} {m : ml_M} (hr : ∀ (pc pc' : Nat) (lv : List (Nat × ml_X)), ml_d cX11_mayOf pc .ireturn 1 pc' → True → ml_V E "LostRoomModel" cX11_mayOf 4 false m pc lv [ml_i rv]) : ∀ (l0 : Nat) (l1 : Int32), fX11_mayOf l0 l1 m = some rv → ml_V E "LostRoomModel" cX11_mayOf 4 false m 0 [(0, ml_r l0), (1, ml_i l1)] [] := by
  intro l0 l1 h
  unfold fX11_mayOf at h
  exact ml_iconst dX11_mayOf_0 kc_i0 <| ml_istore_n (lv' := [(2, ml_i (0 : Int32)), (0, ml_r l0), (1, ml_i l1)]) dX11_mayOf_1 (ml_hn hL rfl) rfl <| ml_iconst dX11_mayOf_2 kc_i0 <| ml_istore_n (lv' := [(3, ml_i (0 : Int32)), (2, ml_i (0 : Int32)), (0, ml_r l0), (1, ml_i l1)]) dX11_mayOf_3 (ml_hn hL rfl) rfl <| ml_V.sub [2, 3, 1, 0] rfl (vX11_mayOf_4 hL hr  ml_fu _ _ _ _ h)
theorem sX11_mayOf {l0 : Nat} {l1 : Int32} {m : ml_M} {rv : Int32} (h : fX11_mayOf l0 l1 m = some rv) : ml_Sn yX11_mayOf cX11_mayOf 4 (some .int) 4 [ml_r l0, ml_i l1] m (some (ml_i rv)) m :=
  ml_Sn_of (P := True) (ini := false) (by decide +kernel) (Nat.le_of_ble_eq_true rfl) (fun h => by cases h) (fun _ => ml_RkI rv) fun E hL hr => wX11_mayOf_0 hL hr _ _ h
theorem dX11_may_0 : ml_d cX11_may 0 (.aload_n 0) 1 1 := ⟨by decide +kernel, rfl⟩
theorem dX11_may_1 : ml_d cX11_may 1 (.iload_n 1) 1 2 := ⟨by decide +kernel, rfl⟩
theorem dX11_may_2 : ml_d cX11_may 2 (.invokevirtual 217) 3 5 := ⟨by decide +kernel, rfl⟩
theorem dX11_may_5 : ml_j cX11_may 5 (.ifCond .eq) 16 8 := ⟨11, by decide +kernel, by decide, rfl⟩
theorem dX11_may_8 : ml_d cX11_may 8 (.aload_n 0) 1 9 := ⟨by decide +kernel, rfl⟩
theorem dX11_may_9 : ml_d cX11_may 9 (.iload_n 1) 1 10 := ⟨by decide +kernel, rfl⟩
theorem dX11_may_10 : ml_d cX11_may 10 (.invokevirtual 245) 3 13 := ⟨by decide +kernel, rfl⟩
theorem dX11_may_13 : ml_j cX11_may 13 .goto 17 16 := ⟨4, by decide +kernel, by decide, rfl⟩
theorem dX11_may_16 : ml_d cX11_may 16 (.iconst (-1)) 1 17 := ⟨by decide +kernel, rfl⟩
theorem dX11_may_17 : ml_d cX11_may 17 (.ireturn) 1 18 := ⟨by decide +kernel, rfl⟩
def fX11_may (l0 : Nat) (l1 : Int32) (m : ml_M) : Option Int32 :=
    if (ml_K m l0).1 = 11 then
    ml_b1 (fX11_isThing l0 l1 m) fun r1847 =>
    if r1847 = 0 then
    some (-1 : Int32)
    else
    ml_b1 (fX11_mayOf l0 l1 m) fun r1849 =>
    some r1849
    else none
theorem wX11_may_0 {E : ml_E} (hL : ml_eL E = 2) {rv : Int32} {m : ml_M} (hr : ∀ (pc pc' : Nat) (lv : List (Nat × ml_X)), ml_d cX11_may pc .ireturn 1 pc' → True → ml_V E "LostRoomModel" cX11_may 5 false m pc lv [ml_i rv]) : ∀ (l0 : Nat) (l1 : Int32), fX11_may l0 l1 m = some rv → ml_V E "LostRoomModel" cX11_may 5 false m 0 [(0, ml_r l0), (1, ml_i l1)] [] := by
  intro l0 l1 h
  unfold fX11_may at h
  exact ml_aload_n dX11_may_0 0 rfl <| ml_iload_n dX11_may_1 1 rfl <| ml_ck_of h fun hc1846 h => ml_b1_of h fun r1847 hv1845 h => ml_callV dX11_may_2 wm_398 wb_267 hc1846 (sX11_isThing hv1845) rfl (Nat.le_of_ble_eq_true rfl) (Nat.le_of_ble_eq_true rfl) rfl <| ml_if_eq dX11_may_5 h (fun _ h => ml_iconst dX11_may_16 kc_im1 <| ml_rp (mk := ml_i) hr dX11_may_17 (fun _ => trivial) h) (fun _ h => ml_aload_n dX11_may_8 0 rfl <| ml_iload_n dX11_may_9 1 rfl <| ml_b1_of h fun r1849 hv1848 h => ml_callV dX11_may_10 wm_451 wb_285 hc1846 (sX11_mayOf hv1848) rfl (Nat.le_of_ble_eq_true rfl) (Nat.le_of_ble_eq_true rfl) rfl <| ml_goto dX11_may_13 <| ml_rp (mk := ml_i) hr dX11_may_17 (fun _ => trivial) h)
theorem sX11_may {l0 : Nat} {l1 : Int32} {m : ml_M} {rv : Int32} (h : fX11_may l0 l1 m = some rv) : ml_Sn yX11_may cX11_may 2 (some .int) 5 [ml_r l0, ml_i l1] m (some (ml_i rv)) m :=
  ml_Sn_of (P := True) (ini := false) (by decide +kernel) (Nat.le_of_ble_eq_true rfl) (fun h => by cases h) (fun _ => ml_RkI rv) fun E hL hr => wX11_may_0 hL hr _ _ h
theorem dX10_ownAll_0 : ml_d cX10_ownAll 0 (.iconst 0) 1 1 := ⟨by decide +kernel, rfl⟩
theorem dX10_ownAll_1 : ml_d cX10_ownAll 1 (.istore_n 2) 1 2 := ⟨by decide +kernel, rfl⟩
theorem dX10_ownAll_2 : ml_d cX10_ownAll 2 (.iload_n 2) 1 3 := ⟨by decide +kernel, rfl⟩
theorem dX10_ownAll_3 : ml_d cX10_ownAll 3 (.aload_n 0) 1 4 := ⟨by decide +kernel, rfl⟩
theorem dX10_ownAll_4 : ml_d cX10_ownAll 4 (.getfield 118) 3 7 := ⟨by decide +kernel, rfl⟩
theorem dX10_ownAll_7 : ml_j cX10_ownAll 7 (.if_icmp .ge) 32 10 := ⟨25, by decide +kernel, by decide, rfl⟩
theorem dX10_ownAll_10 : ml_d cX10_ownAll 10 (.aload_n 0) 1 11 := ⟨by decide +kernel, rfl⟩
theorem dX10_ownAll_11 : ml_d cX10_ownAll 11 (.getfield 36) 3 14 := ⟨by decide +kernel, rfl⟩
theorem dX10_ownAll_14 : ml_d cX10_ownAll 14 (.iload_n 2) 1 15 := ⟨by decide +kernel, rfl⟩
theorem dX10_ownAll_15 : ml_d cX10_ownAll 15 (.aaload) 1 16 := ⟨by decide +kernel, rfl⟩
theorem dX10_ownAll_16 : ml_d cX10_ownAll 16 (.getfield 169) 3 19 := ⟨by decide +kernel, rfl⟩
theorem dX10_ownAll_19 : ml_d cX10_ownAll 19 (.iload_n 1) 1 20 := ⟨by decide +kernel, rfl⟩
theorem dX10_ownAll_20 : ml_d cX10_ownAll 20 (.iand) 1 21 := ⟨by decide +kernel, rfl⟩
theorem dX10_ownAll_21 : ml_j cX10_ownAll 21 (.ifCond .ne) 26 24 := ⟨5, by decide +kernel, by decide, rfl⟩
theorem dX10_ownAll_24 : ml_d cX10_ownAll 24 (.iconst 0) 1 25 := ⟨by decide +kernel, rfl⟩
theorem dX10_ownAll_25 : ml_d cX10_ownAll 25 (.ireturn) 1 26 := ⟨by decide +kernel, rfl⟩
theorem dX10_ownAll_26 : ml_d cX10_ownAll 26 (.iinc 2 1) 3 29 := ⟨by decide +kernel, rfl⟩
theorem dX10_ownAll_29 : ml_j cX10_ownAll 29 .goto 2 32 := ⟨(-27), by decide +kernel, by decide, rfl⟩
theorem dX10_ownAll_32 : ml_d cX10_ownAll 32 (.iconst 1) 1 33 := ⟨by decide +kernel, rfl⟩
theorem dX10_ownAll_33 : ml_d cX10_ownAll 33 (.ireturn) 1 34 := ⟨by decide +kernel, rfl⟩
def fX10_ownAll_2 : Nat → Nat → Int32 → Int32 → ml_M → Option Int32
  | 0, _, _, _, _ => none
  | fu + 1, l0, l1, l2, m =>
    if (ml_K m l0).1 = 10 then
    if (ml_I m l0 5) ≤ l2 then
    some (1 : Int32)
    else
    ml_let (ml_R m l0 4) fun a1851 =>
    if ml_in m a1851 29 l2 then
    ml_let (ml_R m a1851 l2.toNatClampNeg) fun a1853 =>
    if (ml_K m a1853).1 = 8 then
    if ((ml_I m a1853 5) &&& l1) = 0 then
    some (0 : Int32)
    else
    (fX10_ownAll_2 fu) l0 l1 (l2 + (1 : Int32)) m
    else none
    else none
    else none
theorem vX10_ownAll_2 {E : ml_E} (hL : ml_eL E = 3) {rv : Int32} {m : ml_M} (hr : ∀ (pc pc' : Nat) (lv : List (Nat × ml_X)), ml_d cX10_ownAll pc .ireturn 1 pc' → (rv = 0 ∨ rv = 1) → ml_V E "LostRoom" cX10_ownAll 2 false m pc lv [ml_i rv]) : ∀ (fu : Nat) (l0 : Nat) (l1 : Int32) (l2 : Int32), fX10_ownAll_2 fu l0 l1 l2 m = some rv → ml_V E "LostRoom" cX10_ownAll 2 false m 2 [(0, ml_r l0), (1, ml_i l1), (2, ml_i l2)] [] := by
  intro fu
  induction fu with
  | zero => intro l0 l1 l2 h; exact ml_none h
  | succ fu ih =>
    intro l0 l1 l2 h
    have hk2 := ih
    unfold fX10_ownAll_2 at h
    exact ml_iload_n dX10_ownAll_2 2 rfl <| ml_aload_n dX10_ownAll_3 0 rfl <| ml_ck_of h fun hc1850 h => ml_getI dX10_ownAll_4 wb_217 hc1850 <| ml_icmp_ge dX10_ownAll_7 h (fun _ h => ml_iconst dX10_ownAll_32 kc_i1 <| ml_rp (mk := ml_i) hr dX10_ownAll_33 (fun e => Or.inr e.symm) h) (fun _ h => ml_aload_n dX10_ownAll_10 0 rfl <| ml_getR dX10_ownAll_11 wb_218 hc1850 <| ml_lx (mk := ml_r) h fun a1851 h => ml_iload_n dX10_ownAll_14 2 rfl <| ml_ck_of h fun hi1852 h => ml_aald (kd := 29) dX10_ownAll_15 (by decide) hi1852 <| ml_lx (mk := ml_r) h fun a1853 h => ml_ck_of h fun hc1854 h => ml_getI dX10_ownAll_16 wb_281 hc1854 <| ml_iload_n dX10_ownAll_19 1 rfl <| ml_iand dX10_ownAll_20 <| ml_if_ne dX10_ownAll_21 h (fun _ h => ml_iinc (lv' := [(2, ml_i (l2 + (1 : Int32))), (0, ml_r l0), (1, ml_i l1)]) dX10_ownAll_26 2 rfl (congrArg (l2 + ·) kc_i1) (ml_hn hL rfl) rfl <| ml_goto dX10_ownAll_29 <| ml_V.sub [1, 2, 0] rfl (hk2 _ _ _ h)) (fun _ h => ml_iconst dX10_ownAll_24 kc_i0 <| ml_rp (mk := ml_i) hr dX10_ownAll_25 (fun e => Or.inl e.symm) h))
def fX10_ownAll (l0 : Nat) (l1 : Int32) (m : ml_M) : Option Int32 :=
    fX10_ownAll_2 ml_fu l0 l1 (0 : Int32) m
theorem wX10_ownAll_0 {E : ml_E} (hL : ml_eL E = 3) {rv : Int32} {m : ml_M} (hr : ∀ (pc pc' : Nat) (lv : List (Nat × ml_X)), ml_d cX10_ownAll pc .ireturn 1 pc' → (rv = 0 ∨ rv = 1) → ml_V E "LostRoom" cX10_ownAll 2 false m pc lv [ml_i rv]) : ∀ (l0 : Nat) (l1 : Int32), fX10_ownAll l0 l1 m = some rv → ml_V E "LostRoom" cX10_ownAll 2 false m 0 [(0, ml_r l0), (1, ml_i l1)] [] := by
  intro l0 l1 h
  unfold fX10_ownAll at h
  exact ml_iconst dX10_ownAll_0 kc_i0 <| ml_istore_n (lv' := [(2, ml_i (0 : Int32)), (0, ml_r l0), (1, ml_i l1)]) dX10_ownAll_1 (ml_hn hL rfl) rfl <| ml_V.sub [1, 2, 0] rfl (vX10_ownAll_2 hL hr  ml_fu _ _ _ h)
theorem sX10_ownAll {l0 : Nat} {l1 : Int32} {m : ml_M} {rv : Int32} (h : fX10_ownAll l0 l1 m = some rv) : ml_Sn yX10_ownAll cX10_ownAll 3 (some .boolean) 2 [ml_r l0, ml_i l1] m (some (ml_i rv)) m :=
  ml_Sn_of (P := (rv = 0 ∨ rv = 1)) (ini := false) (by decide +kernel) (Nat.le_of_ble_eq_true rfl) (fun h => by cases h) (fun hz => ml_RkZ rv hz) fun E hL hr => wX10_ownAll_0 hL hr _ _ h
theorem dX10_fewest_0 : ml_d cX10_fewest 0 (.bipush (-9)) 2 2 := ⟨by decide +kernel, rfl⟩
theorem dX10_fewest_2 : ml_d cX10_fewest 2 (.istore_n 1) 1 3 := ⟨by decide +kernel, rfl⟩
theorem dX10_fewest_3 : ml_d cX10_fewest 3 (.iconst 0) 1 4 := ⟨by decide +kernel, rfl⟩
theorem dX10_fewest_4 : ml_d cX10_fewest 4 (.istore_n 2) 1 5 := ⟨by decide +kernel, rfl⟩
theorem dX10_fewest_5 : ml_d cX10_fewest 5 (.iload_n 2) 1 6 := ⟨by decide +kernel, rfl⟩
theorem dX10_fewest_6 : ml_d cX10_fewest 6 (.iconst 1) 1 7 := ⟨by decide +kernel, rfl⟩
theorem dX10_fewest_7 : ml_d cX10_fewest 7 (.aload_n 0) 1 8 := ⟨by decide +kernel, rfl⟩
theorem dX10_fewest_8 : ml_d cX10_fewest 8 (.getfield 26) 3 11 := ⟨by decide +kernel, rfl⟩
theorem dX10_fewest_11 : ml_d cX10_fewest 11 (.getfield 193) 3 14 := ⟨by decide +kernel, rfl⟩
theorem dX10_fewest_14 : ml_d cX10_fewest 14 (.ishl) 1 15 := ⟨by decide +kernel, rfl⟩
theorem dX10_fewest_15 : ml_j cX10_fewest 15 (.if_icmp .ge) 61 18 := ⟨46, by decide +kernel, by decide, rfl⟩
theorem dX10_fewest_18 : ml_d cX10_fewest 18 (.iload_n 1) 1 19 := ⟨by decide +kernel, rfl⟩
theorem dX10_fewest_19 : ml_d cX10_fewest 19 (.bipush (-9)) 2 21 := ⟨by decide +kernel, rfl⟩
theorem dX10_fewest_21 : ml_j cX10_fewest 21 (.if_icmp .eq) 35 24 := ⟨14, by decide +kernel, by decide, rfl⟩
theorem dX10_fewest_24 : ml_d cX10_fewest 24 (.iload_n 2) 1 25 := ⟨by decide +kernel, rfl⟩
theorem dX10_fewest_25 : ml_d cX10_fewest 25 (.invokestatic 196) 3 28 := ⟨by decide +kernel, rfl⟩
theorem dX10_fewest_28 : ml_d cX10_fewest 28 (.iload_n 1) 1 29 := ⟨by decide +kernel, rfl⟩
theorem dX10_fewest_29 : ml_d cX10_fewest 29 (.invokestatic 196) 3 32 := ⟨by decide +kernel, rfl⟩
theorem dX10_fewest_32 : ml_j cX10_fewest 32 (.if_icmp .ge) 39 35 := ⟨7, by decide +kernel, by decide, rfl⟩
theorem dX10_fewest_35 : ml_d cX10_fewest 35 (.iconst 1) 1 36 := ⟨by decide +kernel, rfl⟩
theorem dX10_fewest_36 : ml_j cX10_fewest 36 .goto 40 39 := ⟨4, by decide +kernel, by decide, rfl⟩
theorem dX10_fewest_39 : ml_d cX10_fewest 39 (.iconst 0) 1 40 := ⟨by decide +kernel, rfl⟩
theorem dX10_fewest_40 : ml_d cX10_fewest 40 (.istore_n 3) 1 41 := ⟨by decide +kernel, rfl⟩
theorem dX10_fewest_41 : ml_d cX10_fewest 41 (.iload_n 3) 1 42 := ⟨by decide +kernel, rfl⟩
theorem dX10_fewest_42 : ml_j cX10_fewest 42 (.ifCond .eq) 55 45 := ⟨13, by decide +kernel, by decide, rfl⟩
theorem dX10_fewest_45 : ml_d cX10_fewest 45 (.aload_n 0) 1 46 := ⟨by decide +kernel, rfl⟩
theorem dX10_fewest_46 : ml_d cX10_fewest 46 (.iload_n 2) 1 47 := ⟨by decide +kernel, rfl⟩
theorem dX10_fewest_47 : ml_d cX10_fewest 47 (.invokevirtual 200) 3 50 := ⟨by decide +kernel, rfl⟩
theorem dX10_fewest_50 : ml_j cX10_fewest 50 (.ifCond .eq) 55 53 := ⟨5, by decide +kernel, by decide, rfl⟩
theorem dX10_fewest_53 : ml_d cX10_fewest 53 (.iload_n 2) 1 54 := ⟨by decide +kernel, rfl⟩
theorem dX10_fewest_54 : ml_d cX10_fewest 54 (.istore_n 1) 1 55 := ⟨by decide +kernel, rfl⟩
theorem dX10_fewest_55 : ml_d cX10_fewest 55 (.iinc 2 1) 3 58 := ⟨by decide +kernel, rfl⟩
theorem dX10_fewest_58 : ml_j cX10_fewest 58 .goto 5 61 := ⟨(-53), by decide +kernel, by decide, rfl⟩
theorem dX10_fewest_61 : ml_d cX10_fewest 61 (.iload_n 1) 1 62 := ⟨by decide +kernel, rfl⟩
theorem dX10_fewest_62 : ml_d cX10_fewest 62 (.bipush (-9)) 2 64 := ⟨by decide +kernel, rfl⟩
theorem dX10_fewest_64 : ml_j cX10_fewest 64 (.if_icmp .ne) 73 67 := ⟨9, by decide +kernel, by decide, rfl⟩
theorem dX10_fewest_67 : ml_d cX10_fewest 67 (.aload_n 0) 1 68 := ⟨by decide +kernel, rfl⟩
theorem dX10_fewest_68 : ml_d cX10_fewest 68 (.iconst 4) 1 69 := ⟨by decide +kernel, rfl⟩
theorem dX10_fewest_69 : ml_d cX10_fewest 69 (.invokevirtual 86) 3 72 := ⟨by decide +kernel, rfl⟩
theorem dX10_fewest_72 : ml_d cX10_fewest 72 (.ireturn) 1 73 := ⟨by decide +kernel, rfl⟩
theorem dX10_fewest_73 : ml_d cX10_fewest 73 (.aload_n 0) 1 74 := ⟨by decide +kernel, rfl⟩
theorem dX10_fewest_74 : ml_d cX10_fewest 74 (.iload_n 1) 1 75 := ⟨by decide +kernel, rfl⟩
theorem dX10_fewest_75 : ml_d cX10_fewest 75 (.putfield 203) 3 78 := ⟨by decide +kernel, rfl⟩
theorem dX10_fewest_78 : ml_d cX10_fewest 78 (.iload_n 1) 1 79 := ⟨by decide +kernel, rfl⟩
theorem dX10_fewest_79 : ml_d cX10_fewest 79 (.invokestatic 196) 3 82 := ⟨by decide +kernel, rfl⟩
theorem dX10_fewest_82 : ml_d cX10_fewest 82 (.ireturn) 1 83 := ⟨by decide +kernel, rfl⟩
def fX10_fewest_55 (k5 : Nat → Int32 → Int32 → ml_M → Option (Int32 × ml_M)) (l0 : Nat) (l1 : Int32) (l2 : Int32) (m : ml_M) : Option (Int32 × ml_M) :=
    k5 l0 l1 (l2 + (1 : Int32)) m
theorem vX10_fewest_55 {E : ml_E} (hL : ml_eL E = 4) {rv : Int32} {rm : ml_M} (hr : ∀ (pc pc' : Nat) (lv : List (Nat × ml_X)), ml_d cX10_fewest pc .ireturn 1 pc' → True → ml_V E "LostRoom" cX10_fewest 3 false rm pc lv [ml_i rv]) {k5 : Nat → Int32 → Int32 → ml_M → Option (Int32 × ml_M)} (hk5 : ∀ (l0 : Nat) (l1 : Int32) (l2 : Int32) (m : ml_M), k5 l0 l1 l2 m = some (rv, rm) → ml_V E "LostRoom" cX10_fewest 3 false m 5 [(0, ml_r l0), (1, ml_i l1), (2, ml_i l2)] []) : ∀ (l0 : Nat) (l1 : Int32) (l2 : Int32) (m : ml_M), fX10_fewest_55 k5 l0 l1 l2 m = some (rv, rm) → ml_V E "LostRoom" cX10_fewest 3 false m 55 [(0, ml_r l0), (1, ml_i l1), (2, ml_i l2)] [] := by
  intro l0 l1 l2 m h
  unfold fX10_fewest_55 at h
  exact ml_iinc (lv' := [(2, ml_i (l2 + (1 : Int32))), (0, ml_r l0), (1, ml_i l1)]) dX10_fewest_55 2 rfl (congrArg (l2 + ·) kc_i1) (ml_hn hL rfl) rfl <| ml_goto dX10_fewest_58 <| ml_V.sub [1, 2, 0] rfl (hk5 _ _ _ _ h)
def fX10_fewest_40 (k5 : Nat → Int32 → Int32 → ml_M → Option (Int32 × ml_M)) (l0 : Nat) (l1 : Int32) (l2 : Int32) (t0 : Int32) (m : ml_M) : Option (Int32 × ml_M) :=
    if t0 = 0 then
    fX10_fewest_55 k5 l0 l1 l2 m
    else
    if (ml_K m l0).1 = 10 then
    ml_b1 (fX10_ownAll l0 l2 m) fun r1857 =>
    if r1857 = 0 then
    fX10_fewest_55 k5 l0 l1 l2 m
    else
    fX10_fewest_55 k5 l0 l2 l2 m
    else none
theorem vX10_fewest_40 {E : ml_E} (hL : ml_eL E = 4) {rv : Int32} {rm : ml_M} (hr : ∀ (pc pc' : Nat) (lv : List (Nat × ml_X)), ml_d cX10_fewest pc .ireturn 1 pc' → True → ml_V E "LostRoom" cX10_fewest 3 false rm pc lv [ml_i rv]) {k5 : Nat → Int32 → Int32 → ml_M → Option (Int32 × ml_M)} (hk5 : ∀ (l0 : Nat) (l1 : Int32) (l2 : Int32) (m : ml_M), k5 l0 l1 l2 m = some (rv, rm) → ml_V E "LostRoom" cX10_fewest 3 false m 5 [(0, ml_r l0), (1, ml_i l1), (2, ml_i l2)] []) : ∀ (l0 : Nat) (l1 : Int32) (l2 : Int32) (t0 : Int32) (m : ml_M), fX10_fewest_40 k5 l0 l1 l2 t0 m = some (rv, rm) → ml_V E "LostRoom" cX10_fewest 3 false m 40 [(0, ml_r l0), (1, ml_i l1), (2, ml_i l2)] [ml_i t0] := by
  intro l0 l1 l2 t0 m h
  unfold fX10_fewest_40 at h
  exact ml_istore_n (lv' := [(3, ml_i t0), (0, ml_r l0), (1, ml_i l1), (2, ml_i l2)]) dX10_fewest_40 (ml_hn hL rfl) rfl <| ml_iload_n dX10_fewest_41 0 rfl <| ml_if_eq dX10_fewest_42 h (fun _ h => ml_V.sub [1, 2, 3] rfl (vX10_fewest_55 hL hr hk5 _ _ _ _ h)) (fun _ h => ml_aload_n dX10_fewest_45 1 rfl <| ml_iload_n dX10_fewest_46 3 rfl <| ml_ck_of h fun hc1856 h => ml_b1_of h fun r1857 hv1855 h => ml_callV dX10_fewest_47 wm_455 wb_286 hc1856 (sX10_ownAll hv1855) rfl (Nat.le_of_ble_eq_true rfl) (Nat.le_of_ble_eq_true rfl) rfl <| ml_if_eq dX10_fewest_50 h (fun _ h => ml_V.sub [1, 2, 3] rfl (vX10_fewest_55 hL hr hk5 _ _ _ _ h)) (fun _ h => ml_iload_n dX10_fewest_53 3 rfl <| ml_istore_n (lv' := [(1, ml_i l2), (3, ml_i t0), (0, ml_r l0), (2, ml_i l2)]) dX10_fewest_54 (ml_hn hL rfl) rfl <| ml_V.sub [2, 0, 3] rfl (vX10_fewest_55 hL hr hk5 _ _ _ _ h)))
def fX10_fewest_35 (k5 : Nat → Int32 → Int32 → ml_M → Option (Int32 × ml_M)) (l0 : Nat) (l1 : Int32) (l2 : Int32) (m : ml_M) : Option (Int32 × ml_M) :=
    fX10_fewest_40 k5 l0 l1 l2 (1 : Int32) m
theorem vX10_fewest_35 {E : ml_E} (hL : ml_eL E = 4) {rv : Int32} {rm : ml_M} (hr : ∀ (pc pc' : Nat) (lv : List (Nat × ml_X)), ml_d cX10_fewest pc .ireturn 1 pc' → True → ml_V E "LostRoom" cX10_fewest 3 false rm pc lv [ml_i rv]) {k5 : Nat → Int32 → Int32 → ml_M → Option (Int32 × ml_M)} (hk5 : ∀ (l0 : Nat) (l1 : Int32) (l2 : Int32) (m : ml_M), k5 l0 l1 l2 m = some (rv, rm) → ml_V E "LostRoom" cX10_fewest 3 false m 5 [(0, ml_r l0), (1, ml_i l1), (2, ml_i l2)] []) : ∀ (l0 : Nat) (l1 : Int32) (l2 : Int32) (m : ml_M), fX10_fewest_35 k5 l0 l1 l2 m = some (rv, rm) → ml_V E "LostRoom" cX10_fewest 3 false m 35 [(0, ml_r l0), (1, ml_i l1), (2, ml_i l2)] [] := by
  intro l0 l1 l2 m h
  unfold fX10_fewest_35 at h
  exact ml_iconst dX10_fewest_35 kc_i1 <| ml_goto dX10_fewest_36 <| ml_V.sub [0, 1, 2] rfl (vX10_fewest_40 hL hr hk5 _ _ _ _ _ h)
def fX10_fewest_61 (l0 : Nat) (l1 : Int32) (m : ml_M) : Option (Int32 × ml_M) :=
    if l1 = (-9 : Int32) then
    if (ml_K m l0).1 = 10 then
    ml_b2 (fX10_found l0 (4 : Int32) m) fun r1865 m1866 =>
    some (r1865, m1866)
    else none
    else
    if (ml_K m l0).1 = 10 then
    ml_let (ml_sI m l0 15 l1) fun m1859 =>
    ml_b1 (fJ6_bitCount_0f7a4 l1 m1859) fun r1862 =>
    some (r1862, m1859)
    else none
theorem vX10_fewest_61 {E : ml_E} (hL : ml_eL E = 4) {rv : Int32} {rm : ml_M} (hr : ∀ (pc pc' : Nat) (lv : List (Nat × ml_X)), ml_d cX10_fewest pc .ireturn 1 pc' → True → ml_V E "LostRoom" cX10_fewest 3 false rm pc lv [ml_i rv]) : ∀ (l0 : Nat) (l1 : Int32) (m : ml_M), fX10_fewest_61 l0 l1 m = some (rv, rm) → ml_V E "LostRoom" cX10_fewest 3 false m 61 [(0, ml_r l0), (1, ml_i l1)] [] := by
  intro l0 l1 m h
  unfold fX10_fewest_61 at h
  exact ml_iload_n dX10_fewest_61 1 rfl <| ml_bipush dX10_fewest_62 kc_bm9 <| ml_icmp_ne dX10_fewest_64 h (fun _ h => ml_aload_n dX10_fewest_73 0 rfl <| ml_iload_n dX10_fewest_74 1 rfl <| ml_ck_of h fun hc1858 h => ml_putI dX10_fewest_75 wb_106 hc1858 <| ml_lt (m := m) rfl h fun m1859 em1860 h => ml_iload_n dX10_fewest_78 1 rfl <| ml_b1_of h fun r1862 hv1861 h => ml_callS dX10_fewest_79 wm_459 wb_287 (sJ6_bitCount_0f7a4 hv1861) rfl (Nat.le_of_ble_eq_true rfl) (Nat.le_of_ble_eq_true rfl) rfl <| ml_rI (mk := ml_i) hr dX10_fewest_82 (fun _ => trivial) h) (fun _ h => ml_aload_n dX10_fewest_67 0 rfl <| ml_iconst dX10_fewest_68 kc_i4 <| ml_ck_of h fun hc1864 h => ml_b2_of h fun r1865 m1866 hv1863 h => ml_callV dX10_fewest_69 wm_132 wb_99 hc1864 (sX10_found hv1863) rfl (Nat.le_of_ble_eq_true rfl) (Nat.le_of_ble_eq_true rfl) rfl <| ml_rI (mk := ml_i) hr dX10_fewest_72 (fun _ => trivial) h)
def fX10_fewest_5 : Nat → Nat → Int32 → Int32 → ml_M → Option (Int32 × ml_M)
  | 0, _, _, _, _ => none
  | fu + 1, l0, l1, l2, m =>
    if (ml_K m l0).1 = 10 then
    ml_let (ml_R m l0 2) fun a1868 =>
    if (ml_K m a1868).1 = 1 then
    if ((1 : Int32) <<< ((ml_I m a1868 2) &&& 31)) ≤ l2 then
    fX10_fewest_61 l0 l1 m
    else
    if l1 = (-9 : Int32) then
    fX10_fewest_35 (fX10_fewest_5 fu) l0 l1 l2 m
    else
    ml_b1 (fJ6_bitCount_0f7a4 l2 m) fun r1871 =>
    ml_b1 (fJ6_bitCount_0f7a4 l1 m) fun r1873 =>
    if r1873 ≤ r1871 then
    fX10_fewest_40 (fX10_fewest_5 fu) l0 l1 l2 (0 : Int32) m
    else
    fX10_fewest_35 (fX10_fewest_5 fu) l0 l1 l2 m
    else none
    else none
theorem vX10_fewest_5 {E : ml_E} (hL : ml_eL E = 4) {rv : Int32} {rm : ml_M} (hr : ∀ (pc pc' : Nat) (lv : List (Nat × ml_X)), ml_d cX10_fewest pc .ireturn 1 pc' → True → ml_V E "LostRoom" cX10_fewest 3 false rm pc lv [ml_i rv]) : ∀ (fu : Nat) (l0 : Nat) (l1 : Int32) (l2 : Int32) (m : ml_M), fX10_fewest_5 fu l0 l1 l2 m = some (rv, rm) → ml_V E "LostRoom" cX10_fewest 3 false m 5 [(0, ml_r l0), (1, ml_i l1), (2, ml_i l2)] [] := by
  intro fu
  induction fu with
  | zero => intro l0 l1 l2 m h; exact ml_none h
  | succ fu ih =>
    intro l0 l1 l2 m h
    have hk5 := ih
    unfold fX10_fewest_5 at h
    exact ml_iload_n dX10_fewest_5 2 rfl <| ml_iconst dX10_fewest_6 kc_i1 <| ml_aload_n dX10_fewest_7 0 rfl <| ml_ck_of h fun hc1867 h => ml_getR dX10_fewest_8 wb_189 hc1867 <| ml_lx (mk := ml_r) h fun a1868 h => ml_ck_of h fun hc1869 h => ml_getI dX10_fewest_11 wb_206 hc1869 <| ml_ishl dX10_fewest_14 <| ml_icmp_ge dX10_fewest_15 h (fun _ h => ml_V.sub [0, 1] rfl (vX10_fewest_61 hL hr  _ _ _ h)) (fun _ h => ml_iload_n dX10_fewest_18 1 rfl <| ml_bipush dX10_fewest_19 kc_bm9 <| ml_icmp_eq dX10_fewest_21 h (fun _ h => ml_V.sub [0, 1, 2] rfl (vX10_fewest_35 hL hr hk5 _ _ _ _ h)) (fun _ h => ml_iload_n dX10_fewest_24 2 rfl <| ml_b1_of h fun r1871 hv1870 h => ml_callS dX10_fewest_25 wm_459 wb_287 (sJ6_bitCount_0f7a4 hv1870) rfl (Nat.le_of_ble_eq_true rfl) (Nat.le_of_ble_eq_true rfl) rfl <| ml_iload_n dX10_fewest_28 1 rfl <| ml_b1_of h fun r1873 hv1872 h => ml_callS dX10_fewest_29 wm_459 wb_287 (sJ6_bitCount_0f7a4 hv1872) rfl (Nat.le_of_ble_eq_true rfl) (Nat.le_of_ble_eq_true rfl) rfl <| ml_icmp_ge dX10_fewest_32 h (fun _ h => ml_iconst dX10_fewest_39 kc_i0 <| ml_V.sub [0, 1, 2] rfl (vX10_fewest_40 hL hr hk5 _ _ _ _ _ h)) (fun _ h => ml_V.sub [0, 1, 2] rfl (vX10_fewest_35 hL hr hk5 _ _ _ _ h))))
def fX10_fewest (l0 : Nat) (m : ml_M) : Option (Int32 × ml_M) :=
    fX10_fewest_5 ml_fu l0 (-9 : Int32) (0 : Int32) m
theorem wX10_fewest_0 {E : ml_E} (hL : ml_eL E = 4) {rv : Int32} {rm : ml_M} (hr : ∀ (pc pc' : Nat) (lv : List (Nat × ml_X)), ml_d cX10_fewest pc .ireturn 1 pc' → True → ml_V E "LostRoom" cX10_fewest 3 false rm pc lv [ml_i rv]) : ∀ (l0 : Nat) (m : ml_M), fX10_fewest l0 m = some (rv, rm) → ml_V E "LostRoom" cX10_fewest 3 false m 0 [(0, ml_r l0)] [] := by
  intro l0 m h
  unfold fX10_fewest at h
  exact ml_bipush dX10_fewest_0 kc_bm9 <| ml_istore_n (lv' := [(1, ml_i (-9 : Int32)), (0, ml_r l0)]) dX10_fewest_2 (ml_hn hL rfl) rfl <| ml_iconst dX10_fewest_3 kc_i0 <| ml_istore_n (lv' := [(2, ml_i (0 : Int32)), (1, ml_i (-9 : Int32)), (0, ml_r l0)]) dX10_fewest_4 (ml_hn hL rfl) rfl <| ml_V.sub [2, 1, 0] rfl (vX10_fewest_5 hL hr  ml_fu _ _ _ _ h)
theorem sX10_fewest {l0 : Nat} {m : ml_M} {rv : Int32} {rm : ml_M} (h : fX10_fewest l0 m = some (rv, rm)) : ml_Sn yX10_fewest cX10_fewest 4 (some .int) 3 [ml_r l0] m (some (ml_i rv)) rm :=
  ml_Sn_of (P := True) (ini := false) (by decide +kernel) (Nat.le_of_ble_eq_true rfl) (fun h => by cases h) (fun _ => ml_RkI rv) fun E hL hr => wX10_fewest_0 hL hr _ _ h
theorem dX11_coversAll_0 : ml_d cX11_coversAll 0 (.iconst 1) 1 1 := ⟨by decide +kernel, rfl⟩
theorem dX11_coversAll_1 : ml_d cX11_coversAll 1 (.istore_n 2) 1 2 := ⟨by decide +kernel, rfl⟩
theorem dX11_coversAll_2 : ml_d cX11_coversAll 2 (.iconst 0) 1 3 := ⟨by decide +kernel, rfl⟩
theorem dX11_coversAll_3 : ml_d cX11_coversAll 3 (.istore_n 3) 1 4 := ⟨by decide +kernel, rfl⟩
theorem dX11_coversAll_4 : ml_d cX11_coversAll 4 (.iload_n 3) 1 5 := ⟨by decide +kernel, rfl⟩
theorem dX11_coversAll_5 : ml_d cX11_coversAll 5 (.aload_n 0) 1 6 := ⟨by decide +kernel, rfl⟩
theorem dX11_coversAll_6 : ml_d cX11_coversAll 6 (.getfield 181) 3 9 := ⟨by decide +kernel, rfl⟩
theorem dX11_coversAll_9 : ml_j cX11_coversAll 9 (.if_icmp .ge) 38 12 := ⟨29, by decide +kernel, by decide, rfl⟩
theorem dX11_coversAll_12 : ml_d cX11_coversAll 12 (.iload_n 2) 1 13 := ⟨by decide +kernel, rfl⟩
theorem dX11_coversAll_13 : ml_j cX11_coversAll 13 (.ifCond .eq) 38 16 := ⟨25, by decide +kernel, by decide, rfl⟩
theorem dX11_coversAll_16 : ml_d cX11_coversAll 16 (.aload_n 0) 1 17 := ⟨by decide +kernel, rfl⟩
theorem dX11_coversAll_17 : ml_d cX11_coversAll 17 (.iload_n 3) 1 18 := ⟨by decide +kernel, rfl⟩
theorem dX11_coversAll_18 : ml_d cX11_coversAll 18 (.invokevirtual 245) 3 21 := ⟨by decide +kernel, rfl⟩
theorem dX11_coversAll_21 : ml_d cX11_coversAll 21 (.iload_n 1) 1 22 := ⟨by decide +kernel, rfl⟩
theorem dX11_coversAll_22 : ml_d cX11_coversAll 22 (.iand) 1 23 := ⟨by decide +kernel, rfl⟩
theorem dX11_coversAll_23 : ml_j cX11_coversAll 23 (.ifCond .eq) 30 26 := ⟨7, by decide +kernel, by decide, rfl⟩
theorem dX11_coversAll_26 : ml_d cX11_coversAll 26 (.iconst 1) 1 27 := ⟨by decide +kernel, rfl⟩
theorem dX11_coversAll_27 : ml_j cX11_coversAll 27 .goto 31 30 := ⟨4, by decide +kernel, by decide, rfl⟩
theorem dX11_coversAll_30 : ml_d cX11_coversAll 30 (.iconst 0) 1 31 := ⟨by decide +kernel, rfl⟩
theorem dX11_coversAll_31 : ml_d cX11_coversAll 31 (.istore_n 2) 1 32 := ⟨by decide +kernel, rfl⟩
theorem dX11_coversAll_32 : ml_d cX11_coversAll 32 (.iinc 3 1) 3 35 := ⟨by decide +kernel, rfl⟩
theorem dX11_coversAll_35 : ml_j cX11_coversAll 35 .goto 4 38 := ⟨(-31), by decide +kernel, by decide, rfl⟩
theorem dX11_coversAll_38 : ml_d cX11_coversAll 38 (.iload_n 2) 1 39 := ⟨by decide +kernel, rfl⟩
theorem dX11_coversAll_39 : ml_d cX11_coversAll 39 (.ireturn) 1 40 := ⟨by decide +kernel, rfl⟩
def fX11_coversAll_31 (k4 : Nat → Int32 → Int32 → Int32 → ml_M → Option Int32) (l0 : Nat) (l1 : Int32) (l3 : Int32) (t0 : Int32) (m : ml_M) : Option Int32 :=
    k4 l0 l1 t0 (l3 + (1 : Int32)) m
theorem vX11_coversAll_31 {E : ml_E} (hL : ml_eL E = 4) {rv : Int32} {m : ml_M} (hr : ∀ (pc pc' : Nat) (lv : List (Nat × ml_X)), ml_d cX11_coversAll pc .ireturn 1 pc' → (rv = 0 ∨ rv = 1) → ml_V E "LostRoomModel" cX11_coversAll 5 false m pc lv [ml_i rv]) {k4 : Nat → Int32 → Int32 → Int32 → ml_M → Option Int32} (hk4 : ∀ (l0 : Nat) (l1 : Int32) (l2 : Int32) (l3 : Int32), k4 l0 l1 l2 l3 m = some rv → ml_V E "LostRoomModel" cX11_coversAll 5 false m 4 [(0, ml_r l0), (1, ml_i l1), (2, ml_i l2), (3, ml_i l3)] []) : ∀ (l0 : Nat) (l1 : Int32) (l3 : Int32) (t0 : Int32), fX11_coversAll_31 k4 l0 l1 l3 t0 m = some rv → ml_V E "LostRoomModel" cX11_coversAll 5 false m 31 [(0, ml_r l0), (1, ml_i l1), (3, ml_i l3)] [ml_i t0] := by
  intro l0 l1 l3 t0 h
  unfold fX11_coversAll_31 at h
  exact ml_istore_n (lv' := [(2, ml_i t0), (0, ml_r l0), (1, ml_i l1), (3, ml_i l3)]) dX11_coversAll_31 (ml_hn hL rfl) rfl <| ml_iinc (lv' := [(3, ml_i (l3 + (1 : Int32))), (2, ml_i t0), (0, ml_r l0), (1, ml_i l1)]) dX11_coversAll_32 3 rfl (congrArg (l3 + ·) kc_i1) (ml_hn hL rfl) rfl <| ml_goto dX11_coversAll_35 <| ml_V.sub [2, 3, 1, 0] rfl (hk4 _ _ _ _ h)
def fX11_coversAll_4 : Nat → Nat → Int32 → Int32 → Int32 → ml_M → Option Int32
  | 0, _, _, _, _, _ => none
  | fu + 1, l0, l1, l2, l3, m =>
    if (ml_K m l0).1 = 11 then
    if (ml_I m l0 24) ≤ l3 then
    if l2 = 0 ∨ l2 = 1 then some l2 else none
    else
    if l2 = 0 then
    if l2 = 0 ∨ l2 = 1 then some l2 else none
    else
    ml_b1 (fX11_mayOf l0 l3 m) fun r1878 =>
    if (r1878 &&& l1) = 0 then
    fX11_coversAll_31 (fX11_coversAll_4 fu) l0 l1 l3 (0 : Int32) m
    else
    fX11_coversAll_31 (fX11_coversAll_4 fu) l0 l1 l3 (1 : Int32) m
    else none
theorem vX11_coversAll_4 {E : ml_E} (hL : ml_eL E = 4) {rv : Int32} {m : ml_M} (hr : ∀ (pc pc' : Nat) (lv : List (Nat × ml_X)), ml_d cX11_coversAll pc .ireturn 1 pc' → (rv = 0 ∨ rv = 1) → ml_V E "LostRoomModel" cX11_coversAll 5 false m pc lv [ml_i rv]) : ∀ (fu : Nat) (l0 : Nat) (l1 : Int32) (l2 : Int32) (l3 : Int32), fX11_coversAll_4 fu l0 l1 l2 l3 m = some rv → ml_V E "LostRoomModel" cX11_coversAll 5 false m 4 [(0, ml_r l0), (1, ml_i l1), (2, ml_i l2), (3, ml_i l3)] [] := by
  intro fu
  induction fu with
  | zero => intro l0 l1 l2 l3 h; exact ml_none h
  | succ fu ih =>
    intro l0 l1 l2 l3 h
    have hk4 := ih
    unfold fX11_coversAll_4 at h
    exact ml_iload_n dX11_coversAll_4 3 rfl <| ml_aload_n dX11_coversAll_5 0 rfl <| ml_ck_of h fun hc1874 h => ml_getI dX11_coversAll_6 wb_228 hc1874 <| ml_icmp_ge dX11_coversAll_9 h (fun _ h => ml_iload_n dX11_coversAll_38 2 rfl <| ml_ck_of h fun hz1875 h => ml_rp (mk := ml_i) hr dX11_coversAll_39 (fun e => e ▸ hz1875) h) (fun _ h => ml_iload_n dX11_coversAll_12 2 rfl <| ml_if_eq dX11_coversAll_13 h (fun _ h => ml_iload_n dX11_coversAll_38 2 rfl <| ml_ck_of h fun hz1876 h => ml_rp (mk := ml_i) hr dX11_coversAll_39 (fun e => e ▸ hz1876) h) (fun _ h => ml_aload_n dX11_coversAll_16 0 rfl <| ml_iload_n dX11_coversAll_17 3 rfl <| ml_b1_of h fun r1878 hv1877 h => ml_callV dX11_coversAll_18 wm_451 wb_285 hc1874 (sX11_mayOf hv1877) rfl (Nat.le_of_ble_eq_true rfl) (Nat.le_of_ble_eq_true rfl) rfl <| ml_iload_n dX11_coversAll_21 1 rfl <| ml_iand dX11_coversAll_22 <| ml_if_eq dX11_coversAll_23 h (fun _ h => ml_iconst dX11_coversAll_30 kc_i0 <| ml_V.sub [0, 1, 3] rfl (vX11_coversAll_31 hL hr hk4 _ _ _ _ h)) (fun _ h => ml_iconst dX11_coversAll_26 kc_i1 <| ml_goto dX11_coversAll_27 <| ml_V.sub [0, 1, 3] rfl (vX11_coversAll_31 hL hr hk4 _ _ _ _ h))))
def fX11_coversAll (l0 : Nat) (l1 : Int32) (m : ml_M) : Option Int32 :=
    fX11_coversAll_4 ml_fu l0 l1 (1 : Int32) (0 : Int32) m
theorem wX11_coversAll_0 {E : ml_E} (hL : ml_eL E = 4) {rv : Int32} {m : ml_M} (hr : ∀ (pc pc' : Nat) (lv : List (Nat × ml_X)), ml_d cX11_coversAll pc .ireturn 1 pc' → (rv = 0 ∨ rv = 1) → ml_V E "LostRoomModel" cX11_coversAll 5 false m pc lv [ml_i rv]) : ∀ (l0 : Nat) (l1 : Int32), fX11_coversAll l0 l1 m = some rv → ml_V E "LostRoomModel" cX11_coversAll 5 false m 0 [(0, ml_r l0), (1, ml_i l1)] [] := by
  intro l0 l1 h
  unfold fX11_coversAll at h
  exact ml_iconst dX11_coversAll_0 kc_i1 <| ml_istore_n (lv' := [(2, ml_i (1 : Int32)), (0, ml_r l0), (1, ml_i l1)]) dX11_coversAll_1 (ml_hn hL rfl) rfl <| ml_iconst dX11_coversAll_2 kc_i0 <| ml_istore_n (lv' := [(3, ml_i (0 : Int32)), (2, ml_i (1 : Int32)), (0, ml_r l0), (1, ml_i l1)]) dX11_coversAll_3 (ml_hn hL rfl) rfl <| ml_V.sub [2, 3, 1, 0] rfl (vX11_coversAll_4 hL hr  ml_fu _ _ _ _ h)
theorem sX11_coversAll {l0 : Nat} {l1 : Int32} {m : ml_M} {rv : Int32} (h : fX11_coversAll l0 l1 m = some rv) : ml_Sn yX11_coversAll cX11_coversAll 4 (some .boolean) 5 [ml_r l0, ml_i l1] m (some (ml_i rv)) m :=
  ml_Sn_of (P := (rv = 0 ∨ rv = 1)) (ini := false) (by decide +kernel) (Nat.le_of_ble_eq_true rfl) (fun h => by cases h) (fun hz => ml_RkZ rv hz) fun E hL hr => wX11_coversAll_0 hL hr _ _ h
theorem dX11_bits_0 : ml_d cX11_bits 0 (.iconst 0) 1 1 := ⟨by decide +kernel, rfl⟩
theorem dX11_bits_1 : ml_d cX11_bits 1 (.istore_n 1) 1 2 := ⟨by decide +kernel, rfl⟩
theorem dX11_bits_2 : ml_d cX11_bits 2 (.iload_n 0) 1 3 := ⟨by decide +kernel, rfl⟩
theorem dX11_bits_3 : ml_d cX11_bits 3 (.istore_n 2) 1 4 := ⟨by decide +kernel, rfl⟩
theorem dX11_bits_4 : ml_d cX11_bits 4 (.iload_n 2) 1 5 := ⟨by decide +kernel, rfl⟩
theorem dX11_bits_5 : ml_j cX11_bits 5 (.ifCond .eq) 20 8 := ⟨15, by decide +kernel, by decide, rfl⟩
theorem dX11_bits_8 : ml_d cX11_bits 8 (.iinc 1 1) 3 11 := ⟨by decide +kernel, rfl⟩
theorem dX11_bits_11 : ml_d cX11_bits 11 (.iload_n 2) 1 12 := ⟨by decide +kernel, rfl⟩
theorem dX11_bits_12 : ml_d cX11_bits 12 (.iload_n 2) 1 13 := ⟨by decide +kernel, rfl⟩
theorem dX11_bits_13 : ml_d cX11_bits 13 (.iconst 1) 1 14 := ⟨by decide +kernel, rfl⟩
theorem dX11_bits_14 : ml_d cX11_bits 14 (.isub) 1 15 := ⟨by decide +kernel, rfl⟩
theorem dX11_bits_15 : ml_d cX11_bits 15 (.iand) 1 16 := ⟨by decide +kernel, rfl⟩
theorem dX11_bits_16 : ml_d cX11_bits 16 (.istore_n 2) 1 17 := ⟨by decide +kernel, rfl⟩
theorem dX11_bits_17 : ml_j cX11_bits 17 .goto 4 20 := ⟨(-13), by decide +kernel, by decide, rfl⟩
theorem dX11_bits_20 : ml_d cX11_bits 20 (.iload_n 1) 1 21 := ⟨by decide +kernel, rfl⟩
theorem dX11_bits_21 : ml_d cX11_bits 21 (.ireturn) 1 22 := ⟨by decide +kernel, rfl⟩
def fX11_bits_4 : Nat → Int32 → Int32 → ml_M → Option Int32
  | 0, _, _, _ => none
  | fu + 1, l1, l2, m =>
    if l2 = 0 then
    some l1
    else
    ml_let (l2 &&& (l2 - (1 : Int32))) fun x1879 =>
    (fX11_bits_4 fu) (l1 + (1 : Int32)) x1879 m
theorem vX11_bits_4 {E : ml_E} (hL : ml_eL E = 3) {rv : Int32} {m : ml_M} (hr : ∀ (pc pc' : Nat) (lv : List (Nat × ml_X)), ml_d cX11_bits pc .ireturn 1 pc' → True → ml_V E "LostRoomModel" cX11_bits 2 false m pc lv [ml_i rv]) : ∀ (fu : Nat) (l1 : Int32) (l2 : Int32), fX11_bits_4 fu l1 l2 m = some rv → ml_V E "LostRoomModel" cX11_bits 2 false m 4 [(1, ml_i l1), (2, ml_i l2)] [] := by
  intro fu
  induction fu with
  | zero => intro l1 l2 h; exact ml_none h
  | succ fu ih =>
    intro l1 l2 h
    have hk4 := ih
    unfold fX11_bits_4 at h
    exact ml_iload_n dX11_bits_4 1 rfl <| ml_if_eq dX11_bits_5 h (fun _ h => ml_iload_n dX11_bits_20 0 rfl <| ml_rp (mk := ml_i) hr dX11_bits_21 (fun _ => trivial) h) (fun _ h => ml_iinc (lv' := [(1, ml_i (l1 + (1 : Int32))), (2, ml_i l2)]) dX11_bits_8 0 rfl (congrArg (l1 + ·) kc_i1) (ml_hn hL rfl) rfl <| ml_iload_n dX11_bits_11 1 rfl <| ml_iload_n dX11_bits_12 1 rfl <| ml_iconst dX11_bits_13 kc_i1 <| ml_isub dX11_bits_14 <| ml_iand dX11_bits_15 <| ml_lx (mk := ml_i) h fun x1879 h => ml_istore_n (lv' := [(2, ml_i x1879), (1, ml_i (l1 + (1 : Int32)))]) dX11_bits_16 (ml_hn hL rfl) rfl <| ml_goto dX11_bits_17 <| ml_V.sub [1, 0] rfl (hk4 _ _ h))
def fX11_bits (l0 : Int32) (m : ml_M) : Option Int32 :=
    fX11_bits_4 ml_fu (0 : Int32) l0 m
theorem wX11_bits_0 {E : ml_E} (hL : ml_eL E = 3) {rv : Int32} {m : ml_M} (hr : ∀ (pc pc' : Nat) (lv : List (Nat × ml_X)), ml_d cX11_bits pc .ireturn 1 pc' → True → ml_V E "LostRoomModel" cX11_bits 2 false m pc lv [ml_i rv]) : ∀ (l0 : Int32), fX11_bits l0 m = some rv → ml_V E "LostRoomModel" cX11_bits 2 false m 0 [(0, ml_i l0)] [] := by
  intro l0 h
  unfold fX11_bits at h
  exact ml_iconst dX11_bits_0 kc_i0 <| ml_istore_n (lv' := [(1, ml_i (0 : Int32)), (0, ml_i l0)]) dX11_bits_1 (ml_hn hL rfl) rfl <| ml_iload_n dX11_bits_2 1 rfl <| ml_istore_n (lv' := [(2, ml_i l0), (1, ml_i (0 : Int32)), (0, ml_i l0)]) dX11_bits_3 (ml_hn hL rfl) rfl <| ml_V.sub [1, 0] rfl (vX11_bits_4 hL hr  ml_fu _ _ h)
theorem sX11_bits {l0 : Int32} {m : ml_M} {rv : Int32} (h : fX11_bits l0 m = some rv) : ml_Sn yX11_bits cX11_bits 3 (some .int) 2 [ml_i l0] m (some (ml_i rv)) m :=
  ml_Sn_of (P := True) (ini := false) (by decide +kernel) (Nat.le_of_ble_eq_true rfl) (fun h => by cases h) (fun _ => ml_RkI rv) fun E hL hr => wX11_bits_0 hL hr _ h
theorem dX11_fewest_0 : ml_d cX11_fewest 0 (.iconst 1) 1 1 := ⟨by decide +kernel, rfl⟩
theorem dX11_fewest_1 : ml_d cX11_fewest 1 (.aload_n 0) 1 2 := ⟨by decide +kernel, rfl⟩
theorem dX11_fewest_2 : ml_d cX11_fewest 2 (.getfield 172) 3 5 := ⟨by decide +kernel, rfl⟩
theorem dX11_fewest_5 : ml_d cX11_fewest 5 (.ishl) 1 6 := ⟨by decide +kernel, rfl⟩
theorem dX11_fewest_6 : ml_d cX11_fewest 6 (.iconst 1) 1 7 := ⟨by decide +kernel, rfl⟩
theorem dX11_fewest_7 : ml_d cX11_fewest 7 (.isub) 1 8 := ⟨by decide +kernel, rfl⟩
theorem dX11_fewest_8 : ml_d cX11_fewest 8 (.istore_n 1) 1 9 := ⟨by decide +kernel, rfl⟩
theorem dX11_fewest_9 : ml_d cX11_fewest 9 (.aload_n 0) 1 10 := ⟨by decide +kernel, rfl⟩
theorem dX11_fewest_10 : ml_d cX11_fewest 10 (.iload_n 1) 1 11 := ⟨by decide +kernel, rfl⟩
theorem dX11_fewest_11 : ml_d cX11_fewest 11 (.invokevirtual 248) 3 14 := ⟨by decide +kernel, rfl⟩
theorem dX11_fewest_14 : ml_j cX11_fewest 14 (.ifCond .ne) 23 17 := ⟨9, by decide +kernel, by decide, rfl⟩
theorem dX11_fewest_17 : ml_d cX11_fewest 17 (.aload_n 0) 1 18 := ⟨by decide +kernel, rfl⟩
theorem dX11_fewest_18 : ml_d cX11_fewest 18 (.iconst 4) 1 19 := ⟨by decide +kernel, rfl⟩
theorem dX11_fewest_19 : ml_d cX11_fewest 19 (.invokevirtual 115) 3 22 := ⟨by decide +kernel, rfl⟩
theorem dX11_fewest_22 : ml_d cX11_fewest 22 (.ireturn) 1 23 := ⟨by decide +kernel, rfl⟩
theorem dX11_fewest_23 : ml_d cX11_fewest 23 (.iload_n 1) 1 24 := ⟨by decide +kernel, rfl⟩
theorem dX11_fewest_24 : ml_d cX11_fewest 24 (.istore_n 2) 1 25 := ⟨by decide +kernel, rfl⟩
theorem dX11_fewest_25 : ml_d cX11_fewest 25 (.iload_n 1) 1 26 := ⟨by decide +kernel, rfl⟩
theorem dX11_fewest_26 : ml_d cX11_fewest 26 (.istore_n 3) 1 27 := ⟨by decide +kernel, rfl⟩
theorem dX11_fewest_27 : ml_d cX11_fewest 27 (.iload_n 3) 1 28 := ⟨by decide +kernel, rfl⟩
theorem dX11_fewest_28 : ml_j cX11_fewest 28 (.ifCond .lt) 62 31 := ⟨34, by decide +kernel, by decide, rfl⟩
theorem dX11_fewest_31 : ml_d cX11_fewest 31 (.iload_n 3) 1 32 := ⟨by decide +kernel, rfl⟩
theorem dX11_fewest_32 : ml_d cX11_fewest 32 (.invokestatic 251) 3 35 := ⟨by decide +kernel, rfl⟩
theorem dX11_fewest_35 : ml_d cX11_fewest 35 (.iload_n 2) 1 36 := ⟨by decide +kernel, rfl⟩
theorem dX11_fewest_36 : ml_d cX11_fewest 36 (.invokestatic 251) 3 39 := ⟨by decide +kernel, rfl⟩
theorem dX11_fewest_39 : ml_j cX11_fewest 39 (.if_icmp .gt) 54 42 := ⟨15, by decide +kernel, by decide, rfl⟩
theorem dX11_fewest_42 : ml_d cX11_fewest 42 (.aload_n 0) 1 43 := ⟨by decide +kernel, rfl⟩
theorem dX11_fewest_43 : ml_d cX11_fewest 43 (.iload_n 3) 1 44 := ⟨by decide +kernel, rfl⟩
theorem dX11_fewest_44 : ml_d cX11_fewest 44 (.invokevirtual 248) 3 47 := ⟨by decide +kernel, rfl⟩
theorem dX11_fewest_47 : ml_j cX11_fewest 47 (.ifCond .eq) 54 50 := ⟨7, by decide +kernel, by decide, rfl⟩
theorem dX11_fewest_50 : ml_d cX11_fewest 50 (.iload_n 3) 1 51 := ⟨by decide +kernel, rfl⟩
theorem dX11_fewest_51 : ml_j cX11_fewest 51 .goto 55 54 := ⟨4, by decide +kernel, by decide, rfl⟩
theorem dX11_fewest_54 : ml_d cX11_fewest 54 (.iload_n 2) 1 55 := ⟨by decide +kernel, rfl⟩
theorem dX11_fewest_55 : ml_d cX11_fewest 55 (.istore_n 2) 1 56 := ⟨by decide +kernel, rfl⟩
theorem dX11_fewest_56 : ml_d cX11_fewest 56 (.iinc 3 (-1)) 3 59 := ⟨by decide +kernel, rfl⟩
theorem dX11_fewest_59 : ml_j cX11_fewest 59 .goto 27 62 := ⟨(-32), by decide +kernel, by decide, rfl⟩
theorem dX11_fewest_62 : ml_d cX11_fewest 62 (.aload_n 0) 1 63 := ⟨by decide +kernel, rfl⟩
theorem dX11_fewest_63 : ml_d cX11_fewest 63 (.iload_n 2) 1 64 := ⟨by decide +kernel, rfl⟩
theorem dX11_fewest_64 : ml_d cX11_fewest 64 (.iload_n 2) 1 65 := ⟨by decide +kernel, rfl⟩
theorem dX11_fewest_65 : ml_d cX11_fewest 65 (.invokestatic 251) 3 68 := ⟨by decide +kernel, rfl⟩
theorem dX11_fewest_68 : ml_d cX11_fewest 68 (.invokevirtual 123) 3 71 := ⟨by decide +kernel, rfl⟩
theorem dX11_fewest_71 : ml_d cX11_fewest 71 (.ireturn) 1 72 := ⟨by decide +kernel, rfl⟩
def fX11_fewest_55 (k27 : Nat → Int32 → Int32 → ml_M → Option (Int32 × ml_M)) (l0 : Nat) (l3 : Int32) (t0 : Int32) (m : ml_M) : Option (Int32 × ml_M) :=
    k27 l0 t0 (l3 + (-1 : Int32)) m
theorem vX11_fewest_55 {E : ml_E} (hL : ml_eL E = 4) {rv : Int32} {rm : ml_M} (hr : ∀ (pc pc' : Nat) (lv : List (Nat × ml_X)), ml_d cX11_fewest pc .ireturn 1 pc' → True → ml_V E "LostRoomModel" cX11_fewest 6 false rm pc lv [ml_i rv]) {k27 : Nat → Int32 → Int32 → ml_M → Option (Int32 × ml_M)} (hk27 : ∀ (l0 : Nat) (l2 : Int32) (l3 : Int32) (m : ml_M), k27 l0 l2 l3 m = some (rv, rm) → ml_V E "LostRoomModel" cX11_fewest 6 false m 27 [(0, ml_r l0), (2, ml_i l2), (3, ml_i l3)] []) : ∀ (l0 : Nat) (l3 : Int32) (t0 : Int32) (m : ml_M), fX11_fewest_55 k27 l0 l3 t0 m = some (rv, rm) → ml_V E "LostRoomModel" cX11_fewest 6 false m 55 [(0, ml_r l0), (3, ml_i l3)] [ml_i t0] := by
  intro l0 l3 t0 m h
  unfold fX11_fewest_55 at h
  exact ml_istore_n (lv' := [(2, ml_i t0), (0, ml_r l0), (3, ml_i l3)]) dX11_fewest_55 (ml_hn hL rfl) rfl <| ml_iinc (lv' := [(3, ml_i (l3 + (-1 : Int32))), (2, ml_i t0), (0, ml_r l0)]) dX11_fewest_56 2 rfl (congrArg (l3 + ·) kc_im1) (ml_hn hL rfl) rfl <| ml_goto dX11_fewest_59 <| ml_V.sub [2, 1, 0] rfl (hk27 _ _ _ _ h)
def fX11_fewest_54 (k27 : Nat → Int32 → Int32 → ml_M → Option (Int32 × ml_M)) (l0 : Nat) (l2 : Int32) (l3 : Int32) (m : ml_M) : Option (Int32 × ml_M) :=
    fX11_fewest_55 k27 l0 l3 l2 m
theorem vX11_fewest_54 {E : ml_E} (hL : ml_eL E = 4) {rv : Int32} {rm : ml_M} (hr : ∀ (pc pc' : Nat) (lv : List (Nat × ml_X)), ml_d cX11_fewest pc .ireturn 1 pc' → True → ml_V E "LostRoomModel" cX11_fewest 6 false rm pc lv [ml_i rv]) {k27 : Nat → Int32 → Int32 → ml_M → Option (Int32 × ml_M)} (hk27 : ∀ (l0 : Nat) (l2 : Int32) (l3 : Int32) (m : ml_M), k27 l0 l2 l3 m = some (rv, rm) → ml_V E "LostRoomModel" cX11_fewest 6 false m 27 [(0, ml_r l0), (2, ml_i l2), (3, ml_i l3)] []) : ∀ (l0 : Nat) (l2 : Int32) (l3 : Int32) (m : ml_M), fX11_fewest_54 k27 l0 l2 l3 m = some (rv, rm) → ml_V E "LostRoomModel" cX11_fewest 6 false m 54 [(0, ml_r l0), (2, ml_i l2), (3, ml_i l3)] [] := by
  intro l0 l2 l3 m h
  unfold fX11_fewest_54 at h
  exact ml_iload_n dX11_fewest_54 1 rfl <| ml_V.sub [0, 2] rfl (vX11_fewest_55 hL hr hk27 _ _ _ _ h)
def fX11_fewest_62 (l0 : Nat) (l2 : Int32) (m : ml_M) : Option (Int32 × ml_M) :=
    ml_b1 (fX11_bits l2 m) fun r1881 =>
    if (ml_K m l0).1 = 11 then
    ml_b2 (fX11_tells l0 l2 r1881 m) fun r1884 m1885 =>
    some (r1884, m1885)
    else none
theorem vX11_fewest_62 {E : ml_E} (hL : ml_eL E = 4) {rv : Int32} {rm : ml_M} (hr : ∀ (pc pc' : Nat) (lv : List (Nat × ml_X)), ml_d cX11_fewest pc .ireturn 1 pc' → True → ml_V E "LostRoomModel" cX11_fewest 6 false rm pc lv [ml_i rv]) : ∀ (l0 : Nat) (l2 : Int32) (m : ml_M), fX11_fewest_62 l0 l2 m = some (rv, rm) → ml_V E "LostRoomModel" cX11_fewest 6 false m 62 [(0, ml_r l0), (2, ml_i l2)] [] := by
  intro l0 l2 m h
  unfold fX11_fewest_62 at h
  exact ml_aload_n dX11_fewest_62 0 rfl <| ml_iload_n dX11_fewest_63 1 rfl <| ml_iload_n dX11_fewest_64 1 rfl <| ml_b1_of h fun r1881 hv1880 h => ml_callS dX11_fewest_65 wm_462 wb_288 (sX11_bits hv1880) rfl (Nat.le_of_ble_eq_true rfl) (Nat.le_of_ble_eq_true rfl) rfl <| ml_ck_of h fun hc1883 h => ml_b2_of h fun r1884 m1885 hv1882 h => ml_callV dX11_fewest_68 wm_158 wb_110 hc1883 (sX11_tells hv1882) rfl (Nat.le_of_ble_eq_true rfl) (Nat.le_of_ble_eq_true rfl) rfl <| ml_rI (mk := ml_i) hr dX11_fewest_71 (fun _ => trivial) h
def fX11_fewest_27 : Nat → Nat → Int32 → Int32 → ml_M → Option (Int32 × ml_M)
  | 0, _, _, _, _ => none
  | fu + 1, l0, l2, l3, m =>
    if l3 < 0 then
    fX11_fewest_62 l0 l2 m
    else
    ml_b1 (fX11_bits l3 m) fun r1887 =>
    ml_b1 (fX11_bits l2 m) fun r1889 =>
    if r1889 < r1887 then
    fX11_fewest_54 (fX11_fewest_27 fu) l0 l2 l3 m
    else
    if (ml_K m l0).1 = 11 then
    ml_b1 (fX11_coversAll l0 l3 m) fun r1892 =>
    if r1892 = 0 then
    fX11_fewest_54 (fX11_fewest_27 fu) l0 l2 l3 m
    else
    fX11_fewest_55 (fX11_fewest_27 fu) l0 l3 l3 m
    else none
theorem vX11_fewest_27 {E : ml_E} (hL : ml_eL E = 4) {rv : Int32} {rm : ml_M} (hr : ∀ (pc pc' : Nat) (lv : List (Nat × ml_X)), ml_d cX11_fewest pc .ireturn 1 pc' → True → ml_V E "LostRoomModel" cX11_fewest 6 false rm pc lv [ml_i rv]) : ∀ (fu : Nat) (l0 : Nat) (l2 : Int32) (l3 : Int32) (m : ml_M), fX11_fewest_27 fu l0 l2 l3 m = some (rv, rm) → ml_V E "LostRoomModel" cX11_fewest 6 false m 27 [(0, ml_r l0), (2, ml_i l2), (3, ml_i l3)] [] := by
  intro fu
  induction fu with
  | zero => intro l0 l2 l3 m h; exact ml_none h
  | succ fu ih =>
    intro l0 l2 l3 m h
    have hk27 := ih
    unfold fX11_fewest_27 at h
    exact ml_iload_n dX11_fewest_27 2 rfl <| ml_if_lt dX11_fewest_28 h (fun _ h => ml_V.sub [0, 1] rfl (vX11_fewest_62 hL hr  _ _ _ h)) (fun _ h => ml_iload_n dX11_fewest_31 2 rfl <| ml_b1_of h fun r1887 hv1886 h => ml_callS dX11_fewest_32 wm_462 wb_288 (sX11_bits hv1886) rfl (Nat.le_of_ble_eq_true rfl) (Nat.le_of_ble_eq_true rfl) rfl <| ml_iload_n dX11_fewest_35 1 rfl <| ml_b1_of h fun r1889 hv1888 h => ml_callS dX11_fewest_36 wm_462 wb_288 (sX11_bits hv1888) rfl (Nat.le_of_ble_eq_true rfl) (Nat.le_of_ble_eq_true rfl) rfl <| ml_icmp_gt dX11_fewest_39 h (fun _ h => ml_V.sub [0, 1, 2] rfl (vX11_fewest_54 hL hr hk27 _ _ _ _ h)) (fun _ h => ml_aload_n dX11_fewest_42 0 rfl <| ml_iload_n dX11_fewest_43 2 rfl <| ml_ck_of h fun hc1891 h => ml_b1_of h fun r1892 hv1890 h => ml_callV dX11_fewest_44 wm_466 wb_289 hc1891 (sX11_coversAll hv1890) rfl (Nat.le_of_ble_eq_true rfl) (Nat.le_of_ble_eq_true rfl) rfl <| ml_if_eq dX11_fewest_47 h (fun _ h => ml_V.sub [0, 1, 2] rfl (vX11_fewest_54 hL hr hk27 _ _ _ _ h)) (fun _ h => ml_iload_n dX11_fewest_50 2 rfl <| ml_goto dX11_fewest_51 <| ml_V.sub [0, 2] rfl (vX11_fewest_55 hL hr hk27 _ _ _ _ h))))
def fX11_fewest (l0 : Nat) (m : ml_M) : Option (Int32 × ml_M) :=
    if (ml_K m l0).1 = 11 then
    ml_let (((1 : Int32) <<< ((ml_I m l0 9) &&& 31)) - (1 : Int32)) fun x1894 =>
    ml_b1 (fX11_coversAll l0 x1894 m) fun r1896 =>
    if r1896 = 0 then
    ml_b2 (fX11_meets l0 (4 : Int32) m) fun r1898 m1899 =>
    some (r1898, m1899)
    else
    fX11_fewest_27 ml_fu l0 x1894 x1894 m
    else none
theorem wX11_fewest_0 {E : ml_E} (hL : ml_eL E = 4) {rv : Int32} {rm : ml_M} (hr : ∀ (pc pc' : Nat) (lv : List (Nat × ml_X)), ml_d cX11_fewest pc .ireturn 1 pc' → True → ml_V E "LostRoomModel" cX11_fewest 6 false rm pc lv [ml_i rv]) : ∀ (l0 : Nat) (m : ml_M), fX11_fewest l0 m = some (rv, rm) → ml_V E "LostRoomModel" cX11_fewest 6 false m 0 [(0, ml_r l0)] [] := by
  intro l0 m h
  unfold fX11_fewest at h
  exact ml_iconst dX11_fewest_0 kc_i1 <| ml_aload_n dX11_fewest_1 0 rfl <| ml_ck_of h fun hc1893 h => ml_getI dX11_fewest_2 wb_215 hc1893 <| ml_ishl dX11_fewest_5 <| ml_iconst dX11_fewest_6 kc_i1 <| ml_isub dX11_fewest_7 <| ml_lx (mk := ml_i) h fun x1894 h => ml_istore_n (lv' := [(1, ml_i x1894), (0, ml_r l0)]) dX11_fewest_8 (ml_hn hL rfl) rfl <| ml_aload_n dX11_fewest_9 1 rfl <| ml_iload_n dX11_fewest_10 0 rfl <| ml_b1_of h fun r1896 hv1895 h => ml_callV dX11_fewest_11 wm_466 wb_289 hc1893 (sX11_coversAll hv1895) rfl (Nat.le_of_ble_eq_true rfl) (Nat.le_of_ble_eq_true rfl) rfl <| ml_if_ne dX11_fewest_14 h (fun _ h => ml_iload_n dX11_fewest_23 0 rfl <| ml_istore_n (lv' := [(2, ml_i x1894), (1, ml_i x1894), (0, ml_r l0)]) dX11_fewest_24 (ml_hn hL rfl) rfl <| ml_iload_n dX11_fewest_25 1 rfl <| ml_istore_n (lv' := [(3, ml_i x1894), (2, ml_i x1894), (1, ml_i x1894), (0, ml_r l0)]) dX11_fewest_26 (ml_hn hL rfl) rfl <| ml_V.sub [3, 1, 0] rfl (vX11_fewest_27 hL hr  ml_fu _ _ _ _ h)) (fun _ h => ml_aload_n dX11_fewest_17 1 rfl <| ml_iconst dX11_fewest_18 kc_i4 <| ml_b2_of h fun r1898 m1899 hv1897 h => ml_callV dX11_fewest_19 wm_144 wb_105 hc1893 (sX11_meets hv1897) rfl (Nat.le_of_ble_eq_true rfl) (Nat.le_of_ble_eq_true rfl) rfl <| ml_rI (mk := ml_i) hr dX11_fewest_22 (fun _ => trivial) h)
theorem sX11_fewest {l0 : Nat} {m : ml_M} {rv : Int32} {rm : ml_M} (h : fX11_fewest l0 m = some (rv, rm)) : ml_Sn yX11_fewest cX11_fewest 4 (some .int) 6 [ml_r l0] m (some (ml_i rv)) rm :=
  ml_Sn_of (P := True) (ini := false) (by decide +kernel) (Nat.le_of_ble_eq_true rfl) (fun h => by cases h) (fun _ => ml_RkI rv) fun E hL hr => wX11_fewest_0 hL hr _ _ h

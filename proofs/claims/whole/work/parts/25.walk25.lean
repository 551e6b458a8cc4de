/-! printed by wip/whole/emit.py out of the claim's own listing -/
theorem dX10_rowsThere_0 : ml_d cX10_rowsThere 0 (.iconst 0) 1 1 := ⟨by decide +kernel, rfl⟩
theorem dX10_rowsThere_1 : ml_d cX10_rowsThere 1 (.istore_n 1) 1 2 := ⟨by decide +kernel, rfl⟩
theorem dX10_rowsThere_2 : ml_d cX10_rowsThere 2 (.iconst 0) 1 3 := ⟨by decide +kernel, rfl⟩
theorem dX10_rowsThere_3 : ml_d cX10_rowsThere 3 (.istore_n 2) 1 4 := ⟨by decide +kernel, rfl⟩
theorem dX10_rowsThere_4 : ml_d cX10_rowsThere 4 (.iload_n 2) 1 5 := ⟨by decide +kernel, rfl⟩
theorem dX10_rowsThere_5 : ml_d cX10_rowsThere 5 (.bipush 6) 2 7 := ⟨by decide +kernel, rfl⟩
theorem dX10_rowsThere_7 : ml_j cX10_rowsThere 7 (.if_icmp .ge) 28 10 := ⟨21, by decide +kernel, by decide, rfl⟩
theorem dX10_rowsThere_10 : ml_d cX10_rowsThere 10 (.aload_n 0) 1 11 := ⟨by decide +kernel, rfl⟩
theorem dX10_rowsThere_11 : ml_d cX10_rowsThere 11 (.getfield 11) 3 14 := ⟨by decide +kernel, rfl⟩
theorem dX10_rowsThere_14 : ml_d cX10_rowsThere 14 (.iload_n 2) 1 15 := ⟨by decide +kernel, rfl⟩
theorem dX10_rowsThere_15 : ml_d cX10_rowsThere 15 (.aaload) 1 16 := ⟨by decide +kernel, rfl⟩
theorem dX10_rowsThere_16 : ml_j cX10_rowsThere 16 .ifnull 22 19 := ⟨6, by decide +kernel, by decide, rfl⟩
theorem dX10_rowsThere_19 : ml_d cX10_rowsThere 19 (.iinc 1 1) 3 22 := ⟨by decide +kernel, rfl⟩
theorem dX10_rowsThere_22 : ml_d cX10_rowsThere 22 (.iinc 2 1) 3 25 := ⟨by decide +kernel, rfl⟩
theorem dX10_rowsThere_25 : ml_j cX10_rowsThere 25 .goto 4 28 := ⟨(-21), by decide +kernel, by decide, rfl⟩
theorem dX10_rowsThere_28 : ml_d cX10_rowsThere 28 (.iload_n 1) 1 29 := ⟨by decide +kernel, rfl⟩
theorem dX10_rowsThere_29 : ml_d cX10_rowsThere 29 (.ireturn) 1 30 := ⟨by decide +kernel, rfl⟩
def fX10_rowsThere_22 (k4 : Nat → Int32 → Int32 → ml_M → Option Int32) (l0 : Nat) (l1 : Int32) (l2 : Int32) (m : ml_M) : Option Int32 :=
    k4 l0 l1 (l2 + (1 : Int32)) m
theorem vX10_rowsThere_22 {E : ml_E} (hL : ml_eL E = 3) {rv : Int32} {m : ml_M} (hr : ∀ (pc pc' : Nat) (lv : List (Nat × ml_X)), ml_d cX10_rowsThere pc .ireturn 1 pc' → True → ml_V E "LostRoom" cX10_rowsThere 2 false m pc lv [ml_i rv]) {k4 : Nat → Int32 → Int32 → ml_M → Option Int32} (hk4 : ∀ (l0 : Nat) (l1 : Int32) (l2 : Int32), k4 l0 l1 l2 m = some rv → ml_V E "LostRoom" cX10_rowsThere 2 false m 4 [(0, ml_r l0), (1, ml_i l1), (2, ml_i l2)] []) : ∀ (l0 : Nat) (l1 : Int32) (l2 : Int32), fX10_rowsThere_22 k4 l0 l1 l2 m = some rv → ml_V E "LostRoom" cX10_rowsThere 2 false m 22 [(0, ml_r l0), (1, ml_i l1), (2, ml_i l2)] [] := by
  intro l0 l1 l2 h
  unfold fX10_rowsThere_22 at h
  exact ml_iinc (lv' := [(2, ml_i (l2 + (1 : Int32))), (0, ml_r l0), (1, ml_i l1)]) dX10_rowsThere_22 2 rfl (congrArg (l2 + ·) kc_i1) (ml_hn hL rfl) rfl <| ml_goto dX10_rowsThere_25 <| ml_V.sub [1, 2, 0] rfl (hk4 _ _ _ h)
def fX10_rowsThere_4 : Nat → Nat → Int32 → Int32 → ml_M → Option Int32
  | 0, _, _, _, _ => none
  | fu + 1, l0, l1, l2, m =>
    if (6 : Int32) ≤ l2 then
    some l1
    else
    if (ml_K m l0).1 = 10 then
    ml_let (ml_R m l0 0) fun a3824 =>
    if ml_in m a3824 23 l2 then
    ml_let (ml_R m a3824 l2.toNatClampNeg) fun a3826 =>
    if a3826 = 0 then
    fX10_rowsThere_22 (fX10_rowsThere_4 fu) l0 l1 l2 m
    else
    fX10_rowsThere_22 (fX10_rowsThere_4 fu) l0 (l1 + (1 : Int32)) l2 m
    else none
    else none
theorem vX10_rowsThere_4 {E : ml_E} (hL : ml_eL E = 3) {rv : Int32} {m : ml_M} (hr : ∀ (pc pc' : Nat) (lv : List (Nat × ml_X)), ml_d cX10_rowsThere pc .ireturn 1 pc' → True → ml_V E "LostRoom" cX10_rowsThere 2 false m pc lv [ml_i rv]) : ∀ (fu : Nat) (l0 : Nat) (l1 : Int32) (l2 : Int32), fX10_rowsThere_4 fu l0 l1 l2 m = some rv → ml_V E "LostRoom" cX10_rowsThere 2 false m 4 [(0, ml_r l0), (1, ml_i l1), (2, ml_i l2)] [] := by
  intro fu
  induction fu with
  | zero => intro l0 l1 l2 h; exact ml_none h
  | succ fu ih =>
    intro l0 l1 l2 h
    have hk4 := ih
    unfold fX10_rowsThere_4 at h
    exact ml_iload_n dX10_rowsThere_4 2 rfl <| ml_bipush dX10_rowsThere_5 kc_b6 <| ml_icmp_ge dX10_rowsThere_7 h (fun _ h => ml_iload_n dX10_rowsThere_28 1 rfl <| ml_rp (mk := ml_i) hr dX10_rowsThere_29 (fun _ => trivial) h) (fun _ h => ml_aload_n dX10_rowsThere_10 0 rfl <| ml_ck_of h fun hc3823 h => ml_getR dX10_rowsThere_11 wb_98 hc3823 <| ml_lx (mk := ml_r) h fun a3824 h => ml_iload_n dX10_rowsThere_14 2 rfl <| ml_ck_of h fun hi3825 h => ml_aald (kd := 23) dX10_rowsThere_15 (by decide) hi3825 <| ml_lx (mk := ml_r) h fun a3826 h => ml_ifnull dX10_rowsThere_16 h (fun _ h => ml_V.sub [0, 1, 2] rfl (vX10_rowsThere_22 hL hr hk4 _ _ _ h)) (fun _ h => ml_iinc (lv' := [(1, ml_i (l1 + (1 : Int32))), (0, ml_r l0), (2, ml_i l2)]) dX10_rowsThere_19 1 rfl (congrArg (l1 + ·) kc_i1) (ml_hn hL rfl) rfl <| ml_V.sub [1, 0, 2] rfl (vX10_rowsThere_22 hL hr hk4 _ _ _ h)))
def fX10_rowsThere (l0 : Nat) (m : ml_M) : Option Int32 :=
    fX10_rowsThere_4 ml_fu l0 (0 : Int32) (0 : Int32) m
theorem wX10_rowsThere_0 {E : ml_E} (hL : ml_eL E = 3) {rv : Int32} {m : ml_M} (hr : ∀ (pc pc' : Nat) (lv : List (Nat × ml_X)), ml_d cX10_rowsThere pc .ireturn 1 pc' → True → ml_V E "LostRoom" cX10_rowsThere 2 false m pc lv [ml_i rv]) : ∀ (l0 : Nat), fX10_rowsThere l0 m = some rv → ml_V E "LostRoom" cX10_rowsThere 2 false m 0 [(0, ml_r l0)] [] := by
  intro l0 h
  unfold fX10_rowsThere at h
  exact ml_iconst dX10_rowsThere_0 kc_i0 <| ml_istore_n (lv' := [(1, ml_i (0 : Int32)), (0, ml_r l0)]) dX10_rowsThere_1 (ml_hn hL rfl) rfl <| ml_iconst dX10_rowsThere_2 kc_i0 <| ml_istore_n (lv' := [(2, ml_i (0 : Int32)), (1, ml_i (0 : Int32)), (0, ml_r l0)]) dX10_rowsThere_3 (ml_hn hL rfl) rfl <| ml_V.sub [2, 1, 0] rfl (vX10_rowsThere_4 hL hr  ml_fu _ _ _ h)
theorem sX10_rowsThere {l0 : Nat} {m : ml_M} {rv : Int32} (h : fX10_rowsThere l0 m = some rv) : ml_Sn yX10_rowsThere cX10_rowsThere 3 (some .int) 2 [ml_r l0] m (some (ml_i rv)) m :=
  ml_Sn_of (P := True) (ini := false) (by decide +kernel) (Nat.le_of_ble_eq_true rfl) (fun h => by cases h) (fun _ => ml_RkI rv) fun E hL hr => wX10_rowsThere_0 hL hr _ h
theorem dX10_textsThere_0 : ml_d cX10_textsThere 0 (.iconst 0) 1 1 := ⟨by decide +kernel, rfl⟩
theorem dX10_textsThere_1 : ml_d cX10_textsThere 1 (.istore_n 1) 1 2 := ⟨by decide +kernel, rfl⟩
theorem dX10_textsThere_2 : ml_d cX10_textsThere 2 (.iconst 0) 1 3 := ⟨by decide +kernel, rfl⟩
theorem dX10_textsThere_3 : ml_d cX10_textsThere 3 (.istore_n 2) 1 4 := ⟨by decide +kernel, rfl⟩
theorem dX10_textsThere_4 : ml_d cX10_textsThere 4 (.iload_n 2) 1 5 := ⟨by decide +kernel, rfl⟩
theorem dX10_textsThere_5 : ml_d cX10_textsThere 5 (.iconst 4) 1 6 := ⟨by decide +kernel, rfl⟩
theorem dX10_textsThere_6 : ml_j cX10_textsThere 6 (.if_icmp .ge) 27 9 := ⟨21, by decide +kernel, by decide, rfl⟩
theorem dX10_textsThere_9 : ml_d cX10_textsThere 9 (.aload_n 0) 1 10 := ⟨by decide +kernel, rfl⟩
theorem dX10_textsThere_10 : ml_d cX10_textsThere 10 (.getfield 17) 3 13 := ⟨by decide +kernel, rfl⟩
theorem dX10_textsThere_13 : ml_d cX10_textsThere 13 (.iload_n 2) 1 14 := ⟨by decide +kernel, rfl⟩
theorem dX10_textsThere_14 : ml_d cX10_textsThere 14 (.aaload) 1 15 := ⟨by decide +kernel, rfl⟩
theorem dX10_textsThere_15 : ml_j cX10_textsThere 15 .ifnull 21 18 := ⟨6, by decide +kernel, by decide, rfl⟩
theorem dX10_textsThere_18 : ml_d cX10_textsThere 18 (.iinc 1 1) 3 21 := ⟨by decide +kernel, rfl⟩
theorem dX10_textsThere_21 : ml_d cX10_textsThere 21 (.iinc 2 1) 3 24 := ⟨by decide +kernel, rfl⟩
theorem dX10_textsThere_24 : ml_j cX10_textsThere 24 .goto 4 27 := ⟨(-20), by decide +kernel, by decide, rfl⟩
theorem dX10_textsThere_27 : ml_d cX10_textsThere 27 (.iload_n 1) 1 28 := ⟨by decide +kernel, rfl⟩
theorem dX10_textsThere_28 : ml_d cX10_textsThere 28 (.ireturn) 1 29 := ⟨by decide +kernel, rfl⟩
def fX10_textsThere_21 (k4 : Nat → Int32 → Int32 → ml_M → Option Int32) (l0 : Nat) (l1 : Int32) (l2 : Int32) (m : ml_M) : Option Int32 :=
    k4 l0 l1 (l2 + (1 : Int32)) m
theorem vX10_textsThere_21 {E : ml_E} (hL : ml_eL E = 3) {rv : Int32} {m : ml_M} (hr : ∀ (pc pc' : Nat) (lv : List (Nat × ml_X)), ml_d cX10_textsThere pc .ireturn 1 pc' → True → ml_V E "LostRoom" cX10_textsThere 2 false m pc lv [ml_i rv]) {k4 : Nat → Int32 → Int32 → ml_M → Option Int32} (hk4 : ∀ (l0 : Nat) (l1 : Int32) (l2 : Int32), k4 l0 l1 l2 m = some rv → ml_V E "LostRoom" cX10_textsThere 2 false m 4 [(0, ml_r l0), (1, ml_i l1), (2, ml_i l2)] []) : ∀ (l0 : Nat) (l1 : Int32) (l2 : Int32), fX10_textsThere_21 k4 l0 l1 l2 m = some rv → ml_V E "LostRoom" cX10_textsThere 2 false m 21 [(0, ml_r l0), (1, ml_i l1), (2, ml_i l2)] [] := by
  intro l0 l1 l2 h
  unfold fX10_textsThere_21 at h
  exact ml_iinc (lv' := [(2, ml_i (l2 + (1 : Int32))), (0, ml_r l0), (1, ml_i l1)]) dX10_textsThere_21 2 rfl (congrArg (l2 + ·) kc_i1) (ml_hn hL rfl) rfl <| ml_goto dX10_textsThere_24 <| ml_V.sub [1, 2, 0] rfl (hk4 _ _ _ h)
def fX10_textsThere_4 : Nat → Nat → Int32 → Int32 → ml_M → Option Int32
  | 0, _, _, _, _ => none
  | fu + 1, l0, l1, l2, m =>
    if (4 : Int32) ≤ l2 then
    some l1
    else
    if (ml_K m l0).1 = 10 then
    ml_let (ml_R m l0 1) fun a3828 =>
    if ml_in m a3828 24 l2 then
    ml_let (ml_R m a3828 l2.toNatClampNeg) fun a3830 =>
    if a3830 = 0 then
    fX10_textsThere_21 (fX10_textsThere_4 fu) l0 l1 l2 m
    else
    fX10_textsThere_21 (fX10_textsThere_4 fu) l0 (l1 + (1 : Int32)) l2 m
    else none
    else none
theorem vX10_textsThere_4 {E : ml_E} (hL : ml_eL E = 3) {rv : Int32} {m : ml_M} (hr : ∀ (pc pc' : Nat) (lv : List (Nat × ml_X)), ml_d cX10_textsThere pc .ireturn 1 pc' → True → ml_V E "LostRoom" cX10_textsThere 2 false m pc lv [ml_i rv]) : ∀ (fu : Nat) (l0 : Nat) (l1 : Int32) (l2 : Int32), fX10_textsThere_4 fu l0 l1 l2 m = some rv → ml_V E "LostRoom" cX10_textsThere 2 false m 4 [(0, ml_r l0), (1, ml_i l1), (2, ml_i l2)] [] := by
  intro fu
  induction fu with
  | zero => intro l0 l1 l2 h; exact ml_none h
  | succ fu ih =>
    intro l0 l1 l2 h
    have hk4 := ih
    unfold fX10_textsThere_4 at h
    exact ml_iload_n dX10_textsThere_4 2 rfl <| ml_iconst dX10_textsThere_5 kc_i4 <| ml_icmp_ge dX10_textsThere_6 h (fun _ h => ml_iload_n dX10_textsThere_27 1 rfl <| ml_rp (mk := ml_i) hr dX10_textsThere_28 (fun _ => trivial) h) (fun _ h => ml_aload_n dX10_textsThere_9 0 rfl <| ml_ck_of h fun hc3827 h => ml_getR dX10_textsThere_10 wb_116 hc3827 <| ml_lx (mk := ml_r) h fun a3828 h => ml_iload_n dX10_textsThere_13 2 rfl <| ml_ck_of h fun hi3829 h => ml_aald (kd := 24) dX10_textsThere_14 (by decide) hi3829 <| ml_lx (mk := ml_r) h fun a3830 h => ml_ifnull dX10_textsThere_15 h (fun _ h => ml_V.sub [0, 1, 2] rfl (vX10_textsThere_21 hL hr hk4 _ _ _ h)) (fun _ h => ml_iinc (lv' := [(1, ml_i (l1 + (1 : Int32))), (0, ml_r l0), (2, ml_i l2)]) dX10_textsThere_18 1 rfl (congrArg (l1 + ·) kc_i1) (ml_hn hL rfl) rfl <| ml_V.sub [1, 0, 2] rfl (vX10_textsThere_21 hL hr hk4 _ _ _ h)))
def fX10_textsThere (l0 : Nat) (m : ml_M) : Option Int32 :=
    fX10_textsThere_4 ml_fu l0 (0 : Int32) (0 : Int32) m
theorem wX10_textsThere_0 {E : ml_E} (hL : ml_eL E = 3) {rv : Int32} {m : ml_M} (hr : ∀ (pc pc' : Nat) (lv : List (Nat × ml_X)), ml_d cX10_textsThere pc .ireturn 1 pc' → True → ml_V E "LostRoom" cX10_textsThere 2 false m pc lv [ml_i rv]) : ∀ (l0 : Nat), fX10_textsThere l0 m = some rv → ml_V E "LostRoom" cX10_textsThere 2 false m 0 [(0, ml_r l0)] [] := by
  intro l0 h
  unfold fX10_textsThere at h
  exact ml_iconst dX10_textsThere_0 kc_i0 <| ml_istore_n (lv' := [(1, ml_i (0 : Int32)), (0, ml_r l0)]) dX10_textsThere_1 (ml_hn hL rfl) rfl <| ml_iconst dX10_textsThere_2 kc_i0 <| ml_istore_n (lv' := [(2, ml_i (0 : Int32)), (1, ml_i (0 : Int32)), (0, ml_r l0)]) dX10_textsThere_3 (ml_hn hL rfl) rfl <| ml_V.sub [2, 1, 0] rfl (vX10_textsThere_4 hL hr  ml_fu _ _ _ h)
theorem sX10_textsThere {l0 : Nat} {m : ml_M} {rv : Int32} (h : fX10_textsThere l0 m = some rv) : ml_Sn yX10_textsThere cX10_textsThere 3 (some .int) 2 [ml_r l0] m (some (ml_i rv)) m :=
  ml_Sn_of (P := True) (ini := false) (by decide +kernel) (Nat.le_of_ble_eq_true rfl) (fun h => by cases h) (fun _ => ml_RkI rv) fun E hL hr => wX10_textsThere_0 hL hr _ h
theorem dX10_count_0 : ml_d cX10_count 0 (.iload_n 1) 1 1 := ⟨by decide +kernel, rfl⟩
theorem dX10_count_1 : decode cX10_count 1 = .ok (.tableswitch 102 0 8 #[51, 59, 67, 72, 77, 82, 87, 92, 97], 51) := by decide +kernel
theorem dX10_count_52 : ml_d cX10_count 52 (.aload_n 0) 1 53 := ⟨by decide +kernel, rfl⟩
theorem dX10_count_53 : ml_d cX10_count 53 (.getfield 26) 3 56 := ⟨by decide +kernel, rfl⟩
theorem dX10_count_56 : ml_d cX10_count 56 (.getfield 193) 3 59 := ⟨by decide +kernel, rfl⟩
theorem dX10_count_59 : ml_d cX10_count 59 (.ireturn) 1 60 := ⟨by decide +kernel, rfl⟩
theorem dX10_count_60 : ml_d cX10_count 60 (.aload_n 0) 1 61 := ⟨by decide +kernel, rfl⟩
theorem dX10_count_61 : ml_d cX10_count 61 (.getfield 26) 3 64 := ⟨by decide +kernel, rfl⟩
theorem dX10_count_64 : ml_d cX10_count 64 (.getfield 135) 3 67 := ⟨by decide +kernel, rfl⟩
theorem dX10_count_67 : ml_d cX10_count 67 (.ireturn) 1 68 := ⟨by decide +kernel, rfl⟩
theorem dX10_count_68 : ml_d cX10_count 68 (.aload_n 0) 1 69 := ⟨by decide +kernel, rfl⟩
theorem dX10_count_69 : ml_d cX10_count 69 (.getfield 118) 3 72 := ⟨by decide +kernel, rfl⟩
theorem dX10_count_72 : ml_d cX10_count 72 (.ireturn) 1 73 := ⟨by decide +kernel, rfl⟩
theorem dX10_count_73 : ml_d cX10_count 73 (.aload_n 0) 1 74 := ⟨by decide +kernel, rfl⟩
theorem dX10_count_74 : ml_d cX10_count 74 (.invokevirtual 326) 3 77 := ⟨by decide +kernel, rfl⟩
theorem dX10_count_77 : ml_d cX10_count 77 (.ireturn) 1 78 := ⟨by decide +kernel, rfl⟩
theorem dX10_count_78 : ml_d cX10_count 78 (.aload_n 0) 1 79 := ⟨by decide +kernel, rfl⟩
theorem dX10_count_79 : ml_d cX10_count 79 (.getfield 121) 3 82 := ⟨by decide +kernel, rfl⟩
theorem dX10_count_82 : ml_d cX10_count 82 (.ireturn) 1 83 := ⟨by decide +kernel, rfl⟩
theorem dX10_count_83 : ml_d cX10_count 83 (.aload_n 0) 1 84 := ⟨by decide +kernel, rfl⟩
theorem dX10_count_84 : ml_d cX10_count 84 (.getfield 124) 3 87 := ⟨by decide +kernel, rfl⟩
theorem dX10_count_87 : ml_d cX10_count 87 (.ireturn) 1 88 := ⟨by decide +kernel, rfl⟩
theorem dX10_count_88 : ml_d cX10_count 88 (.aload_n 0) 1 89 := ⟨by decide +kernel, rfl⟩
theorem dX10_count_89 : ml_d cX10_count 89 (.getfield 127) 3 92 := ⟨by decide +kernel, rfl⟩
theorem dX10_count_92 : ml_d cX10_count 92 (.ireturn) 1 93 := ⟨by decide +kernel, rfl⟩
theorem dX10_count_93 : ml_d cX10_count 93 (.aload_n 0) 1 94 := ⟨by decide +kernel, rfl⟩
theorem dX10_count_94 : ml_d cX10_count 94 (.invokevirtual 329) 3 97 := ⟨by decide +kernel, rfl⟩
theorem dX10_count_97 : ml_d cX10_count 97 (.ireturn) 1 98 := ⟨by decide +kernel, rfl⟩
theorem dX10_count_98 : ml_d cX10_count 98 (.aload_n 0) 1 99 := ⟨by decide +kernel, rfl⟩
theorem dX10_count_99 : ml_d cX10_count 99 (.invokevirtual 332) 3 102 := ⟨by decide +kernel, rfl⟩
theorem dX10_count_102 : ml_d cX10_count 102 (.ireturn) 1 103 := ⟨by decide +kernel, rfl⟩
theorem dX10_count_103 : ml_d cX10_count 103 (.iconst (-1)) 1 104 := ⟨by decide +kernel, rfl⟩
theorem dX10_count_104 : ml_d cX10_count 104 (.ireturn) 1 105 := ⟨by decide +kernel, rfl⟩
def fX10_count (l0 : Nat) (l1 : Int32) (m : ml_M) : Option Int32 :=
    if l1 = (0 : Int32) then
    if (ml_K m l0).1 = 10 then
    ml_let (ml_R m l0 2) fun a3832 =>
    if (ml_K m a3832).1 = 1 then
    some (ml_I m a3832 2)
    else none
    else none
    else if l1 = (1 : Int32) then
    if (ml_K m l0).1 = 10 then
    ml_let (ml_R m l0 2) fun a3837 =>
    if (ml_K m a3837).1 = 1 then
    some (ml_I m a3837 3)
    else none
    else none
    else if l1 = (2 : Int32) then
    if (ml_K m l0).1 = 10 then
    some (ml_I m l0 5)
    else none
    else if l1 = (3 : Int32) then
    if (ml_K m l0).1 = 10 then
    ml_b1 (fX10_letters l0 m) fun r3846 =>
    some r3846
    else none
    else if l1 = (4 : Int32) then
    if (ml_K m l0).1 = 10 then
    some (ml_I m l0 7)
    else none
    else if l1 = (5 : Int32) then
    if (ml_K m l0).1 = 10 then
    some (ml_I m l0 9)
    else none
    else if l1 = (6 : Int32) then
    if (ml_K m l0).1 = 10 then
    some (ml_I m l0 11)
    else none
    else if l1 = (7 : Int32) then
    if (ml_K m l0).1 = 10 then
    ml_b1 (fX10_rowsThere l0 m) fun r3860 =>
    some r3860
    else none
    else if l1 = (8 : Int32) then
    if (ml_K m l0).1 = 10 then
    ml_b1 (fX10_textsThere l0 m) fun r3865 =>
    some r3865
    else none
    else some (-1 : Int32)
theorem wX10_count_0 {E : ml_E} (hL : ml_eL E = 2) {rv : Int32} {m : ml_M} (hr : ∀ (pc pc' : Nat) (lv : List (Nat × ml_X)), ml_d cX10_count pc .ireturn 1 pc' → True → ml_V E "LostRoom" cX10_count 4 false m pc lv [ml_i rv]) : ∀ (l0 : Nat) (l1 : Int32), fX10_count l0 l1 m = some rv → ml_V E "LostRoom" cX10_count 4 false m 0 [(0, ml_r l0), (1, ml_i l1)] [] := by
  intro l0 l1 h
  unfold fX10_count at h
  exact ml_iload_n dX10_count_0 1 rfl <| ml_sw_of h (fun hq3834 h => ml_swInC (off := 51) (0 : Int32) hq3834 dX10_count_1 ⟨by decide, by decide, by decide⟩ <| ml_aload_n dX10_count_52 0 rfl <| ml_ck_of h fun hc3831 h => ml_getR dX10_count_53 wb_189 hc3831 <| ml_lx (mk := ml_r) h fun a3832 h => ml_ck_of h fun hc3833 h => ml_getI dX10_count_56 wb_206 hc3833 <| ml_rp (mk := ml_i) hr dX10_count_59 (fun _ => trivial) h) (fun hq3835 h => ml_sw_of h (fun hq3839 h => ml_swInC (off := 59) (1 : Int32) hq3839 dX10_count_1 ⟨by decide, by decide, by decide⟩ <| ml_aload_n dX10_count_60 0 rfl <| ml_ck_of h fun hc3836 h => ml_getR dX10_count_61 wb_189 hc3836 <| ml_lx (mk := ml_r) h fun a3837 h => ml_ck_of h fun hc3838 h => ml_getI dX10_count_64 wb_190 hc3838 <| ml_rp (mk := ml_i) hr dX10_count_67 (fun _ => trivial) h) (fun hq3840 h => ml_sw_of h (fun hq3842 h => ml_swInC (off := 67) (2 : Int32) hq3842 dX10_count_1 ⟨by decide, by decide, by decide⟩ <| ml_aload_n dX10_count_68 0 rfl <| ml_ck_of h fun hc3841 h => ml_getI dX10_count_69 wb_217 hc3841 <| ml_rp (mk := ml_i) hr dX10_count_72 (fun _ => trivial) h) (fun hq3843 h => ml_sw_of h (fun hq3847 h => ml_swInC (off := 72) (3 : Int32) hq3847 dX10_count_1 ⟨by decide, by decide, by decide⟩ <| ml_aload_n dX10_count_73 0 rfl <| ml_ck_of h fun hc3845 h => ml_b1_of h fun r3846 hv3844 h => ml_callV dX10_count_74 wm_800 wb_486 hc3845 (sX10_letters hv3844) rfl (Nat.le_of_ble_eq_true rfl) (Nat.le_of_ble_eq_true rfl) rfl <| ml_rp (mk := ml_i) hr dX10_count_77 (fun _ => trivial) h) (fun hq3848 h => ml_sw_of h (fun hq3850 h => ml_swInC (off := 77) (4 : Int32) hq3850 dX10_count_1 ⟨by decide, by decide, by decide⟩ <| ml_aload_n dX10_count_78 0 rfl <| ml_ck_of h fun hc3849 h => ml_getI dX10_count_79 wb_380 hc3849 <| ml_rp (mk := ml_i) hr dX10_count_82 (fun _ => trivial) h) (fun hq3851 h => ml_sw_of h (fun hq3853 h => ml_swInC (off := 82) (5 : Int32) hq3853 dX10_count_1 ⟨by decide, by decide, by decide⟩ <| ml_aload_n dX10_count_83 0 rfl <| ml_ck_of h fun hc3852 h => ml_getI dX10_count_84 wb_400 hc3852 <| ml_rp (mk := ml_i) hr dX10_count_87 (fun _ => trivial) h) (fun hq3854 h => ml_sw_of h (fun hq3856 h => ml_swInC (off := 87) (6 : Int32) hq3856 dX10_count_1 ⟨by decide, by decide, by decide⟩ <| ml_aload_n dX10_count_88 0 rfl <| ml_ck_of h fun hc3855 h => ml_getI dX10_count_89 wb_471 hc3855 <| ml_rp (mk := ml_i) hr dX10_count_92 (fun _ => trivial) h) (fun hq3857 h => ml_sw_of h (fun hq3861 h => ml_swInC (off := 92) (7 : Int32) hq3861 dX10_count_1 ⟨by decide, by decide, by decide⟩ <| ml_aload_n dX10_count_93 0 rfl <| ml_ck_of h fun hc3859 h => ml_b1_of h fun r3860 hv3858 h => ml_callV dX10_count_94 wm_804 wb_487 hc3859 (sX10_rowsThere hv3858) rfl (Nat.le_of_ble_eq_true rfl) (Nat.le_of_ble_eq_true rfl) rfl <| ml_rp (mk := ml_i) hr dX10_count_97 (fun _ => trivial) h) (fun hq3862 h => ml_sw_of h (fun hq3866 h => ml_swInC (off := 97) (8 : Int32) hq3866 dX10_count_1 ⟨by decide, by decide, by decide⟩ <| ml_aload_n dX10_count_98 0 rfl <| ml_ck_of h fun hc3864 h => ml_b1_of h fun r3865 hv3863 h => ml_callV dX10_count_99 wm_808 wb_488 hc3864 (sX10_textsThere hv3863) rfl (Nat.le_of_ble_eq_true rfl) (Nat.le_of_ble_eq_true rfl) rfl <| ml_rp (mk := ml_i) hr dX10_count_102 (fun _ => trivial) h) (fun hq3867 h => ml_swOut dX10_count_1 (by have w0 := lv_neT hq3835 (show (0 : Int32).toInt = 0 from by decide); have w1 := lv_neT hq3840 (show (1 : Int32).toInt = 1 from by decide); have w2 := lv_neT hq3843 (show (2 : Int32).toInt = 2 from by decide); have w3 := lv_neT hq3848 (show (3 : Int32).toInt = 3 from by decide); have w4 := lv_neT hq3851 (show (4 : Int32).toInt = 4 from by decide); have w5 := lv_neT hq3854 (show (5 : Int32).toInt = 5 from by decide); have w6 := lv_neT hq3857 (show (6 : Int32).toInt = 6 from by decide); have w7 := lv_neT hq3862 (show (7 : Int32).toInt = 7 from by decide); have w8 := lv_neT hq3867 (show (8 : Int32).toInt = 8 from by decide); omega) (by decide) <| ml_iconst dX10_count_103 kc_im1 <| ml_rp (mk := ml_i) hr dX10_count_104 (fun _ => trivial) h)))))))))
theorem sX10_count {l0 : Nat} {l1 : Int32} {m : ml_M} {rv : Int32} (h : fX10_count l0 l1 m = some rv) : ml_Sn yX10_count cX10_count 2 (some .int) 4 [ml_r l0, ml_i l1] m (some (ml_i rv)) m :=
  ml_Sn_of (P := True) (ini := false) (by decide +kernel) (Nat.le_of_ble_eq_true rfl) (fun h => by cases h) (fun _ => ml_RkI rv) fun E hL hr => wX10_count_0 hL hr _ _ h
theorem dX11_counted_0 : ml_d cX11_counted 0 (.iconst 0) 1 1 := ⟨by decide +kernel, rfl⟩
theorem dX11_counted_1 : ml_d cX11_counted 1 (.istore_n 2) 1 2 := ⟨by decide +kernel, rfl⟩
theorem dX11_counted_2 : ml_d cX11_counted 2 (.iconst 0) 1 3 := ⟨by decide +kernel, rfl⟩
theorem dX11_counted_3 : ml_d cX11_counted 3 (.istore_n 3) 1 4 := ⟨by decide +kernel, rfl⟩
theorem dX11_counted_4 : ml_d cX11_counted 4 (.iload_n 3) 1 5 := ⟨by decide +kernel, rfl⟩
theorem dX11_counted_5 : ml_d cX11_counted 5 (.aload_n 0) 1 6 := ⟨by decide +kernel, rfl⟩
theorem dX11_counted_6 : ml_d cX11_counted 6 (.getfield 181) 3 9 := ⟨by decide +kernel, rfl⟩
theorem dX11_counted_9 : ml_j cX11_counted 9 (.if_icmp .ge) 40 12 := ⟨31, by decide +kernel, by decide, rfl⟩
theorem dX11_counted_12 : ml_d cX11_counted 12 (.iload_n 2) 1 13 := ⟨by decide +kernel, rfl⟩
theorem dX11_counted_13 : ml_d cX11_counted 13 (.iload_n 1) 1 14 := ⟨by decide +kernel, rfl⟩
theorem dX11_counted_14 : ml_d cX11_counted 14 (.iconst 3) 1 15 := ⟨by decide +kernel, rfl⟩
theorem dX11_counted_15 : ml_j cX11_counted 15 (.if_icmp .ne) 31 18 := ⟨16, by decide +kernel, by decide, rfl⟩
theorem dX11_counted_18 : ml_d cX11_counted 18 (.aload_n 0) 1 19 := ⟨by decide +kernel, rfl⟩
theorem dX11_counted_19 : ml_d cX11_counted 19 (.iload_n 3) 1 20 := ⟨by decide +kernel, rfl⟩
theorem dX11_counted_20 : ml_d cX11_counted 20 (.iconst 2) 1 21 := ⟨by decide +kernel, rfl⟩
theorem dX11_counted_21 : ml_d cX11_counted 21 (.invokevirtual 229) 3 24 := ⟨by decide +kernel, rfl⟩
theorem dX11_counted_24 : ml_j cX11_counted 24 (.ifCond .eq) 31 27 := ⟨7, by decide +kernel, by decide, rfl⟩
theorem dX11_counted_27 : ml_d cX11_counted 27 (.iconst 1) 1 28 := ⟨by decide +kernel, rfl⟩
theorem dX11_counted_28 : ml_j cX11_counted 28 .goto 32 31 := ⟨4, by decide +kernel, by decide, rfl⟩
theorem dX11_counted_31 : ml_d cX11_counted 31 (.iconst 0) 1 32 := ⟨by decide +kernel, rfl⟩
theorem dX11_counted_32 : ml_d cX11_counted 32 (.iadd) 1 33 := ⟨by decide +kernel, rfl⟩
theorem dX11_counted_33 : ml_d cX11_counted 33 (.istore_n 2) 1 34 := ⟨by decide +kernel, rfl⟩
theorem dX11_counted_34 : ml_d cX11_counted 34 (.iinc 3 1) 3 37 := ⟨by decide +kernel, rfl⟩
theorem dX11_counted_37 : ml_j cX11_counted 37 .goto 4 40 := ⟨(-33), by decide +kernel, by decide, rfl⟩
theorem dX11_counted_40 : ml_d cX11_counted 40 (.iconst 0) 1 41 := ⟨by decide +kernel, rfl⟩
theorem dX11_counted_41 : ml_d cX11_counted 41 (.istore_n 3) 1 42 := ⟨by decide +kernel, rfl⟩
theorem dX11_counted_42 : ml_d cX11_counted 42 (.iload_n 3) 1 43 := ⟨by decide +kernel, rfl⟩
theorem dX11_counted_43 : ml_d cX11_counted 43 (.bipush 6) 2 45 := ⟨by decide +kernel, rfl⟩
theorem dX11_counted_45 : ml_j cX11_counted 45 (.if_icmp .ge) 77 48 := ⟨32, by decide +kernel, by decide, rfl⟩
theorem dX11_counted_48 : ml_d cX11_counted 48 (.iload_n 2) 1 49 := ⟨by decide +kernel, rfl⟩
theorem dX11_counted_49 : ml_d cX11_counted 49 (.iload_n 1) 1 50 := ⟨by decide +kernel, rfl⟩
theorem dX11_counted_50 : ml_d cX11_counted 50 (.bipush 7) 2 52 := ⟨by decide +kernel, rfl⟩
theorem dX11_counted_52 : ml_j cX11_counted 52 (.if_icmp .ne) 68 55 := ⟨16, by decide +kernel, by decide, rfl⟩
theorem dX11_counted_55 : ml_d cX11_counted 55 (.aload_n 0) 1 56 := ⟨by decide +kernel, rfl⟩
theorem dX11_counted_56 : ml_d cX11_counted 56 (.getfield 13) 3 59 := ⟨by decide +kernel, rfl⟩
theorem dX11_counted_59 : ml_d cX11_counted 59 (.iload_n 3) 1 60 := ⟨by decide +kernel, rfl⟩
theorem dX11_counted_60 : ml_d cX11_counted 60 (.iaload) 1 61 := ⟨by decide +kernel, rfl⟩
theorem dX11_counted_61 : ml_j cX11_counted 61 (.ifCond .lt) 68 64 := ⟨7, by decide +kernel, by decide, rfl⟩
theorem dX11_counted_64 : ml_d cX11_counted 64 (.iconst 1) 1 65 := ⟨by decide +kernel, rfl⟩
theorem dX11_counted_65 : ml_j cX11_counted 65 .goto 69 68 := ⟨4, by decide +kernel, by decide, rfl⟩
theorem dX11_counted_68 : ml_d cX11_counted 68 (.iconst 0) 1 69 := ⟨by decide +kernel, rfl⟩
theorem dX11_counted_69 : ml_d cX11_counted 69 (.iadd) 1 70 := ⟨by decide +kernel, rfl⟩
theorem dX11_counted_70 : ml_d cX11_counted 70 (.istore_n 2) 1 71 := ⟨by decide +kernel, rfl⟩
theorem dX11_counted_71 : ml_d cX11_counted 71 (.iinc 3 1) 3 74 := ⟨by decide +kernel, rfl⟩
theorem dX11_counted_74 : ml_j cX11_counted 74 .goto 42 77 := ⟨(-32), by decide +kernel, by decide, rfl⟩
theorem dX11_counted_77 : ml_d cX11_counted 77 (.iconst 0) 1 78 := ⟨by decide +kernel, rfl⟩
theorem dX11_counted_78 : ml_d cX11_counted 78 (.istore_n 3) 1 79 := ⟨by decide +kernel, rfl⟩
theorem dX11_counted_79 : ml_d cX11_counted 79 (.iload_n 3) 1 80 := ⟨by decide +kernel, rfl⟩
theorem dX11_counted_80 : ml_d cX11_counted 80 (.iconst 4) 1 81 := ⟨by decide +kernel, rfl⟩
theorem dX11_counted_81 : ml_j cX11_counted 81 (.if_icmp .ge) 113 84 := ⟨32, by decide +kernel, by decide, rfl⟩
theorem dX11_counted_84 : ml_d cX11_counted 84 (.iload_n 2) 1 85 := ⟨by decide +kernel, rfl⟩
theorem dX11_counted_85 : ml_d cX11_counted 85 (.iload_n 1) 1 86 := ⟨by decide +kernel, rfl⟩
theorem dX11_counted_86 : ml_d cX11_counted 86 (.bipush 8) 2 88 := ⟨by decide +kernel, rfl⟩
theorem dX11_counted_88 : ml_j cX11_counted 88 (.if_icmp .ne) 104 91 := ⟨16, by decide +kernel, by decide, rfl⟩
theorem dX11_counted_91 : ml_d cX11_counted 91 (.aload_n 0) 1 92 := ⟨by decide +kernel, rfl⟩
theorem dX11_counted_92 : ml_d cX11_counted 92 (.getfield 22) 3 95 := ⟨by decide +kernel, rfl⟩
theorem dX11_counted_95 : ml_d cX11_counted 95 (.iload_n 3) 1 96 := ⟨by decide +kernel, rfl⟩
theorem dX11_counted_96 : ml_d cX11_counted 96 (.iaload) 1 97 := ⟨by decide +kernel, rfl⟩
theorem dX11_counted_97 : ml_j cX11_counted 97 (.ifCond .lt) 104 100 := ⟨7, by decide +kernel, by decide, rfl⟩
theorem dX11_counted_100 : ml_d cX11_counted 100 (.iconst 1) 1 101 := ⟨by decide +kernel, rfl⟩
theorem dX11_counted_101 : ml_j cX11_counted 101 .goto 105 104 := ⟨4, by decide +kernel, by decide, rfl⟩
theorem dX11_counted_104 : ml_d cX11_counted 104 (.iconst 0) 1 105 := ⟨by decide +kernel, rfl⟩
theorem dX11_counted_105 : ml_d cX11_counted 105 (.iadd) 1 106 := ⟨by decide +kernel, rfl⟩
theorem dX11_counted_106 : ml_d cX11_counted 106 (.istore_n 2) 1 107 := ⟨by decide +kernel, rfl⟩
theorem dX11_counted_107 : ml_d cX11_counted 107 (.iinc 3 1) 3 110 := ⟨by decide +kernel, rfl⟩
theorem dX11_counted_110 : ml_j cX11_counted 110 .goto 79 113 := ⟨(-31), by decide +kernel, by decide, rfl⟩
theorem dX11_counted_113 : ml_d cX11_counted 113 (.iload_n 1) 1 114 := ⟨by decide +kernel, rfl⟩
theorem dX11_counted_114 : decode cX11_counted 114 = .ok (.tableswitch 72 0 6 #[42, 47, 52, 72, 57, 62, 67], 42) := by decide +kernel
theorem dX11_counted_156 : ml_d cX11_counted 156 (.aload_n 0) 1 157 := ⟨by decide +kernel, rfl⟩
theorem dX11_counted_157 : ml_d cX11_counted 157 (.getfield 172) 3 160 := ⟨by decide +kernel, rfl⟩
theorem dX11_counted_160 : ml_d cX11_counted 160 (.ireturn) 1 161 := ⟨by decide +kernel, rfl⟩
theorem dX11_counted_161 : ml_d cX11_counted 161 (.aload_n 0) 1 162 := ⟨by decide +kernel, rfl⟩
theorem dX11_counted_162 : ml_d cX11_counted 162 (.getfield 175) 3 165 := ⟨by decide +kernel, rfl⟩
theorem dX11_counted_165 : ml_d cX11_counted 165 (.ireturn) 1 166 := ⟨by decide +kernel, rfl⟩
theorem dX11_counted_166 : ml_d cX11_counted 166 (.aload_n 0) 1 167 := ⟨by decide +kernel, rfl⟩
theorem dX11_counted_167 : ml_d cX11_counted 167 (.getfield 181) 3 170 := ⟨by decide +kernel, rfl⟩
theorem dX11_counted_170 : ml_d cX11_counted 170 (.ireturn) 1 171 := ⟨by decide +kernel, rfl⟩
theorem dX11_counted_171 : ml_d cX11_counted 171 (.aload_n 0) 1 172 := ⟨by decide +kernel, rfl⟩
theorem dX11_counted_172 : ml_d cX11_counted 172 (.getfield 184) 3 175 := ⟨by decide +kernel, rfl⟩
theorem dX11_counted_175 : ml_d cX11_counted 175 (.ireturn) 1 176 := ⟨by decide +kernel, rfl⟩
theorem dX11_counted_176 : ml_d cX11_counted 176 (.aload_n 0) 1 177 := ⟨by decide +kernel, rfl⟩
theorem dX11_counted_177 : ml_d cX11_counted 177 (.getfield 187) 3 180 := ⟨by decide +kernel, rfl⟩
theorem dX11_counted_180 : ml_d cX11_counted 180 (.ireturn) 1 181 := ⟨by decide +kernel, rfl⟩
theorem dX11_counted_181 : ml_d cX11_counted 181 (.aload_n 0) 1 182 := ⟨by decide +kernel, rfl⟩
theorem dX11_counted_182 : ml_d cX11_counted 182 (.getfield 190) 3 185 := ⟨by decide +kernel, rfl⟩
theorem dX11_counted_185 : ml_d cX11_counted 185 (.ireturn) 1 186 := ⟨by decide +kernel, rfl⟩
theorem dX11_counted_186 : ml_d cX11_counted 186 (.iload_n 2) 1 187 := ⟨by decide +kernel, rfl⟩
theorem dX11_counted_187 : ml_d cX11_counted 187 (.ireturn) 1 188 := ⟨by decide +kernel, rfl⟩
def fX11_counted_32 (k4 : Nat → Int32 → Int32 → Int32 → ml_M → Option Int32) (l0 : Nat) (l1 : Int32) (l3 : Int32) (t0 : Int32) (t1 : Int32) (m : ml_M) : Option Int32 :=
    ml_let (t1 + t0) fun x3868 =>
    k4 l0 l1 x3868 (l3 + (1 : Int32)) m
theorem vX11_counted_32 {E : ml_E} (hL : ml_eL E = 4) {rv : Int32} {m : ml_M} (hr : ∀ (pc pc' : Nat) (lv : List (Nat × ml_X)), ml_d cX11_counted pc .ireturn 1 pc' → True → ml_V E "LostRoomModel" cX11_counted 4 false m pc lv [ml_i rv]) {k4 : Nat → Int32 → Int32 → Int32 → ml_M → Option Int32} (hk4 : ∀ (l0 : Nat) (l1 : Int32) (l2 : Int32) (l3 : Int32), k4 l0 l1 l2 l3 m = some rv → ml_V E "LostRoomModel" cX11_counted 4 false m 4 [(0, ml_r l0), (1, ml_i l1), (2, ml_i l2), (3, ml_i l3)] []) : ∀ (l0 : Nat) (l1 : Int32) (l3 : Int32) (t0 : Int32) (t1 : Int32), fX11_counted_32 k4 l0 l1 l3 t0 t1 m = some rv → ml_V E "LostRoomModel" cX11_counted 4 false m 32 [(0, ml_r l0), (1, ml_i l1), (3, ml_i l3)] [ml_i t0, ml_i t1] := by
  intro l0 l1 l3 t0 t1 h
  unfold fX11_counted_32 at h
  exact ml_iadd dX11_counted_32 <| ml_lx (mk := ml_i) h fun x3868 h => ml_istore_n (lv' := [(2, ml_i x3868), (0, ml_r l0), (1, ml_i l1), (3, ml_i l3)]) dX11_counted_33 (ml_hn hL rfl) rfl <| ml_iinc (lv' := [(3, ml_i (l3 + (1 : Int32))), (2, ml_i x3868), (0, ml_r l0), (1, ml_i l1)]) dX11_counted_34 3 rfl (congrArg (l3 + ·) kc_i1) (ml_hn hL rfl) rfl <| ml_goto dX11_counted_37 <| ml_V.sub [2, 3, 1, 0] rfl (hk4 _ _ _ _ h)
def fX11_counted_31 (k4 : Nat → Int32 → Int32 → Int32 → ml_M → Option Int32) (l0 : Nat) (l1 : Int32) (l3 : Int32) (t0 : Int32) (m : ml_M) : Option Int32 :=
    fX11_counted_32 k4 l0 l1 l3 (0 : Int32) t0 m
theorem vX11_counted_31 {E : ml_E} (hL : ml_eL E = 4) {rv : Int32} {m : ml_M} (hr : ∀ (pc pc' : Nat) (lv : List (Nat × ml_X)), ml_d cX11_counted pc .ireturn 1 pc' → True → ml_V E "LostRoomModel" cX11_counted 4 false m pc lv [ml_i rv]) {k4 : Nat → Int32 → Int32 → Int32 → ml_M → Option Int32} (hk4 : ∀ (l0 : Nat) (l1 : Int32) (l2 : Int32) (l3 : Int32), k4 l0 l1 l2 l3 m = some rv → ml_V E "LostRoomModel" cX11_counted 4 false m 4 [(0, ml_r l0), (1, ml_i l1), (2, ml_i l2), (3, ml_i l3)] []) : ∀ (l0 : Nat) (l1 : Int32) (l3 : Int32) (t0 : Int32), fX11_counted_31 k4 l0 l1 l3 t0 m = some rv → ml_V E "LostRoomModel" cX11_counted 4 false m 31 [(0, ml_r l0), (1, ml_i l1), (3, ml_i l3)] [ml_i t0] := by
  intro l0 l1 l3 t0 h
  unfold fX11_counted_31 at h
  exact ml_iconst dX11_counted_31 kc_i0 <| ml_V.sub [0, 1, 2] rfl (vX11_counted_32 hL hr hk4 _ _ _ _ _ h)
def fX11_counted_69 (k42 : Nat → Int32 → Int32 → Int32 → ml_M → Option Int32) (l0 : Nat) (l1 : Int32) (l3 : Int32) (t0 : Int32) (t1 : Int32) (m : ml_M) : Option Int32 :=
    ml_let (t1 + t0) fun x3869 =>
    k42 l0 l1 x3869 (l3 + (1 : Int32)) m
theorem vX11_counted_69 {E : ml_E} (hL : ml_eL E = 4) {rv : Int32} {m : ml_M} (hr : ∀ (pc pc' : Nat) (lv : List (Nat × ml_X)), ml_d cX11_counted pc .ireturn 1 pc' → True → ml_V E "LostRoomModel" cX11_counted 4 false m pc lv [ml_i rv]) {k42 : Nat → Int32 → Int32 → Int32 → ml_M → Option Int32} (hk42 : ∀ (l0 : Nat) (l1 : Int32) (l2 : Int32) (l3 : Int32), k42 l0 l1 l2 l3 m = some rv → ml_V E "LostRoomModel" cX11_counted 4 false m 42 [(0, ml_r l0), (1, ml_i l1), (2, ml_i l2), (3, ml_i l3)] []) : ∀ (l0 : Nat) (l1 : Int32) (l3 : Int32) (t0 : Int32) (t1 : Int32), fX11_counted_69 k42 l0 l1 l3 t0 t1 m = some rv → ml_V E "LostRoomModel" cX11_counted 4 false m 69 [(0, ml_r l0), (1, ml_i l1), (3, ml_i l3)] [ml_i t0, ml_i t1] := by
  intro l0 l1 l3 t0 t1 h
  unfold fX11_counted_69 at h
  exact ml_iadd dX11_counted_69 <| ml_lx (mk := ml_i) h fun x3869 h => ml_istore_n (lv' := [(2, ml_i x3869), (0, ml_r l0), (1, ml_i l1), (3, ml_i l3)]) dX11_counted_70 (ml_hn hL rfl) rfl <| ml_iinc (lv' := [(3, ml_i (l3 + (1 : Int32))), (2, ml_i x3869), (0, ml_r l0), (1, ml_i l1)]) dX11_counted_71 3 rfl (congrArg (l3 + ·) kc_i1) (ml_hn hL rfl) rfl <| ml_goto dX11_counted_74 <| ml_V.sub [2, 3, 1, 0] rfl (hk42 _ _ _ _ h)
def fX11_counted_68 (k42 : Nat → Int32 → Int32 → Int32 → ml_M → Option Int32) (l0 : Nat) (l1 : Int32) (l3 : Int32) (t0 : Int32) (m : ml_M) : Option Int32 :=
    fX11_counted_69 k42 l0 l1 l3 (0 : Int32) t0 m
theorem vX11_counted_68 {E : ml_E} (hL : ml_eL E = 4) {rv : Int32} {m : ml_M} (hr : ∀ (pc pc' : Nat) (lv : List (Nat × ml_X)), ml_d cX11_counted pc .ireturn 1 pc' → True → ml_V E "LostRoomModel" cX11_counted 4 false m pc lv [ml_i rv]) {k42 : Nat → Int32 → Int32 → Int32 → ml_M → Option Int32} (hk42 : ∀ (l0 : Nat) (l1 : Int32) (l2 : Int32) (l3 : Int32), k42 l0 l1 l2 l3 m = some rv → ml_V E "LostRoomModel" cX11_counted 4 false m 42 [(0, ml_r l0), (1, ml_i l1), (2, ml_i l2), (3, ml_i l3)] []) : ∀ (l0 : Nat) (l1 : Int32) (l3 : Int32) (t0 : Int32), fX11_counted_68 k42 l0 l1 l3 t0 m = some rv → ml_V E "LostRoomModel" cX11_counted 4 false m 68 [(0, ml_r l0), (1, ml_i l1), (3, ml_i l3)] [ml_i t0] := by
  intro l0 l1 l3 t0 h
  unfold fX11_counted_68 at h
  exact ml_iconst dX11_counted_68 kc_i0 <| ml_V.sub [0, 1, 2] rfl (vX11_counted_69 hL hr hk42 _ _ _ _ _ h)
def fX11_counted_105 (k79 : Nat → Int32 → Int32 → Int32 → ml_M → Option Int32) (l0 : Nat) (l1 : Int32) (l3 : Int32) (t0 : Int32) (t1 : Int32) (m : ml_M) : Option Int32 :=
    ml_let (t1 + t0) fun x3870 =>
    k79 l0 l1 x3870 (l3 + (1 : Int32)) m
theorem vX11_counted_105 {E : ml_E} (hL : ml_eL E = 4) {rv : Int32} {m : ml_M} (hr : ∀ (pc pc' : Nat) (lv : List (Nat × ml_X)), ml_d cX11_counted pc .ireturn 1 pc' → True → ml_V E "LostRoomModel" cX11_counted 4 false m pc lv [ml_i rv]) {k79 : Nat → Int32 → Int32 → Int32 → ml_M → Option Int32} (hk79 : ∀ (l0 : Nat) (l1 : Int32) (l2 : Int32) (l3 : Int32), k79 l0 l1 l2 l3 m = some rv → ml_V E "LostRoomModel" cX11_counted 4 false m 79 [(0, ml_r l0), (1, ml_i l1), (2, ml_i l2), (3, ml_i l3)] []) : ∀ (l0 : Nat) (l1 : Int32) (l3 : Int32) (t0 : Int32) (t1 : Int32), fX11_counted_105 k79 l0 l1 l3 t0 t1 m = some rv → ml_V E "LostRoomModel" cX11_counted 4 false m 105 [(0, ml_r l0), (1, ml_i l1), (3, ml_i l3)] [ml_i t0, ml_i t1] := by
  intro l0 l1 l3 t0 t1 h
  unfold fX11_counted_105 at h
  exact ml_iadd dX11_counted_105 <| ml_lx (mk := ml_i) h fun x3870 h => ml_istore_n (lv' := [(2, ml_i x3870), (0, ml_r l0), (1, ml_i l1), (3, ml_i l3)]) dX11_counted_106 (ml_hn hL rfl) rfl <| ml_iinc (lv' := [(3, ml_i (l3 + (1 : Int32))), (2, ml_i x3870), (0, ml_r l0), (1, ml_i l1)]) dX11_counted_107 3 rfl (congrArg (l3 + ·) kc_i1) (ml_hn hL rfl) rfl <| ml_goto dX11_counted_110 <| ml_V.sub [2, 3, 1, 0] rfl (hk79 _ _ _ _ h)
def fX11_counted_104 (k79 : Nat → Int32 → Int32 → Int32 → ml_M → Option Int32) (l0 : Nat) (l1 : Int32) (l3 : Int32) (t0 : Int32) (m : ml_M) : Option Int32 :=
    fX11_counted_105 k79 l0 l1 l3 (0 : Int32) t0 m
theorem vX11_counted_104 {E : ml_E} (hL : ml_eL E = 4) {rv : Int32} {m : ml_M} (hr : ∀ (pc pc' : Nat) (lv : List (Nat × ml_X)), ml_d cX11_counted pc .ireturn 1 pc' → True → ml_V E "LostRoomModel" cX11_counted 4 false m pc lv [ml_i rv]) {k79 : Nat → Int32 → Int32 → Int32 → ml_M → Option Int32} (hk79 : ∀ (l0 : Nat) (l1 : Int32) (l2 : Int32) (l3 : Int32), k79 l0 l1 l2 l3 m = some rv → ml_V E "LostRoomModel" cX11_counted 4 false m 79 [(0, ml_r l0), (1, ml_i l1), (2, ml_i l2), (3, ml_i l3)] []) : ∀ (l0 : Nat) (l1 : Int32) (l3 : Int32) (t0 : Int32), fX11_counted_104 k79 l0 l1 l3 t0 m = some rv → ml_V E "LostRoomModel" cX11_counted 4 false m 104 [(0, ml_r l0), (1, ml_i l1), (3, ml_i l3)] [ml_i t0] := by
  intro l0 l1 l3 t0 h
  unfold fX11_counted_104 at h
  exact ml_iconst dX11_counted_104 kc_i0 <| ml_V.sub [0, 1, 2] rfl (vX11_counted_105 hL hr hk79 _ _ _ _ _ h)
def fX11_counted_113 (l0 : Nat) (l1 : Int32) (l2 : Int32) (m : ml_M) : Option Int32 :=
    if l1 = (0 : Int32) then
    if (ml_K m l0).1 = 11 then
    some (ml_I m l0 9)
    else none
    else if l1 = (1 : Int32) then
    if (ml_K m l0).1 = 11 then
    some (ml_I m l0 10)
    else none
    else if l1 = (2 : Int32) then
    if (ml_K m l0).1 = 11 then
    some (ml_I m l0 24)
    else none
    else if l1 = (3 : Int32) then
    some l2
    else if l1 = (4 : Int32) then
    if (ml_K m l0).1 = 11 then
    some (ml_I m l0 34)
    else none
    else if l1 = (5 : Int32) then
    if (ml_K m l0).1 = 11 then
    some (ml_I m l0 37)
    else none
    else if l1 = (6 : Int32) then
    if (ml_K m l0).1 = 11 then
    some (ml_I m l0 46)
    else none
    else some l2
theorem vX11_counted_113 {E : ml_E} (hL : ml_eL E = 4) {rv : Int32} {m : ml_M} (hr : ∀ (pc pc' : Nat) (lv : List (Nat × ml_X)), ml_d cX11_counted pc .ireturn 1 pc' → True → ml_V E "LostRoomModel" cX11_counted 4 false m pc lv [ml_i rv]) : ∀ (l0 : Nat) (l1 : Int32) (l2 : Int32), fX11_counted_113 l0 l1 l2 m = some rv → ml_V E "LostRoomModel" cX11_counted 4 false m 113 [(0, ml_r l0), (1, ml_i l1), (2, ml_i l2)] [] := by
  intro l0 l1 l2 h
  unfold fX11_counted_113 at h
  exact ml_iload_n dX11_counted_113 1 rfl <| ml_sw_of h (fun hq3872 h => ml_swInC (off := 42) (0 : Int32) hq3872 dX11_counted_114 ⟨by decide, by decide, by decide⟩ <| ml_aload_n dX11_counted_156 0 rfl <| ml_ck_of h fun hc3871 h => ml_getI dX11_counted_157 wb_215 hc3871 <| ml_rp (mk := ml_i) hr dX11_counted_160 (fun _ => trivial) h) (fun hq3873 h => ml_sw_of h (fun hq3875 h => ml_swInC (off := 47) (1 : Int32) hq3875 dX11_counted_114 ⟨by decide, by decide, by decide⟩ <| ml_aload_n dX11_counted_161 0 rfl <| ml_ck_of h fun hc3874 h => ml_getI dX11_counted_162 wb_196 hc3874 <| ml_rp (mk := ml_i) hr dX11_counted_165 (fun _ => trivial) h) (fun hq3876 h => ml_sw_of h (fun hq3878 h => ml_swInC (off := 52) (2 : Int32) hq3878 dX11_counted_114 ⟨by decide, by decide, by decide⟩ <| ml_aload_n dX11_counted_166 0 rfl <| ml_ck_of h fun hc3877 h => ml_getI dX11_counted_167 wb_228 hc3877 <| ml_rp (mk := ml_i) hr dX11_counted_170 (fun _ => trivial) h) (fun hq3879 h => ml_sw_of h (fun hq3880 h => ml_swInC (off := 72) (3 : Int32) hq3880 dX11_counted_114 ⟨by decide, by decide, by decide⟩ <| ml_iload_n dX11_counted_186 2 rfl <| ml_rp (mk := ml_i) hr dX11_counted_187 (fun _ => trivial) h) (fun hq3881 h => ml_sw_of h (fun hq3883 h => ml_swInC (off := 57) (4 : Int32) hq3883 dX11_counted_114 ⟨by decide, by decide, by decide⟩ <| ml_aload_n dX11_counted_171 0 rfl <| ml_ck_of h fun hc3882 h => ml_getI dX11_counted_172 wb_384 hc3882 <| ml_rp (mk := ml_i) hr dX11_counted_175 (fun _ => trivial) h) (fun hq3884 h => ml_sw_of h (fun hq3886 h => ml_swInC (off := 62) (5 : Int32) hq3886 dX11_counted_114 ⟨by decide, by decide, by decide⟩ <| ml_aload_n dX11_counted_176 0 rfl <| ml_ck_of h fun hc3885 h => ml_getI dX11_counted_177 wb_404 hc3885 <| ml_rp (mk := ml_i) hr dX11_counted_180 (fun _ => trivial) h) (fun hq3887 h => ml_sw_of h (fun hq3889 h => ml_swInC (off := 67) (6 : Int32) hq3889 dX11_counted_114 ⟨by decide, by decide, by decide⟩ <| ml_aload_n dX11_counted_181 0 rfl <| ml_ck_of h fun hc3888 h => ml_getI dX11_counted_182 wb_475 hc3888 <| ml_rp (mk := ml_i) hr dX11_counted_185 (fun _ => trivial) h) (fun hq3890 h => ml_swOut dX11_counted_114 (by have w0 := lv_neT hq3873 (show (0 : Int32).toInt = 0 from by decide); have w1 := lv_neT hq3876 (show (1 : Int32).toInt = 1 from by decide); have w2 := lv_neT hq3879 (show (2 : Int32).toInt = 2 from by decide); have w3 := lv_neT hq3881 (show (3 : Int32).toInt = 3 from by decide); have w4 := lv_neT hq3884 (show (4 : Int32).toInt = 4 from by decide); have w5 := lv_neT hq3887 (show (5 : Int32).toInt = 5 from by decide); have w6 := lv_neT hq3890 (show (6 : Int32).toInt = 6 from by decide); omega) (by decide) <| ml_iload_n dX11_counted_186 2 rfl <| ml_rp (mk := ml_i) hr dX11_counted_187 (fun _ => trivial) h)))))))
def fX11_counted_79 : Nat → Nat → Int32 → Int32 → Int32 → ml_M → Option Int32
  | 0, _, _, _, _, _ => none
  | fu + 1, l0, l1, l2, l3, m =>
    if (4 : Int32) ≤ l3 then
    fX11_counted_113 l0 l1 l2 m
    else
    if l1 = (8 : Int32) then
    if (ml_K m l0).1 = 11 then
    ml_let (ml_R m l0 7) fun a3892 =>
    if ml_in m a3892 20 l3 then
    if (ml_I m a3892 l3.toNatClampNeg) < 0 then
    fX11_counted_104 (fX11_counted_79 fu) l0 l1 l3 l2 m
    else
    fX11_counted_105 (fX11_counted_79 fu) l0 l1 l3 (1 : Int32) l2 m
    else none
    else none
    else
    fX11_counted_104 (fX11_counted_79 fu) l0 l1 l3 l2 m
theorem vX11_counted_79 {E : ml_E} (hL : ml_eL E = 4) {rv : Int32} {m : ml_M} (hr : ∀ (pc pc' : Nat) (lv : List (Nat × ml_X)), ml_d cX11_counted pc .ireturn 1 pc' → True → ml_V E "LostRoomModel" cX11_counted 4 false m pc lv [ml_i rv]) : ∀ (fu : Nat) (l0 : Nat) (l1 : Int32) (l2 : Int32) (l3 : Int32), fX11_counted_79 fu l0 l1 l2 l3 m = some rv → ml_V E "LostRoomModel" cX11_counted 4 false m 79 [(0, ml_r l0), (1, ml_i l1), (2, ml_i l2), (3, ml_i l3)] [] := by
  intro fu
  induction fu with
  | zero => intro l0 l1 l2 l3 h; exact ml_none h
  | succ fu ih =>
    intro l0 l1 l2 l3 h
    have hk79 := ih
    unfold fX11_counted_79 at h
    exact ml_iload_n dX11_counted_79 3 rfl <| ml_iconst dX11_counted_80 kc_i4 <| ml_icmp_ge dX11_counted_81 h (fun _ h => ml_V.sub [0, 1, 2] rfl (vX11_counted_113 hL hr  _ _ _ h)) (fun _ h => ml_iload_n dX11_counted_84 2 rfl <| ml_iload_n dX11_counted_85 1 rfl <| ml_bipush dX11_counted_86 kc_b8 <| ml_icmp_ne dX11_counted_88 h (fun _ h => ml_V.sub [0, 1, 3] rfl (vX11_counted_104 hL hr hk79 _ _ _ _ h)) (fun _ h => ml_aload_n dX11_counted_91 0 rfl <| ml_ck_of h fun hc3891 h => ml_getR dX11_counted_92 wb_63 hc3891 <| ml_lx (mk := ml_r) h fun a3892 h => ml_iload_n dX11_counted_95 3 rfl <| ml_ck_of h fun hi3893 h => ml_iald dX11_counted_96 hi3893 <| ml_if_lt dX11_counted_97 h (fun _ h => ml_V.sub [0, 1, 3] rfl (vX11_counted_104 hL hr hk79 _ _ _ _ h)) (fun _ h => ml_iconst dX11_counted_100 kc_i1 <| ml_goto dX11_counted_101 <| ml_V.sub [0, 1, 3] rfl (vX11_counted_105 hL hr hk79 _ _ _ _ _ h))))
def fX11_counted_77 (l0 : Nat) (l1 : Int32) (l2 : Int32) (m : ml_M) : Option Int32 :=
    fX11_counted_79 ml_fu l0 l1 l2 (0 : Int32) m
theorem vX11_counted_77 {E : ml_E} (hL : ml_eL E = 4) {rv : Int32} {m : ml_M} (hr : ∀ (pc pc' : Nat) (lv : List (Nat × ml_X)), ml_d cX11_counted pc .ireturn 1 pc' → True → ml_V E "LostRoomModel" cX11_counted 4 false m pc lv [ml_i rv]) : ∀ (l0 : Nat) (l1 : Int32) (l2 : Int32), fX11_counted_77 l0 l1 l2 m = some rv → ml_V E "LostRoomModel" cX11_counted 4 false m 77 [(0, ml_r l0), (1, ml_i l1), (2, ml_i l2)] [] := by
  intro l0 l1 l2 h
  unfold fX11_counted_77 at h
  exact ml_iconst dX11_counted_77 kc_i0 <| ml_istore_n (lv' := [(3, ml_i (0 : Int32)), (0, ml_r l0), (1, ml_i l1), (2, ml_i l2)]) dX11_counted_78 (ml_hn hL rfl) rfl <| ml_V.sub [1, 2, 3, 0] rfl (vX11_counted_79 hL hr  ml_fu _ _ _ _ h)
def fX11_counted_42 : Nat → Nat → Int32 → Int32 → Int32 → ml_M → Option Int32
  | 0, _, _, _, _, _ => none
  | fu + 1, l0, l1, l2, l3, m =>
    if (6 : Int32) ≤ l3 then
    fX11_counted_77 l0 l1 l2 m
    else
    if l1 = (7 : Int32) then
    if (ml_K m l0).1 = 11 then
    ml_let (ml_R m l0 4) fun a3895 =>
    if ml_in m a3895 20 l3 then
    if (ml_I m a3895 l3.toNatClampNeg) < 0 then
    fX11_counted_68 (fX11_counted_42 fu) l0 l1 l3 l2 m
    else
    fX11_counted_69 (fX11_counted_42 fu) l0 l1 l3 (1 : Int32) l2 m
    else none
    else none
    else
    fX11_counted_68 (fX11_counted_42 fu) l0 l1 l3 l2 m
theorem vX11_counted_42 {E : ml_E} (hL : ml_eL E = 4) {rv : Int32} {m : ml_M} (hr : ∀ (pc pc' : Nat) (lv : List (Nat × ml_X)), ml_d cX11_counted pc .ireturn 1 pc' → True → ml_V E "LostRoomModel" cX11_counted 4 false m pc lv [ml_i rv]) : ∀ (fu : Nat) (l0 : Nat) (l1 : Int32) (l2 : Int32) (l3 : Int32), fX11_counted_42 fu l0 l1 l2 l3 m = some rv → ml_V E "LostRoomModel" cX11_counted 4 false m 42 [(0, ml_r l0), (1, ml_i l1), (2, ml_i l2), (3, ml_i l3)] [] := by
  intro fu
  induction fu with
  | zero => intro l0 l1 l2 l3 h; exact ml_none h
  | succ fu ih =>
    intro l0 l1 l2 l3 h
    have hk42 := ih
    unfold fX11_counted_42 at h
    exact ml_iload_n dX11_counted_42 3 rfl <| ml_bipush dX11_counted_43 kc_b6 <| ml_icmp_ge dX11_counted_45 h (fun _ h => ml_V.sub [0, 1, 2] rfl (vX11_counted_77 hL hr  _ _ _ h)) (fun _ h => ml_iload_n dX11_counted_48 2 rfl <| ml_iload_n dX11_counted_49 1 rfl <| ml_bipush dX11_counted_50 kc_b7 <| ml_icmp_ne dX11_counted_52 h (fun _ h => ml_V.sub [0, 1, 3] rfl (vX11_counted_68 hL hr hk42 _ _ _ _ h)) (fun _ h => ml_aload_n dX11_counted_55 0 rfl <| ml_ck_of h fun hc3894 h => ml_getR dX11_counted_56 wb_64 hc3894 <| ml_lx (mk := ml_r) h fun a3895 h => ml_iload_n dX11_counted_59 3 rfl <| ml_ck_of h fun hi3896 h => ml_iald dX11_counted_60 hi3896 <| ml_if_lt dX11_counted_61 h (fun _ h => ml_V.sub [0, 1, 3] rfl (vX11_counted_68 hL hr hk42 _ _ _ _ h)) (fun _ h => ml_iconst dX11_counted_64 kc_i1 <| ml_goto dX11_counted_65 <| ml_V.sub [0, 1, 3] rfl (vX11_counted_69 hL hr hk42 _ _ _ _ _ h))))
def fX11_counted_40 (l0 : Nat) (l1 : Int32) (l2 : Int32) (m : ml_M) : Option Int32 :=
    fX11_counted_42 ml_fu l0 l1 l2 (0 : Int32) m
theorem vX11_counted_40 {E : ml_E} (hL : ml_eL E = 4) {rv : Int32} {m : ml_M} (hr : ∀ (pc pc' : Nat) (lv : List (Nat × ml_X)), ml_d cX11_counted pc .ireturn 1 pc' → True → ml_V E "LostRoomModel" cX11_counted 4 false m pc lv [ml_i rv]) : ∀ (l0 : Nat) (l1 : Int32) (l2 : Int32), fX11_counted_40 l0 l1 l2 m = some rv → ml_V E "LostRoomModel" cX11_counted 4 false m 40 [(0, ml_r l0), (1, ml_i l1), (2, ml_i l2)] [] := by
  intro l0 l1 l2 h
  unfold fX11_counted_40 at h
  exact ml_iconst dX11_counted_40 kc_i0 <| ml_istore_n (lv' := [(3, ml_i (0 : Int32)), (0, ml_r l0), (1, ml_i l1), (2, ml_i l2)]) dX11_counted_41 (ml_hn hL rfl) rfl <| ml_V.sub [1, 2, 3, 0] rfl (vX11_counted_42 hL hr  ml_fu _ _ _ _ h)
def fX11_counted_4 : Nat → Nat → Int32 → Int32 → Int32 → ml_M → Option Int32
  | 0, _, _, _, _, _ => none
  | fu + 1, l0, l1, l2, l3, m =>
    if (ml_K m l0).1 = 11 then
    if (ml_I m l0 24) ≤ l3 then
    fX11_counted_40 l0 l1 l2 m
    else
    if l1 = (3 : Int32) then
    ml_b1 (fX11_isOf l0 l3 (2 : Int32) m) fun r3899 =>
    if r3899 = 0 then
    fX11_counted_31 (fX11_counted_4 fu) l0 l1 l3 l2 m
    else
    fX11_counted_32 (fX11_counted_4 fu) l0 l1 l3 (1 : Int32) l2 m
    else
    fX11_counted_31 (fX11_counted_4 fu) l0 l1 l3 l2 m
    else none
theorem vX11_counted_4 {E : ml_E} (hL : ml_eL E = 4) {rv : Int32} {m : ml_M} (hr : ∀ (pc pc' : Nat) (lv : List (Nat × ml_X)), ml_d cX11_counted pc .ireturn 1 pc' → True → ml_V E "LostRoomModel" cX11_counted 4 false m pc lv [ml_i rv]) : ∀ (fu : Nat) (l0 : Nat) (l1 : Int32) (l2 : Int32) (l3 : Int32), fX11_counted_4 fu l0 l1 l2 l3 m = some rv → ml_V E "LostRoomModel" cX11_counted 4 false m 4 [(0, ml_r l0), (1, ml_i l1), (2, ml_i l2), (3, ml_i l3)] [] := by
  intro fu
  induction fu with
  | zero => intro l0 l1 l2 l3 h; exact ml_none h
  | succ fu ih =>
    intro l0 l1 l2 l3 h
    have hk4 := ih
    unfold fX11_counted_4 at h
    exact ml_iload_n dX11_counted_4 3 rfl <| ml_aload_n dX11_counted_5 0 rfl <| ml_ck_of h fun hc3897 h => ml_getI dX11_counted_6 wb_228 hc3897 <| ml_icmp_ge dX11_counted_9 h (fun _ h => ml_V.sub [0, 1, 2] rfl (vX11_counted_40 hL hr  _ _ _ h)) (fun _ h => ml_iload_n dX11_counted_12 2 rfl <| ml_iload_n dX11_counted_13 1 rfl <| ml_iconst dX11_counted_14 kc_i3 <| ml_icmp_ne dX11_counted_15 h (fun _ h => ml_V.sub [0, 1, 3] rfl (vX11_counted_31 hL hr hk4 _ _ _ _ h)) (fun _ h => ml_aload_n dX11_counted_18 0 rfl <| ml_iload_n dX11_counted_19 3 rfl <| ml_iconst dX11_counted_20 kc_i2 <| ml_b1_of h fun r3899 hv3898 h => ml_callV dX11_counted_21 wm_432 wb_279 hc3897 (sX11_isOf hv3898) rfl (Nat.le_of_ble_eq_true rfl) (Nat.le_of_ble_eq_true rfl) rfl <| ml_if_eq dX11_counted_24 h (fun _ h => ml_V.sub [0, 1, 3] rfl (vX11_counted_31 hL hr hk4 _ _ _ _ h)) (fun _ h => ml_iconst dX11_counted_27 kc_i1 <| ml_goto dX11_counted_28 <| ml_V.sub [0, 1, 3] rfl (vX11_counted_32 hL hr hk4 _ _ _ _ _ h))))
def fX11_counted (l0 : Nat) (l1 : Int32) (m : ml_M) : Option Int32 :=
    fX11_counted_4 ml_fu l0 l1 (0 : Int32) (0 : Int32) m
theorem wX11_counted_0 {E : ml_E} (hL : ml_eL E = 4) {rv : Int32} {m : ml_M} (hr : ∀ (pc pc' : Nat) (lv : List (Nat × ml_X)), ml_d cX11_counted pc .ireturn 1 pc' → True → ml_V E "LostRoomModel" cX11_counted 4 false m pc lv [ml_i rv]) : ∀ (l0 : Nat) (l1 : Int32), fX11_counted l0 l1 m = some rv → ml_V E "LostRoomModel" cX11_counted 4 false m 0 [(0, ml_r l0), (1, ml_i l1)] [] := by
  intro l0 l1 h
  unfold fX11_counted at h
  exact ml_iconst dX11_counted_0 kc_i0 <| ml_istore_n (lv' := [(2, ml_i (0 : Int32)), (0, ml_r l0), (1, ml_i l1)]) dX11_counted_1 (ml_hn hL rfl) rfl <| ml_iconst dX11_counted_2 kc_i0 <| ml_istore_n (lv' := [(3, ml_i (0 : Int32)), (2, ml_i (0 : Int32)), (0, ml_r l0), (1, ml_i l1)]) dX11_counted_3 (ml_hn hL rfl) rfl <| ml_V.sub [2, 3, 1, 0] rfl (vX11_counted_4 hL hr  ml_fu _ _ _ _ h)
theorem sX11_counted {l0 : Nat} {l1 : Int32} {m : ml_M} {rv : Int32} (h : fX11_counted l0 l1 m = some rv) : ml_Sn yX11_counted cX11_counted 4 (some .int) 4 [ml_r l0, ml_i l1] m (some (ml_i rv)) m :=
  ml_Sn_of (P := True) (ini := false) (by decide +kernel) (Nat.le_of_ble_eq_true rfl) (fun h => by cases h) (fun _ => ml_RkI rv) fun E hL hr => wX11_counted_0 hL hr _ _ h
theorem dX11_count_0 : ml_d cX11_count 0 (.iload_n 1) 1 1 := ⟨by decide +kernel, rfl⟩
theorem dX11_count_1 : ml_d cX11_count 1 (.iconst 0) 1 2 := ⟨by decide +kernel, rfl⟩
theorem dX11_count_2 : ml_d cX11_count 2 (.bipush 8) 2 4 := ⟨by decide +kernel, rfl⟩
theorem dX11_count_4 : ml_d cX11_count 4 (.invokestatic 100) 3 7 := ⟨by decide +kernel, rfl⟩
theorem dX11_count_7 : ml_j cX11_count 7 (.ifCond .eq) 18 10 := ⟨11, by decide +kernel, by decide, rfl⟩
theorem dX11_count_10 : ml_d cX11_count 10 (.aload_n 0) 1 11 := ⟨by decide +kernel, rfl⟩
theorem dX11_count_11 : ml_d cX11_count 11 (.iload_n 1) 1 12 := ⟨by decide +kernel, rfl⟩
theorem dX11_count_12 : ml_d cX11_count 12 (.invokevirtual 356) 3 15 := ⟨by decide +kernel, rfl⟩
theorem dX11_count_15 : ml_j cX11_count 15 .goto 19 18 := ⟨4, by decide +kernel, by decide, rfl⟩
theorem dX11_count_18 : ml_d cX11_count 18 (.iconst (-1)) 1 19 := ⟨by decide +kernel, rfl⟩
theorem dX11_count_19 : ml_d cX11_count 19 (.ireturn) 1 20 := ⟨by decide +kernel, rfl⟩
def fX11_count (l0 : Nat) (l1 : Int32) (m : ml_M) : Option Int32 :=
    ml_b1 (fX11_in l1 (0 : Int32) (8 : Int32) m) fun r3901 =>
    if r3901 = 0 then
    some (-1 : Int32)
    else
    if (ml_K m l0).1 = 11 then
    ml_b1 (fX11_counted l0 l1 m) fun r3904 =>
    some r3904
    else none
theorem wX11_count_0 {E : ml_E} (hL : ml_eL E = 2) {rv : Int32} {m : ml_M} (hr : ∀ (pc pc' : Nat) (lv : List (Nat × ml_X)), ml_d cX11_count pc .ireturn 1 pc' → True → ml_V E "LostRoomModel" cX11_count 5 false m pc lv [ml_i rv]) : ∀ (l0 : Nat) (l1 : Int32), fX11_count l0 l1 m = some rv → ml_V E "LostRoomModel" cX11_count 5 false m 0 [(0, ml_r l0), (1, ml_i l1)] [] := by
  intro l0 l1 h
  unfold fX11_count at h
  exact ml_iload_n dX11_count_0 1 rfl <| ml_iconst dX11_count_1 kc_i0 <| ml_bipush dX11_count_2 kc_b8 <| ml_b1_of h fun r3901 hv3900 h => ml_callS dX11_count_4 wm_136 wb_100 (sX11_in hv3900) rfl (Nat.le_of_ble_eq_true rfl) (Nat.le_of_ble_eq_true rfl) rfl <| ml_if_eq dX11_count_7 h (fun _ h => ml_iconst dX11_count_18 kc_im1 <| ml_rp (mk := ml_i) hr dX11_count_19 (fun _ => trivial) h) (fun _ h => ml_aload_n dX11_count_10 0 rfl <| ml_iload_n dX11_count_11 1 rfl <| ml_ck_of h fun hc3903 h => ml_b1_of h fun r3904 hv3902 h => ml_callV dX11_count_12 wm_812 wb_489 hc3903 (sX11_counted hv3902) rfl (Nat.le_of_ble_eq_true rfl) (Nat.le_of_ble_eq_true rfl) rfl <| ml_goto dX11_count_15 <| ml_rp (mk := ml_i) hr dX11_count_19 (fun _ => trivial) h)
theorem sX11_count {l0 : Nat} {l1 : Int32} {m : ml_M} {rv : Int32} (h : fX11_count l0 l1 m = some rv) : ml_Sn yX11_count cX11_count 2 (some .int) 5 [ml_r l0, ml_i l1] m (some (ml_i rv)) m :=
  ml_Sn_of (P := True) (ini := false) (by decide +kernel) (Nat.le_of_ble_eq_true rfl) (fun h => by cases h) (fun _ => ml_RkI rv) fun E hL hr => wX11_count_0 hL hr _ _ h
theorem dX10_finding_0 : ml_d cX10_finding 0 (.aload_n 0) 1 1 := ⟨by decide +kernel, rfl⟩
theorem dX10_finding_1 : ml_d cX10_finding 1 (.getfield 335) 3 4 := ⟨by decide +kernel, rfl⟩
theorem dX10_finding_4 : ml_d cX10_finding 4 (.ireturn) 1 5 := ⟨by decide +kernel, rfl⟩
def fX10_finding (l0 : Nat) (m : ml_M) : Option Int32 :=
    if (ml_K m l0).1 = 10 then
    some (ml_I m l0 17)
    else none
theorem wX10_finding_0 {E : ml_E} (hL : ml_eL E = 1) {rv : Int32} {m : ml_M} (hr : ∀ (pc pc' : Nat) (lv : List (Nat × ml_X)), ml_d cX10_finding pc .ireturn 1 pc' → True → ml_V E "LostRoom" cX10_finding 2 false m pc lv [ml_i rv]) : ∀ (l0 : Nat), fX10_finding l0 m = some rv → ml_V E "LostRoom" cX10_finding 2 false m 0 [(0, ml_r l0)] [] := by
  intro l0 h
  unfold fX10_finding at h
  exact ml_aload_n dX10_finding_0 0 rfl <| ml_ck_of h fun hc3905 h => ml_getI dX10_finding_1 wb_490 hc3905 <| ml_rp (mk := ml_i) hr dX10_finding_4 (fun _ => trivial) h
theorem sX10_finding {l0 : Nat} {m : ml_M} {rv : Int32} (h : fX10_finding l0 m = some rv) : ml_Sn yX10_finding cX10_finding 1 (some .int) 2 [ml_r l0] m (some (ml_i rv)) m :=
  ml_Sn_of (P := True) (ini := false) (by decide +kernel) (Nat.le_of_ble_eq_true rfl) (fun h => by cases h) (fun _ => ml_RkI rv) fun E hL hr => wX10_finding_0 hL hr _ h
theorem dX11_finding_0 : ml_d cX11_finding 0 (.aload_n 0) 1 1 := ⟨by decide +kernel, rfl⟩
theorem dX11_finding_1 : ml_d cX11_finding 1 (.getfield 97) 3 4 := ⟨by decide +kernel, rfl⟩
theorem dX11_finding_4 : ml_d cX11_finding 4 (.ireturn) 1 5 := ⟨by decide +kernel, rfl⟩
def fX11_finding (l0 : Nat) (m : ml_M) : Option Int32 :=
    if (ml_K m l0).1 = 11 then
    some (ml_I m l0 0)
    else none
theorem wX11_finding_0 {E : ml_E} (hL : ml_eL E = 1) {rv : Int32} {m : ml_M} (hr : ∀ (pc pc' : Nat) (lv : List (Nat × ml_X)), ml_d cX11_finding pc .ireturn 1 pc' → True → ml_V E "LostRoomModel" cX11_finding 2 false m pc lv [ml_i rv]) : ∀ (l0 : Nat), fX11_finding l0 m = some rv → ml_V E "LostRoomModel" cX11_finding 2 false m 0 [(0, ml_r l0)] [] := by
  intro l0 h
  unfold fX11_finding at h
  exact ml_aload_n dX11_finding_0 0 rfl <| ml_ck_of h fun hc3906 h => ml_getI dX11_finding_1 wb_491 hc3906 <| ml_rp (mk := ml_i) hr dX11_finding_4 (fun _ => trivial) h
theorem sX11_finding {l0 : Nat} {m : ml_M} {rv : Int32} (h : fX11_finding l0 m = some rv) : ml_Sn yX11_finding cX11_finding 1 (some .int) 2 [ml_r l0] m (some (ml_i rv)) m :=
  ml_Sn_of (P := True) (ini := false) (by decide +kernel) (Nat.le_of_ble_eq_true rfl) (fun h => by cases h) (fun _ => ml_RkI rv) fun E hL hr => wX11_finding_0 hL hr _ h
theorem dX10_findings_0 : ml_d cX10_findings 0 (.iload_n 1) 1 1 := ⟨by decide +kernel, rfl⟩
theorem dX10_findings_1 : ml_d cX10_findings 1 (.iconst 1) 1 2 := ⟨by decide +kernel, rfl⟩
theorem dX10_findings_2 : ml_d cX10_findings 2 (.iconst 5) 1 3 := ⟨by decide +kernel, rfl⟩
theorem dX10_findings_3 : ml_d cX10_findings 3 (.invokestatic 138) 3 6 := ⟨by decide +kernel, rfl⟩
theorem dX10_findings_6 : ml_j cX10_findings 6 (.ifCond .eq) 18 9 := ⟨12, by decide +kernel, by decide, rfl⟩
theorem dX10_findings_9 : ml_d cX10_findings 9 (.aload_n 0) 1 10 := ⟨by decide +kernel, rfl⟩
theorem dX10_findings_10 : ml_d cX10_findings 10 (.getfield 79) 3 13 := ⟨by decide +kernel, rfl⟩
theorem dX10_findings_13 : ml_d cX10_findings 13 (.iload_n 1) 1 14 := ⟨by decide +kernel, rfl⟩
theorem dX10_findings_14 : ml_d cX10_findings 14 (.iaload) 1 15 := ⟨by decide +kernel, rfl⟩
theorem dX10_findings_15 : ml_j cX10_findings 15 .goto 19 18 := ⟨4, by decide +kernel, by decide, rfl⟩
theorem dX10_findings_18 : ml_d cX10_findings 18 (.iconst (-1)) 1 19 := ⟨by decide +kernel, rfl⟩
theorem dX10_findings_19 : ml_d cX10_findings 19 (.ireturn) 1 20 := ⟨by decide +kernel, rfl⟩
def fX10_findings (l0 : Nat) (l1 : Int32) (m : ml_M) : Option Int32 :=
    ml_b1 (fX10_within l1 (1 : Int32) (5 : Int32) m) fun r3908 =>
    if r3908 = 0 then
    some (-1 : Int32)
    else
    if (ml_K m l0).1 = 10 then
    ml_let (ml_R m l0 18) fun a3910 =>
    if ml_in m a3910 20 l1 then
    some (ml_I m a3910 l1.toNatClampNeg)
    else none
    else none
theorem wX10_findings_0 {E : ml_E} (hL : ml_eL E = 2) {rv : Int32} {m : ml_M} (hr : ∀ (pc pc' : Nat) (lv : List (Nat × ml_X)), ml_d cX10_findings pc .ireturn 1 pc' → True → ml_V E "LostRoom" cX10_findings 3 false m pc lv [ml_i rv]) : ∀ (l0 : Nat) (l1 : Int32), fX10_findings l0 l1 m = some rv → ml_V E "LostRoom" cX10_findings 3 false m 0 [(0, ml_r l0), (1, ml_i l1)] [] := by
  intro l0 l1 h
  unfold fX10_findings at h
  exact ml_iload_n dX10_findings_0 1 rfl <| ml_iconst dX10_findings_1 kc_i1 <| ml_iconst dX10_findings_2 kc_i5 <| ml_b1_of h fun r3908 hv3907 h => ml_callS dX10_findings_3 wm_124 wb_94 (sX10_within hv3907) rfl (Nat.le_of_ble_eq_true rfl) (Nat.le_of_ble_eq_true rfl) rfl <| ml_if_eq dX10_findings_6 h (fun _ h => ml_iconst dX10_findings_18 kc_im1 <| ml_rp (mk := ml_i) hr dX10_findings_19 (fun _ => trivial) h) (fun _ h => ml_aload_n dX10_findings_9 0 rfl <| ml_ck_of h fun hc3909 h => ml_getR dX10_findings_10 wb_96 hc3909 <| ml_lx (mk := ml_r) h fun a3910 h => ml_iload_n dX10_findings_13 1 rfl <| ml_ck_of h fun hi3911 h => ml_iald dX10_findings_14 hi3911 <| ml_goto dX10_findings_15 <| ml_rp (mk := ml_i) hr dX10_findings_19 (fun _ => trivial) h)
theorem sX10_findings {l0 : Nat} {l1 : Int32} {m : ml_M} {rv : Int32} (h : fX10_findings l0 l1 m = some rv) : ml_Sn yX10_findings cX10_findings 2 (some .int) 3 [ml_r l0, ml_i l1] m (some (ml_i rv)) m :=
  ml_Sn_of (P := True) (ini := false) (by decide +kernel) (Nat.le_of_ble_eq_true rfl) (fun h => by cases h) (fun _ => ml_RkI rv) fun E hL hr => wX10_findings_0 hL hr _ _ h
theorem dX11_findings_0 : ml_d cX11_findings 0 (.iload_n 1) 1 1 := ⟨by decide +kernel, rfl⟩
theorem dX11_findings_1 : ml_d cX11_findings 1 (.iconst 1) 1 2 := ⟨by decide +kernel, rfl⟩
theorem dX11_findings_2 : ml_d cX11_findings 2 (.iconst 5) 1 3 := ⟨by decide +kernel, rfl⟩
theorem dX11_findings_3 : ml_d cX11_findings 3 (.invokestatic 100) 3 6 := ⟨by decide +kernel, rfl⟩
theorem dX11_findings_6 : ml_j cX11_findings 6 (.ifCond .eq) 18 9 := ⟨12, by decide +kernel, by decide, rfl⟩
theorem dX11_findings_9 : ml_d cX11_findings 9 (.aload_n 0) 1 10 := ⟨by decide +kernel, rfl⟩
theorem dX11_findings_10 : ml_d cX11_findings 10 (.getfield 7) 3 13 := ⟨by decide +kernel, rfl⟩
theorem dX11_findings_13 : ml_d cX11_findings 13 (.iload_n 1) 1 14 := ⟨by decide +kernel, rfl⟩
theorem dX11_findings_14 : ml_d cX11_findings 14 (.iaload) 1 15 := ⟨by decide +kernel, rfl⟩
theorem dX11_findings_15 : ml_j cX11_findings 15 .goto 19 18 := ⟨4, by decide +kernel, by decide, rfl⟩
theorem dX11_findings_18 : ml_d cX11_findings 18 (.iconst (-1)) 1 19 := ⟨by decide +kernel, rfl⟩
theorem dX11_findings_19 : ml_d cX11_findings 19 (.ireturn) 1 20 := ⟨by decide +kernel, rfl⟩
def fX11_findings (l0 : Nat) (l1 : Int32) (m : ml_M) : Option Int32 :=
    ml_b1 (fX11_in l1 (1 : Int32) (5 : Int32) m) fun r3913 =>
    if r3913 = 0 then
    some (-1 : Int32)
    else
    if (ml_K m l0).1 = 11 then
    ml_let (ml_R m l0 1) fun a3915 =>
    if ml_in m a3915 20 l1 then
    some (ml_I m a3915 l1.toNatClampNeg)
    else none
    else none
theorem wX11_findings_0 {E : ml_E} (hL : ml_eL E = 2) {rv : Int32} {m : ml_M} (hr : ∀ (pc pc' : Nat) (lv : List (Nat × ml_X)), ml_d cX11_findings pc .ireturn 1 pc' → True → ml_V E "LostRoomModel" cX11_findings 3 false m pc lv [ml_i rv]) : ∀ (l0 : Nat) (l1 : Int32), fX11_findings l0 l1 m = some rv → ml_V E "LostRoomModel" cX11_findings 3 false m 0 [(0, ml_r l0), (1, ml_i l1)] [] := by
  intro l0 l1 h
  unfold fX11_findings at h
  exact ml_iload_n dX11_findings_0 1 rfl <| ml_iconst dX11_findings_1 kc_i1 <| ml_iconst dX11_findings_2 kc_i5 <| ml_b1_of h fun r3913 hv3912 h => ml_callS dX11_findings_3 wm_136 wb_100 (sX11_in hv3912) rfl (Nat.le_of_ble_eq_true rfl) (Nat.le_of_ble_eq_true rfl) rfl <| ml_if_eq dX11_findings_6 h (fun _ h => ml_iconst dX11_findings_18 kc_im1 <| ml_rp (mk := ml_i) hr dX11_findings_19 (fun _ => trivial) h) (fun _ h => ml_aload_n dX11_findings_9 0 rfl <| ml_ck_of h fun hc3914 h => ml_getR dX11_findings_10 wb_102 hc3914 <| ml_lx (mk := ml_r) h fun a3915 h => ml_iload_n dX11_findings_13 1 rfl <| ml_ck_of h fun hi3916 h => ml_iald dX11_findings_14 hi3916 <| ml_goto dX11_findings_15 <| ml_rp (mk := ml_i) hr dX11_findings_19 (fun _ => trivial) h)
theorem sX11_findings {l0 : Nat} {l1 : Int32} {m : ml_M} {rv : Int32} (h : fX11_findings l0 l1 m = some rv) : ml_Sn yX11_findings cX11_findings 2 (some .int) 3 [ml_r l0, ml_i l1] m (some (ml_i rv)) m :=
  ml_Sn_of (P := True) (ini := false) (by decide +kernel) (Nat.le_of_ble_eq_true rfl) (fun h => by cases h) (fun _ => ml_RkI rv) fun E hL hr => wX11_findings_0 hL hr _ _ h
theorem dX10_mix_0 : ml_d cX10_mix 0 (.ldc2_w 443) 3 3 := ⟨by decide +kernel, rfl⟩
theorem dX10_mix_3 : ml_d cX10_mix 3 (.lload_n 0) 1 4 := ⟨by decide +kernel, rfl⟩
theorem dX10_mix_4 : ml_d cX10_mix 4 (.lmul) 1 5 := ⟨by decide +kernel, rfl⟩
theorem dX10_mix_5 : ml_d cX10_mix 5 (.iload_n 2) 1 6 := ⟨by decide +kernel, rfl⟩
theorem dX10_mix_6 : ml_d cX10_mix 6 (.i2l) 1 7 := ⟨by decide +kernel, rfl⟩
theorem dX10_mix_7 : ml_d cX10_mix 7 (.ladd) 1 8 := ⟨by decide +kernel, rfl⟩
theorem dX10_mix_8 : ml_d cX10_mix 8 (.lreturn) 1 9 := ⟨by decide +kernel, rfl⟩
def fX10_mix (l0 : Int64) (l2 : Int32) (m : ml_M) : Option Int64 :=
    some (((31 : Int64) * l0) + l2.toInt64)
theorem wX10_mix_0 {E : ml_E} (hL : ml_eL E = 3) {rv : Int64} {m : ml_M} (hr : ∀ (pc pc' : Nat) (lv : List (Nat × ml_X)), ml_d cX10_mix pc .lreturn 1 pc' → True → ml_V E "LostRoom" cX10_mix 2 false m pc lv [ml_l rv]) : ∀ (l0 : Int64) (l2 : Int32), fX10_mix l0 l2 m = some rv → ml_V E "LostRoom" cX10_mix 2 false m 0 [(0, ml_l l0), (2, ml_i l2)] [] := by
  intro l0 l2 h
  unfold fX10_mix at h
  exact ml_ldc2 dX10_mix_0 wm_813 <| ml_lload_n dX10_mix_3 0 rfl <| ml_lmul dX10_mix_4 <| ml_iload_n dX10_mix_5 1 rfl <| ml_i2l dX10_mix_6 <| ml_ladd dX10_mix_7 <| ml_rp (mk := ml_l) hr dX10_mix_8 (fun _ => trivial) h
theorem sX10_mix {l0 : Int64} {l2 : Int32} {m : ml_M} {rv : Int64} (h : fX10_mix l0 l2 m = some rv) : ml_Sn yX10_mix cX10_mix 3 (some .long) 2 [ml_l l0, ml_i l2] m (some (ml_l rv)) m :=
  ml_Sn_of (P := True) (ini := false) (by decide +kernel) (Nat.le_of_ble_eq_true rfl) (fun h => by cases h) (fun _ => ml_RkJ rv) fun E hL hr => wX10_mix_0 hL hr _ _ h
theorem dX10_mixHouse_0 : ml_d cX10_mixHouse 0 (.lload_n 1) 1 1 := ⟨by decide +kernel, rfl⟩
theorem dX10_mixHouse_1 : ml_d cX10_mixHouse 1 (.lstore_n 3) 1 2 := ⟨by decide +kernel, rfl⟩
theorem dX10_mixHouse_2 : ml_d cX10_mixHouse 2 (.iconst 0) 1 3 := ⟨by decide +kernel, rfl⟩
theorem dX10_mixHouse_3 : ml_d cX10_mixHouse 3 (.istore 5) 2 5 := ⟨by decide +kernel, rfl⟩
theorem dX10_mixHouse_5 : ml_d cX10_mixHouse 5 (.iload 5) 2 7 := ⟨by decide +kernel, rfl⟩
theorem dX10_mixHouse_7 : ml_d cX10_mixHouse 7 (.aload_n 0) 1 8 := ⟨by decide +kernel, rfl⟩
theorem dX10_mixHouse_8 : ml_d cX10_mixHouse 8 (.getfield 26) 3 11 := ⟨by decide +kernel, rfl⟩
theorem dX10_mixHouse_11 : ml_d cX10_mixHouse 11 (.getfield 193) 3 14 := ⟨by decide +kernel, rfl⟩
theorem dX10_mixHouse_14 : ml_j cX10_mixHouse 14 (.if_icmp .ge) 51 17 := ⟨37, by decide +kernel, by decide, rfl⟩
theorem dX10_mixHouse_17 : ml_d cX10_mixHouse 17 (.iconst 0) 1 18 := ⟨by decide +kernel, rfl⟩
theorem dX10_mixHouse_18 : ml_d cX10_mixHouse 18 (.istore 6) 2 20 := ⟨by decide +kernel, rfl⟩
theorem dX10_mixHouse_20 : ml_d cX10_mixHouse 20 (.iload 6) 2 22 := ⟨by decide +kernel, rfl⟩
theorem dX10_mixHouse_22 : ml_d cX10_mixHouse 22 (.iconst 4) 1 23 := ⟨by decide +kernel, rfl⟩
theorem dX10_mixHouse_23 : ml_j cX10_mixHouse 23 (.if_icmp .gt) 45 26 := ⟨22, by decide +kernel, by decide, rfl⟩
theorem dX10_mixHouse_26 : ml_d cX10_mixHouse 26 (.lload_n 3) 1 27 := ⟨by decide +kernel, rfl⟩
theorem dX10_mixHouse_27 : ml_d cX10_mixHouse 27 (.aload_n 0) 1 28 := ⟨by decide +kernel, rfl⟩
theorem dX10_mixHouse_28 : ml_d cX10_mixHouse 28 (.iload 5) 2 30 := ⟨by decide +kernel, rfl⟩
theorem dX10_mixHouse_30 : ml_d cX10_mixHouse 30 (.iload 6) 2 32 := ⟨by decide +kernel, rfl⟩
theorem dX10_mixHouse_32 : ml_d cX10_mixHouse 32 (.invokevirtual 144) 3 35 := ⟨by decide +kernel, rfl⟩
theorem dX10_mixHouse_35 : ml_d cX10_mixHouse 35 (.invokestatic 343) 3 38 := ⟨by decide +kernel, rfl⟩
theorem dX10_mixHouse_38 : ml_d cX10_mixHouse 38 (.lstore_n 3) 1 39 := ⟨by decide +kernel, rfl⟩
theorem dX10_mixHouse_39 : ml_d cX10_mixHouse 39 (.iinc 6 1) 3 42 := ⟨by decide +kernel, rfl⟩
theorem dX10_mixHouse_42 : ml_j cX10_mixHouse 42 .goto 20 45 := ⟨(-22), by decide +kernel, by decide, rfl⟩
theorem dX10_mixHouse_45 : ml_d cX10_mixHouse 45 (.iinc 5 1) 3 48 := ⟨by decide +kernel, rfl⟩
theorem dX10_mixHouse_48 : ml_j cX10_mixHouse 48 .goto 5 51 := ⟨(-43), by decide +kernel, by decide, rfl⟩
theorem dX10_mixHouse_51 : ml_d cX10_mixHouse 51 (.iconst 0) 1 52 := ⟨by decide +kernel, rfl⟩
theorem dX10_mixHouse_52 : ml_d cX10_mixHouse 52 (.istore 5) 2 54 := ⟨by decide +kernel, rfl⟩
theorem dX10_mixHouse_54 : ml_d cX10_mixHouse 54 (.iload 5) 2 56 := ⟨by decide +kernel, rfl⟩
theorem dX10_mixHouse_56 : ml_d cX10_mixHouse 56 (.aload_n 0) 1 57 := ⟨by decide +kernel, rfl⟩
theorem dX10_mixHouse_57 : ml_d cX10_mixHouse 57 (.getfield 26) 3 60 := ⟨by decide +kernel, rfl⟩
theorem dX10_mixHouse_60 : ml_d cX10_mixHouse 60 (.getfield 135) 3 63 := ⟨by decide +kernel, rfl⟩
theorem dX10_mixHouse_63 : ml_j cX10_mixHouse 63 (.if_icmp .ge) 100 66 := ⟨37, by decide +kernel, by decide, rfl⟩
theorem dX10_mixHouse_66 : ml_d cX10_mixHouse 66 (.iconst 0) 1 67 := ⟨by decide +kernel, rfl⟩
theorem dX10_mixHouse_67 : ml_d cX10_mixHouse 67 (.istore 6) 2 69 := ⟨by decide +kernel, rfl⟩
theorem dX10_mixHouse_69 : ml_d cX10_mixHouse 69 (.iload 6) 2 71 := ⟨by decide +kernel, rfl⟩
theorem dX10_mixHouse_71 : ml_d cX10_mixHouse 71 (.iconst 3) 1 72 := ⟨by decide +kernel, rfl⟩
theorem dX10_mixHouse_72 : ml_j cX10_mixHouse 72 (.if_icmp .gt) 94 75 := ⟨22, by decide +kernel, by decide, rfl⟩
theorem dX10_mixHouse_75 : ml_d cX10_mixHouse 75 (.lload_n 3) 1 76 := ⟨by decide +kernel, rfl⟩
theorem dX10_mixHouse_76 : ml_d cX10_mixHouse 76 (.aload_n 0) 1 77 := ⟨by decide +kernel, rfl⟩
theorem dX10_mixHouse_77 : ml_d cX10_mixHouse 77 (.iload 5) 2 79 := ⟨by decide +kernel, rfl⟩
theorem dX10_mixHouse_79 : ml_d cX10_mixHouse 79 (.iload 6) 2 81 := ⟨by decide +kernel, rfl⟩
theorem dX10_mixHouse_81 : ml_d cX10_mixHouse 81 (.invokevirtual 151) 3 84 := ⟨by decide +kernel, rfl⟩
theorem dX10_mixHouse_84 : ml_d cX10_mixHouse 84 (.invokestatic 343) 3 87 := ⟨by decide +kernel, rfl⟩
theorem dX10_mixHouse_87 : ml_d cX10_mixHouse 87 (.lstore_n 3) 1 88 := ⟨by decide +kernel, rfl⟩
theorem dX10_mixHouse_88 : ml_d cX10_mixHouse 88 (.iinc 6 1) 3 91 := ⟨by decide +kernel, rfl⟩
theorem dX10_mixHouse_91 : ml_j cX10_mixHouse 91 .goto 69 94 := ⟨(-22), by decide +kernel, by decide, rfl⟩
theorem dX10_mixHouse_94 : ml_d cX10_mixHouse 94 (.iinc 5 1) 3 97 := ⟨by decide +kernel, rfl⟩
theorem dX10_mixHouse_97 : ml_j cX10_mixHouse 97 .goto 54 100 := ⟨(-43), by decide +kernel, by decide, rfl⟩
theorem dX10_mixHouse_100 : ml_d cX10_mixHouse 100 (.lload_n 3) 1 101 := ⟨by decide +kernel, rfl⟩
theorem dX10_mixHouse_101 : ml_d cX10_mixHouse 101 (.lreturn) 1 102 := ⟨by decide +kernel, rfl⟩
def fX10_mixHouse_45 (k5 : Nat → Int64 → Int32 → ml_M → Option Int64) (l0 : Nat) (l3 : Int64) (l5 : Int32) (m : ml_M) : Option Int64 :=
    k5 l0 l3 (l5 + (1 : Int32)) m
theorem vX10_mixHouse_45 {E : ml_E} (hL : ml_eL E = 7) {rv : Int64} {m : ml_M} (hr : ∀ (pc pc' : Nat) (lv : List (Nat × ml_X)), ml_d cX10_mixHouse pc .lreturn 1 pc' → True → ml_V E "LostRoom" cX10_mixHouse 4 false m pc lv [ml_l rv]) {k5 : Nat → Int64 → Int32 → ml_M → Option Int64} (hk5 : ∀ (l0 : Nat) (l3 : Int64) (l5 : Int32), k5 l0 l3 l5 m = some rv → ml_V E "LostRoom" cX10_mixHouse 4 false m 5 [(0, ml_r l0), (3, ml_l l3), (5, ml_i l5)] []) : ∀ (l0 : Nat) (l3 : Int64) (l5 : Int32), fX10_mixHouse_45 k5 l0 l3 l5 m = some rv → ml_V E "LostRoom" cX10_mixHouse 4 false m 45 [(0, ml_r l0), (3, ml_l l3), (5, ml_i l5)] [] := by
  intro l0 l3 l5 h
  unfold fX10_mixHouse_45 at h
  exact ml_iinc (lv' := [(5, ml_i (l5 + (1 : Int32))), (0, ml_r l0), (3, ml_l l3)]) dX10_mixHouse_45 2 rfl (congrArg (l5 + ·) kc_i1) (ml_hn hL rfl) rfl <| ml_goto dX10_mixHouse_48 <| ml_V.sub [1, 2, 0] rfl (hk5 _ _ _ h)
def fX10_mixHouse_20 (k5 : Nat → Int64 → Int32 → ml_M → Option Int64) : Nat → Nat → Int64 → Int32 → Int32 → ml_M → Option Int64
  | 0, _, _, _, _, _ => none
  | fu + 1, l0, l3, l5, l6, m =>
    if (4 : Int32) < l6 then
    fX10_mixHouse_45 k5 l0 l3 l5 m
    else
    if (ml_K m l0).1 = 10 then
    ml_b1 (fX10_lodgerFact l0 l5 l6 m) fun r3919 =>
    ml_b1 (fX10_mix l3 r3919 m) fun r3921 =>
    (fX10_mixHouse_20 k5 fu) l0 r3921 l5 (l6 + (1 : Int32)) m
    else none
theorem vX10_mixHouse_20 {E : ml_E} (hL : ml_eL E = 7) {rv : Int64} {m : ml_M} (hr : ∀ (pc pc' : Nat) (lv : List (Nat × ml_X)), ml_d cX10_mixHouse pc .lreturn 1 pc' → True → ml_V E "LostRoom" cX10_mixHouse 4 false m pc lv [ml_l rv]) {k5 : Nat → Int64 → Int32 → ml_M → Option Int64} (hk5 : ∀ (l0 : Nat) (l3 : Int64) (l5 : Int32), k5 l0 l3 l5 m = some rv → ml_V E "LostRoom" cX10_mixHouse 4 false m 5 [(0, ml_r l0), (3, ml_l l3), (5, ml_i l5)] []) : ∀ (fu : Nat) (l0 : Nat) (l3 : Int64) (l5 : Int32) (l6 : Int32), fX10_mixHouse_20 k5 fu l0 l3 l5 l6 m = some rv → ml_V E "LostRoom" cX10_mixHouse 4 false m 20 [(0, ml_r l0), (3, ml_l l3), (5, ml_i l5), (6, ml_i l6)] [] := by
  intro fu
  induction fu with
  | zero => intro l0 l3 l5 l6 h; exact ml_none h
  | succ fu ih =>
    intro l0 l3 l5 l6 h
    have hk20 := ih
    unfold fX10_mixHouse_20 at h
    exact ml_iload dX10_mixHouse_20 3 rfl <| ml_iconst dX10_mixHouse_22 kc_i4 <| ml_icmp_gt dX10_mixHouse_23 h (fun _ h => ml_V.sub [0, 1, 2] rfl (vX10_mixHouse_45 hL hr hk5 _ _ _ h)) (fun _ h => ml_lload_n dX10_mixHouse_26 1 rfl <| ml_aload_n dX10_mixHouse_27 0 rfl <| ml_iload dX10_mixHouse_28 2 rfl <| ml_iload dX10_mixHouse_30 3 rfl <| ml_ck_of h fun hc3918 h => ml_b1_of h fun r3919 hv3917 h => ml_callV dX10_mixHouse_32 wm_300 wb_214 hc3918 (sX10_lodgerFact hv3917) rfl (Nat.le_of_ble_eq_true rfl) (Nat.le_of_ble_eq_true rfl) rfl <| ml_b1_of h fun r3921 hv3920 h => ml_callS dX10_mixHouse_35 wm_816 wb_492 (sX10_mix hv3920) rfl (Nat.le_of_ble_eq_true rfl) (Nat.le_of_ble_eq_true rfl) rfl <| ml_lstore_n (lv' := [(3, ml_l r3921), (0, ml_r l0), (5, ml_i l5), (6, ml_i l6)]) dX10_mixHouse_38 (ml_hn hL rfl) rfl <| ml_iinc (lv' := [(6, ml_i (l6 + (1 : Int32))), (3, ml_l r3921), (0, ml_r l0), (5, ml_i l5)]) dX10_mixHouse_39 3 rfl (congrArg (l6 + ·) kc_i1) (ml_hn hL rfl) rfl <| ml_goto dX10_mixHouse_42 <| ml_V.sub [2, 1, 3, 0] rfl (hk20 _ _ _ _ h))
def fX10_mixHouse_94 (k54 : Nat → Int64 → Int32 → ml_M → Option Int64) (l0 : Nat) (l3 : Int64) (l5 : Int32) (m : ml_M) : Option Int64 :=
    k54 l0 l3 (l5 + (1 : Int32)) m
theorem vX10_mixHouse_94 {E : ml_E} (hL : ml_eL E = 7) {rv : Int64} {m : ml_M} (hr : ∀ (pc pc' : Nat) (lv : List (Nat × ml_X)), ml_d cX10_mixHouse pc .lreturn 1 pc' → True → ml_V E "LostRoom" cX10_mixHouse 4 false m pc lv [ml_l rv]) {k54 : Nat → Int64 → Int32 → ml_M → Option Int64} (hk54 : ∀ (l0 : Nat) (l3 : Int64) (l5 : Int32), k54 l0 l3 l5 m = some rv → ml_V E "LostRoom" cX10_mixHouse 4 false m 54 [(0, ml_r l0), (3, ml_l l3), (5, ml_i l5)] []) : ∀ (l0 : Nat) (l3 : Int64) (l5 : Int32), fX10_mixHouse_94 k54 l0 l3 l5 m = some rv → ml_V E "LostRoom" cX10_mixHouse 4 false m 94 [(0, ml_r l0), (3, ml_l l3), (5, ml_i l5)] [] := by
  intro l0 l3 l5 h
  unfold fX10_mixHouse_94 at h
  exact ml_iinc (lv' := [(5, ml_i (l5 + (1 : Int32))), (0, ml_r l0), (3, ml_l l3)]) dX10_mixHouse_94 2 rfl (congrArg (l5 + ·) kc_i1) (ml_hn hL rfl) rfl <| ml_goto dX10_mixHouse_97 <| ml_V.sub [1, 2, 0] rfl (hk54 _ _ _ h)
def fX10_mixHouse_69 (k54 : Nat → Int64 → Int32 → ml_M → Option Int64) : Nat → Nat → Int64 → Int32 → Int32 → ml_M → Option Int64
  | 0, _, _, _, _, _ => none
  | fu + 1, l0, l3, l5, l6, m =>
    if (3 : Int32) < l6 then
    fX10_mixHouse_94 k54 l0 l3 l5 m
    else
    if (ml_K m l0).1 = 10 then
    ml_b1 (fX10_trunkFact l0 l5 l6 m) fun r3924 =>
    ml_b1 (fX10_mix l3 r3924 m) fun r3926 =>
    (fX10_mixHouse_69 k54 fu) l0 r3926 l5 (l6 + (1 : Int32)) m
    else none
theorem vX10_mixHouse_69 {E : ml_E} (hL : ml_eL E = 7) {rv : Int64} {m : ml_M} (hr : ∀ (pc pc' : Nat) (lv : List (Nat × ml_X)), ml_d cX10_mixHouse pc .lreturn 1 pc' → True → ml_V E "LostRoom" cX10_mixHouse 4 false m pc lv [ml_l rv]) {k54 : Nat → Int64 → Int32 → ml_M → Option Int64} (hk54 : ∀ (l0 : Nat) (l3 : Int64) (l5 : Int32), k54 l0 l3 l5 m = some rv → ml_V E "LostRoom" cX10_mixHouse 4 false m 54 [(0, ml_r l0), (3, ml_l l3), (5, ml_i l5)] []) : ∀ (fu : Nat) (l0 : Nat) (l3 : Int64) (l5 : Int32) (l6 : Int32), fX10_mixHouse_69 k54 fu l0 l3 l5 l6 m = some rv → ml_V E "LostRoom" cX10_mixHouse 4 false m 69 [(0, ml_r l0), (3, ml_l l3), (5, ml_i l5), (6, ml_i l6)] [] := by
  intro fu
  induction fu with
  | zero => intro l0 l3 l5 l6 h; exact ml_none h
  | succ fu ih =>
    intro l0 l3 l5 l6 h
    have hk69 := ih
    unfold fX10_mixHouse_69 at h
    exact ml_iload dX10_mixHouse_69 3 rfl <| ml_iconst dX10_mixHouse_71 kc_i3 <| ml_icmp_gt dX10_mixHouse_72 h (fun _ h => ml_V.sub [0, 1, 2] rfl (vX10_mixHouse_94 hL hr hk54 _ _ _ h)) (fun _ h => ml_lload_n dX10_mixHouse_75 1 rfl <| ml_aload_n dX10_mixHouse_76 0 rfl <| ml_iload dX10_mixHouse_77 2 rfl <| ml_iload dX10_mixHouse_79 3 rfl <| ml_ck_of h fun hc3923 h => ml_b1_of h fun r3924 hv3922 h => ml_callV dX10_mixHouse_81 wm_321 wb_226 hc3923 (sX10_trunkFact hv3922) rfl (Nat.le_of_ble_eq_true rfl) (Nat.le_of_ble_eq_true rfl) rfl <| ml_b1_of h fun r3926 hv3925 h => ml_callS dX10_mixHouse_84 wm_816 wb_492 (sX10_mix hv3925) rfl (Nat.le_of_ble_eq_true rfl) (Nat.le_of_ble_eq_true rfl) rfl <| ml_lstore_n (lv' := [(3, ml_l r3926), (0, ml_r l0), (5, ml_i l5), (6, ml_i l6)]) dX10_mixHouse_87 (ml_hn hL rfl) rfl <| ml_iinc (lv' := [(6, ml_i (l6 + (1 : Int32))), (3, ml_l r3926), (0, ml_r l0), (5, ml_i l5)]) dX10_mixHouse_88 3 rfl (congrArg (l6 + ·) kc_i1) (ml_hn hL rfl) rfl <| ml_goto dX10_mixHouse_91 <| ml_V.sub [2, 1, 3, 0] rfl (hk69 _ _ _ _ h))
def fX10_mixHouse_54 : Nat → Nat → Int64 → Int32 → ml_M → Option Int64
  | 0, _, _, _, _ => none
  | fu + 1, l0, l3, l5, m =>
    if (ml_K m l0).1 = 10 then
    ml_let (ml_R m l0 2) fun a3928 =>
    if (ml_K m a3928).1 = 1 then
    if (ml_I m a3928 3) ≤ l5 then
    some l3
    else
    fX10_mixHouse_69 (fX10_mixHouse_54 fu) ml_fu l0 l3 l5 (0 : Int32) m
    else none
    else none
theorem vX10_mixHouse_54 {E : ml_E} (hL : ml_eL E = 7) {rv : Int64} {m : ml_M} (hr : ∀ (pc pc' : Nat) (lv : List (Nat × ml_X)), ml_d cX10_mixHouse pc .lreturn 1 pc' → True → ml_V E "LostRoom" cX10_mixHouse 4 false m pc lv [ml_l rv]) : ∀ (fu : Nat) (l0 : Nat) (l3 : Int64) (l5 : Int32), fX10_mixHouse_54 fu l0 l3 l5 m = some rv → ml_V E "LostRoom" cX10_mixHouse 4 false m 54 [(0, ml_r l0), (3, ml_l l3), (5, ml_i l5)] [] := by
  intro fu
  induction fu with
  | zero => intro l0 l3 l5 h; exact ml_none h
  | succ fu ih =>
    intro l0 l3 l5 h
    have hk54 := ih
    unfold fX10_mixHouse_54 at h
    exact ml_iload dX10_mixHouse_54 2 rfl <| ml_aload_n dX10_mixHouse_56 0 rfl <| ml_ck_of h fun hc3927 h => ml_getR dX10_mixHouse_57 wb_189 hc3927 <| ml_lx (mk := ml_r) h fun a3928 h => ml_ck_of h fun hc3929 h => ml_getI dX10_mixHouse_60 wb_190 hc3929 <| ml_icmp_ge dX10_mixHouse_63 h (fun _ h => ml_lload_n dX10_mixHouse_100 1 rfl <| ml_rp (mk := ml_l) hr dX10_mixHouse_101 (fun _ => trivial) h) (fun _ h => ml_iconst dX10_mixHouse_66 kc_i0 <| ml_istore (lv' := [(6, ml_i (0 : Int32)), (0, ml_r l0), (3, ml_l l3), (5, ml_i l5)]) dX10_mixHouse_67 (ml_hn hL rfl) rfl <| ml_V.sub [1, 2, 3, 0] rfl (vX10_mixHouse_69 hL hr hk54 ml_fu _ _ _ _ h))
def fX10_mixHouse_51 (l0 : Nat) (l3 : Int64) (m : ml_M) : Option Int64 :=
    fX10_mixHouse_54 ml_fu l0 l3 (0 : Int32) m
theorem vX10_mixHouse_51 {E : ml_E} (hL : ml_eL E = 7) {rv : Int64} {m : ml_M} (hr : ∀ (pc pc' : Nat) (lv : List (Nat × ml_X)), ml_d cX10_mixHouse pc .lreturn 1 pc' → True → ml_V E "LostRoom" cX10_mixHouse 4 false m pc lv [ml_l rv]) : ∀ (l0 : Nat) (l3 : Int64), fX10_mixHouse_51 l0 l3 m = some rv → ml_V E "LostRoom" cX10_mixHouse 4 false m 51 [(0, ml_r l0), (3, ml_l l3)] [] := by
  intro l0 l3 h
  unfold fX10_mixHouse_51 at h
  exact ml_iconst dX10_mixHouse_51 kc_i0 <| ml_istore (lv' := [(5, ml_i (0 : Int32)), (0, ml_r l0), (3, ml_l l3)]) dX10_mixHouse_52 (ml_hn hL rfl) rfl <| ml_V.sub [1, 2, 0] rfl (vX10_mixHouse_54 hL hr  ml_fu _ _ _ h)
def fX10_mixHouse_5 : Nat → Nat → Int64 → Int32 → ml_M → Option Int64
  | 0, _, _, _, _ => none
  | fu + 1, l0, l3, l5, m =>
    if (ml_K m l0).1 = 10 then
    ml_let (ml_R m l0 2) fun a3931 =>
    if (ml_K m a3931).1 = 1 then
    if (ml_I m a3931 2) ≤ l5 then
    fX10_mixHouse_51 l0 l3 m
    else
    fX10_mixHouse_20 (fX10_mixHouse_5 fu) ml_fu l0 l3 l5 (0 : Int32) m
    else none
    else none
theorem vX10_mixHouse_5 {E : ml_E} (hL : ml_eL E = 7) {rv : Int64} {m : ml_M} (hr : ∀ (pc pc' : Nat) (lv : List (Nat × ml_X)), ml_d cX10_mixHouse pc .lreturn 1 pc' → True → ml_V E "LostRoom" cX10_mixHouse 4 false m pc lv [ml_l rv]) : ∀ (fu : Nat) (l0 : Nat) (l3 : Int64) (l5 : Int32), fX10_mixHouse_5 fu l0 l3 l5 m = some rv → ml_V E "LostRoom" cX10_mixHouse 4 false m 5 [(0, ml_r l0), (3, ml_l l3), (5, ml_i l5)] [] := by
  intro fu
  induction fu with
  | zero => intro l0 l3 l5 h; exact ml_none h
  | succ fu ih =>
    intro l0 l3 l5 h
    have hk5 := ih
    unfold fX10_mixHouse_5 at h
    exact ml_iload dX10_mixHouse_5 2 rfl <| ml_aload_n dX10_mixHouse_7 0 rfl <| ml_ck_of h fun hc3930 h => ml_getR dX10_mixHouse_8 wb_189 hc3930 <| ml_lx (mk := ml_r) h fun a3931 h => ml_ck_of h fun hc3932 h => ml_getI dX10_mixHouse_11 wb_206 hc3932 <| ml_icmp_ge dX10_mixHouse_14 h (fun _ h => ml_V.sub [0, 1] rfl (vX10_mixHouse_51 hL hr  _ _ h)) (fun _ h => ml_iconst dX10_mixHouse_17 kc_i0 <| ml_istore (lv' := [(6, ml_i (0 : Int32)), (0, ml_r l0), (3, ml_l l3), (5, ml_i l5)]) dX10_mixHouse_18 (ml_hn hL rfl) rfl <| ml_V.sub [1, 2, 3, 0] rfl (vX10_mixHouse_20 hL hr hk5 ml_fu _ _ _ _ h))
def fX10_mixHouse (l0 : Nat) (l1 : Int64) (m : ml_M) : Option Int64 :=
    fX10_mixHouse_5 ml_fu l0 l1 (0 : Int32) m
theorem wX10_mixHouse_0 {E : ml_E} (hL : ml_eL E = 7) {rv : Int64} {m : ml_M} (hr : ∀ (pc pc' : Nat) (lv : List (Nat × ml_X)), ml_d cX10_mixHouse pc .lreturn 1 pc' → True → ml_V E "LostRoom" cX10_mixHouse 4 false m pc lv [ml_l rv]) : ∀ (l0 : Nat) (l1 : Int64), fX10_mixHouse l0 l1 m = some rv → ml_V E "LostRoom" cX10_mixHouse 4 false m 0 [(0, ml_r l0), (1, ml_l l1)] [] := by
  intro l0 l1 h
  unfold fX10_mixHouse at h
  exact ml_lload_n dX10_mixHouse_0 1 rfl <| ml_lstore_n (lv' := [(3, ml_l l1), (0, ml_r l0), (1, ml_l l1)]) dX10_mixHouse_1 (ml_hn hL rfl) rfl <| ml_iconst dX10_mixHouse_2 kc_i0 <| ml_istore (lv' := [(5, ml_i (0 : Int32)), (3, ml_l l1), (0, ml_r l0), (1, ml_l l1)]) dX10_mixHouse_3 (ml_hn hL rfl) rfl <| ml_V.sub [2, 1, 0] rfl (vX10_mixHouse_5 hL hr  ml_fu _ _ _ h)
theorem sX10_mixHouse {l0 : Nat} {l1 : Int64} {m : ml_M} {rv : Int64} (h : fX10_mixHouse l0 l1 m = some rv) : ml_Sn yX10_mixHouse cX10_mixHouse 7 (some .long) 4 [ml_r l0, ml_l l1] m (some (ml_l rv)) m :=
  ml_Sn_of (P := True) (ini := false) (by decide +kernel) (Nat.le_of_ble_eq_true rfl) (fun h => by cases h) (fun _ => ml_RkJ rv) fun E hL hr => wX10_mixHouse_0 hL hr _ _ h
theorem dX10_mixThings_0 : ml_d cX10_mixThings 0 (.lload_n 1) 1 1 := ⟨by decide +kernel, rfl⟩
theorem dX10_mixThings_1 : ml_d cX10_mixThings 1 (.lstore_n 3) 1 2 := ⟨by decide +kernel, rfl⟩
theorem dX10_mixThings_2 : ml_d cX10_mixThings 2 (.iconst 0) 1 3 := ⟨by decide +kernel, rfl⟩
theorem dX10_mixThings_3 : ml_d cX10_mixThings 3 (.istore 5) 2 5 := ⟨by decide +kernel, rfl⟩
theorem dX10_mixThings_5 : ml_d cX10_mixThings 5 (.iload 5) 2 7 := ⟨by decide +kernel, rfl⟩
theorem dX10_mixThings_7 : ml_d cX10_mixThings 7 (.aload_n 0) 1 8 := ⟨by decide +kernel, rfl⟩
theorem dX10_mixThings_8 : ml_d cX10_mixThings 8 (.getfield 118) 3 11 := ⟨by decide +kernel, rfl⟩
theorem dX10_mixThings_11 : ml_j cX10_mixThings 11 (.if_icmp .ge) 73 14 := ⟨62, by decide +kernel, by decide, rfl⟩
theorem dX10_mixThings_14 : ml_d cX10_mixThings 14 (.iconst 0) 1 15 := ⟨by decide +kernel, rfl⟩
theorem dX10_mixThings_15 : ml_d cX10_mixThings 15 (.istore 6) 2 17 := ⟨by decide +kernel, rfl⟩
theorem dX10_mixThings_17 : ml_d cX10_mixThings 17 (.iload 6) 2 19 := ⟨by decide +kernel, rfl⟩
theorem dX10_mixThings_19 : ml_d cX10_mixThings 19 (.iconst 4) 1 20 := ⟨by decide +kernel, rfl⟩
theorem dX10_mixThings_20 : ml_j cX10_mixThings 20 (.if_icmp .gt) 42 23 := ⟨22, by decide +kernel, by decide, rfl⟩
theorem dX10_mixThings_23 : ml_d cX10_mixThings 23 (.lload_n 3) 1 24 := ⟨by decide +kernel, rfl⟩
theorem dX10_mixThings_24 : ml_d cX10_mixThings 24 (.aload_n 0) 1 25 := ⟨by decide +kernel, rfl⟩
theorem dX10_mixThings_25 : ml_d cX10_mixThings 25 (.iload 5) 2 27 := ⟨by decide +kernel, rfl⟩
theorem dX10_mixThings_27 : ml_d cX10_mixThings 27 (.iload 6) 2 29 := ⟨by decide +kernel, rfl⟩
theorem dX10_mixThings_29 : ml_d cX10_mixThings 29 (.invokevirtual 181) 3 32 := ⟨by decide +kernel, rfl⟩
theorem dX10_mixThings_32 : ml_d cX10_mixThings 32 (.invokestatic 343) 3 35 := ⟨by decide +kernel, rfl⟩
theorem dX10_mixThings_35 : ml_d cX10_mixThings 35 (.lstore_n 3) 1 36 := ⟨by decide +kernel, rfl⟩
theorem dX10_mixThings_36 : ml_d cX10_mixThings 36 (.iinc 6 1) 3 39 := ⟨by decide +kernel, rfl⟩
theorem dX10_mixThings_39 : ml_j cX10_mixThings 39 .goto 17 42 := ⟨(-22), by decide +kernel, by decide, rfl⟩
theorem dX10_mixThings_42 : ml_d cX10_mixThings 42 (.lload_n 3) 1 43 := ⟨by decide +kernel, rfl⟩
theorem dX10_mixThings_43 : ml_d cX10_mixThings 43 (.aload_n 0) 1 44 := ⟨by decide +kernel, rfl⟩
theorem dX10_mixThings_44 : ml_d cX10_mixThings 44 (.getfield 36) 3 47 := ⟨by decide +kernel, rfl⟩
theorem dX10_mixThings_47 : ml_d cX10_mixThings 47 (.iload 5) 2 49 := ⟨by decide +kernel, rfl⟩
theorem dX10_mixThings_49 : ml_d cX10_mixThings 49 (.aaload) 1 50 := ⟨by decide +kernel, rfl⟩
theorem dX10_mixThings_50 : ml_d cX10_mixThings 50 (.aload_n 0) 1 51 := ⟨by decide +kernel, rfl⟩
theorem dX10_mixThings_51 : ml_d cX10_mixThings 51 (.getfield 36) 3 54 := ⟨by decide +kernel, rfl⟩
theorem dX10_mixThings_54 : ml_d cX10_mixThings 54 (.iload 5) 2 56 := ⟨by decide +kernel, rfl⟩
theorem dX10_mixThings_56 : ml_d cX10_mixThings 56 (.aaload) 1 57 := ⟨by decide +kernel, rfl⟩
theorem dX10_mixThings_57 : ml_d cX10_mixThings 57 (.getfield 210) 3 60 := ⟨by decide +kernel, rfl⟩
theorem dX10_mixThings_60 : ml_d cX10_mixThings 60 (.invokevirtual 190) 3 63 := ⟨by decide +kernel, rfl⟩
theorem dX10_mixThings_63 : ml_d cX10_mixThings 63 (.invokestatic 343) 3 66 := ⟨by decide +kernel, rfl⟩
theorem dX10_mixThings_66 : ml_d cX10_mixThings 66 (.lstore_n 3) 1 67 := ⟨by decide +kernel, rfl⟩
theorem dX10_mixThings_67 : ml_d cX10_mixThings 67 (.iinc 5 1) 3 70 := ⟨by decide +kernel, rfl⟩
theorem dX10_mixThings_70 : ml_j cX10_mixThings 70 .goto 5 73 := ⟨(-65), by decide +kernel, by decide, rfl⟩
theorem dX10_mixThings_73 : ml_d cX10_mixThings 73 (.lload_n 3) 1 74 := ⟨by decide +kernel, rfl⟩
theorem dX10_mixThings_74 : ml_d cX10_mixThings 74 (.lreturn) 1 75 := ⟨by decide +kernel, rfl⟩
def fX10_mixThings_42 (k5 : Nat → Int64 → Int32 → ml_M → Option Int64) (l0 : Nat) (l3 : Int64) (l5 : Int32) (m : ml_M) : Option Int64 :=
    if (ml_K m l0).1 = 10 then
    ml_let (ml_R m l0 4) fun a3934 =>
    if ml_in m a3934 29 l5 then
    ml_let (ml_R m a3934 l5.toNatClampNeg) fun a3936 =>
    ml_let (ml_R m l0 4) fun a3937 =>
    if ml_in m a3937 29 l5 then
    ml_let (ml_R m a3937 l5.toNatClampNeg) fun a3939 =>
    if (ml_K m a3939).1 = 8 then
    if (ml_K m a3936).1 = 8 then
    ml_b1 (fX8_tells a3936 (ml_I m a3939 0) m) fun r3943 =>
    ml_b1 (fX10_mix l3 r3943 m) fun r3945 =>
    k5 l0 r3945 (l5 + (1 : Int32)) m
    else none
    else none
    else none
    else none
    else none
theorem vX10_mixThings_42 {E : ml_E} (hL : ml_eL E = 7) {rv : Int64} {m : ml_M} (hr : ∀ (pc pc' : Nat) (lv : List (Nat × ml_X)), ml_d cX10_mixThings pc .lreturn 1 pc' → True → ml_V E "LostRoom" cX10_mixThings 3 false m pc lv [ml_l rv]) {k5 : Nat → Int64 → Int32 → ml_M → Option Int64} (hk5 : ∀ (l0 : Nat) (l3 : Int64) (l5 : Int32), k5 l0 l3 l5 m = some rv → ml_V E "LostRoom" cX10_mixThings 3 false m 5 [(0, ml_r l0), (3, ml_l l3), (5, ml_i l5)] []) : ∀ (l0 : Nat) (l3 : Int64) (l5 : Int32), fX10_mixThings_42 k5 l0 l3 l5 m = some rv → ml_V E "LostRoom" cX10_mixThings 3 false m 42 [(0, ml_r l0), (3, ml_l l3), (5, ml_i l5)] [] := by
  intro l0 l3 l5 h
  unfold fX10_mixThings_42 at h
  exact ml_lload_n dX10_mixThings_42 1 rfl <| ml_aload_n dX10_mixThings_43 0 rfl <| ml_ck_of h fun hc3933 h => ml_getR dX10_mixThings_44 wb_218 hc3933 <| ml_lx (mk := ml_r) h fun a3934 h => ml_iload dX10_mixThings_47 2 rfl <| ml_ck_of h fun hi3935 h => ml_aald (kd := 29) dX10_mixThings_49 (by decide) hi3935 <| ml_lx (mk := ml_r) h fun a3936 h => ml_aload_n dX10_mixThings_50 0 rfl <| ml_getR dX10_mixThings_51 wb_218 hc3933 <| ml_lx (mk := ml_r) h fun a3937 h => ml_iload dX10_mixThings_54 2 rfl <| ml_ck_of h fun hi3938 h => ml_aald (kd := 29) dX10_mixThings_56 (by decide) hi3938 <| ml_lx (mk := ml_r) h fun a3939 h => ml_ck_of h fun hc3940 h => ml_getI dX10_mixThings_57 wb_268 hc3940 <| ml_ck_of h fun hc3942 h => ml_b1_of h fun r3943 hv3941 h => ml_callV dX10_mixThings_60 wm_416 wb_275 hc3942 (sX8_tells hv3941) rfl (Nat.le_of_ble_eq_true rfl) (Nat.le_of_ble_eq_true rfl) rfl <| ml_b1_of h fun r3945 hv3944 h => ml_callS dX10_mixThings_63 wm_816 wb_492 (sX10_mix hv3944) rfl (Nat.le_of_ble_eq_true rfl) (Nat.le_of_ble_eq_true rfl) rfl <| ml_lstore_n (lv' := [(3, ml_l r3945), (0, ml_r l0), (5, ml_i l5)]) dX10_mixThings_66 (ml_hn hL rfl) rfl <| ml_iinc (lv' := [(5, ml_i (l5 + (1 : Int32))), (3, ml_l r3945), (0, ml_r l0)]) dX10_mixThings_67 2 rfl (congrArg (l5 + ·) kc_i1) (ml_hn hL rfl) rfl <| ml_goto dX10_mixThings_70 <| ml_V.sub [2, 1, 0] rfl (hk5 _ _ _ h)
def fX10_mixThings_17 (k5 : Nat → Int64 → Int32 → ml_M → Option Int64) : Nat → Nat → Int64 → Int32 → Int32 → ml_M → Option Int64
  | 0, _, _, _, _, _ => none
  | fu + 1, l0, l3, l5, l6, m =>
    if (4 : Int32) < l6 then
    fX10_mixThings_42 k5 l0 l3 l5 m
    else
    if (ml_K m l0).1 = 10 then
    ml_b1 (fX10_thingFact l0 l5 l6 m) fun r3948 =>
    ml_b1 (fX10_mix l3 r3948 m) fun r3950 =>
    (fX10_mixThings_17 k5 fu) l0 r3950 l5 (l6 + (1 : Int32)) m
    else none
theorem vX10_mixThings_17 {E : ml_E} (hL : ml_eL E = 7) {rv : Int64} {m : ml_M} (hr : ∀ (pc pc' : Nat) (lv : List (Nat × ml_X)), ml_d cX10_mixThings pc .lreturn 1 pc' → True → ml_V E "LostRoom" cX10_mixThings 3 false m pc lv [ml_l rv]) {k5 : Nat → Int64 → Int32 → ml_M → Option Int64} (hk5 : ∀ (l0 : Nat) (l3 : Int64) (l5 : Int32), k5 l0 l3 l5 m = some rv → ml_V E "LostRoom" cX10_mixThings 3 false m 5 [(0, ml_r l0), (3, ml_l l3), (5, ml_i l5)] []) : ∀ (fu : Nat) (l0 : Nat) (l3 : Int64) (l5 : Int32) (l6 : Int32), fX10_mixThings_17 k5 fu l0 l3 l5 l6 m = some rv → ml_V E "LostRoom" cX10_mixThings 3 false m 17 [(0, ml_r l0), (3, ml_l l3), (5, ml_i l5), (6, ml_i l6)] [] := by
  intro fu
  induction fu with
  | zero => intro l0 l3 l5 l6 h; exact ml_none h
  | succ fu ih =>
    intro l0 l3 l5 l6 h
    have hk17 := ih
    unfold fX10_mixThings_17 at h
    exact ml_iload dX10_mixThings_17 3 rfl <| ml_iconst dX10_mixThings_19 kc_i4 <| ml_icmp_gt dX10_mixThings_20 h (fun _ h => ml_V.sub [0, 1, 2] rfl (vX10_mixThings_42 hL hr hk5 _ _ _ h)) (fun _ h => ml_lload_n dX10_mixThings_23 1 rfl <| ml_aload_n dX10_mixThings_24 0 rfl <| ml_iload dX10_mixThings_25 2 rfl <| ml_iload dX10_mixThings_27 3 rfl <| ml_ck_of h fun hc3947 h => ml_b1_of h fun r3948 hv3946 h => ml_callV dX10_mixThings_29 wm_405 wb_272 hc3947 (sX10_thingFact hv3946) rfl (Nat.le_of_ble_eq_true rfl) (Nat.le_of_ble_eq_true rfl) rfl <| ml_b1_of h fun r3950 hv3949 h => ml_callS dX10_mixThings_32 wm_816 wb_492 (sX10_mix hv3949) rfl (Nat.le_of_ble_eq_true rfl) (Nat.le_of_ble_eq_true rfl) rfl <| ml_lstore_n (lv' := [(3, ml_l r3950), (0, ml_r l0), (5, ml_i l5), (6, ml_i l6)]) dX10_mixThings_35 (ml_hn hL rfl) rfl <| ml_iinc (lv' := [(6, ml_i (l6 + (1 : Int32))), (3, ml_l r3950), (0, ml_r l0), (5, ml_i l5)]) dX10_mixThings_36 3 rfl (congrArg (l6 + ·) kc_i1) (ml_hn hL rfl) rfl <| ml_goto dX10_mixThings_39 <| ml_V.sub [2, 1, 3, 0] rfl (hk17 _ _ _ _ h))
def fX10_mixThings_5 : Nat → Nat → Int64 → Int32 → ml_M → Option Int64
  | 0, _, _, _, _ => none
  | fu + 1, l0, l3, l5, m =>
    if (ml_K m l0).1 = 10 then
    if (ml_I m l0 5) ≤ l5 then
    some l3
    else
    fX10_mixThings_17 (fX10_mixThings_5 fu) ml_fu l0 l3 l5 (0 : Int32) m
    else none
theorem vX10_mixThings_5 {E : ml_E} (hL : ml_eL E = 7) {rv : Int64} {m : ml_M} (hr : ∀ (pc pc' : Nat) (lv : List (Nat × ml_X)), ml_d cX10_mixThings pc .lreturn 1 pc' → True → ml_V E "LostRoom" cX10_mixThings 3 false m pc lv [ml_l rv]) : ∀ (fu : Nat) (l0 : Nat) (l3 : Int64) (l5 : Int32), fX10_mixThings_5 fu l0 l3 l5 m = some rv → ml_V E "LostRoom" cX10_mixThings 3 false m 5 [(0, ml_r l0), (3, ml_l l3), (5, ml_i l5)] [] := by
  intro fu
  induction fu with
  | zero => intro l0 l3 l5 h; exact ml_none h
  | succ fu ih =>
    intro l0 l3 l5 h
    have hk5 := ih
    unfold fX10_mixThings_5 at h
    exact ml_iload dX10_mixThings_5 2 rfl <| ml_aload_n dX10_mixThings_7 0 rfl <| ml_ck_of h fun hc3951 h => ml_getI dX10_mixThings_8 wb_217 hc3951 <| ml_icmp_ge dX10_mixThings_11 h (fun _ h => ml_lload_n dX10_mixThings_73 1 rfl <| ml_rp (mk := ml_l) hr dX10_mixThings_74 (fun _ => trivial) h) (fun _ h => ml_iconst dX10_mixThings_14 kc_i0 <| ml_istore (lv' := [(6, ml_i (0 : Int32)), (0, ml_r l0), (3, ml_l l3), (5, ml_i l5)]) dX10_mixThings_15 (ml_hn hL rfl) rfl <| ml_V.sub [1, 2, 3, 0] rfl (vX10_mixThings_17 hL hr hk5 ml_fu _ _ _ _ h))
def fX10_mixThings (l0 : Nat) (l1 : Int64) (m : ml_M) : Option Int64 :=
    fX10_mixThings_5 ml_fu l0 l1 (0 : Int32) m
theorem wX10_mixThings_0 {E : ml_E} (hL : ml_eL E = 7) {rv : Int64} {m : ml_M} (hr : ∀ (pc pc' : Nat) (lv : List (Nat × ml_X)), ml_d cX10_mixThings pc .lreturn 1 pc' → True → ml_V E "LostRoom" cX10_mixThings 3 false m pc lv [ml_l rv]) : ∀ (l0 : Nat) (l1 : Int64), fX10_mixThings l0 l1 m = some rv → ml_V E "LostRoom" cX10_mixThings 3 false m 0 [(0, ml_r l0), (1, ml_l l1)] [] := by
  intro l0 l1 h
  unfold fX10_mixThings at h
  exact ml_lload_n dX10_mixThings_0 1 rfl <| ml_lstore_n (lv' := [(3, ml_l l1), (0, ml_r l0), (1, ml_l l1)]) dX10_mixThings_1 (ml_hn hL rfl) rfl <| ml_iconst dX10_mixThings_2 kc_i0 <| ml_istore (lv' := [(5, ml_i (0 : Int32)), (3, ml_l l1), (0, ml_r l0), (1, ml_l l1)]) dX10_mixThings_3 (ml_hn hL rfl) rfl <| ml_V.sub [2, 1, 0] rfl (vX10_mixThings_5 hL hr  ml_fu _ _ _ h)
theorem sX10_mixThings {l0 : Nat} {l1 : Int64} {m : ml_M} {rv : Int64} (h : fX10_mixThings l0 l1 m = some rv) : ml_Sn yX10_mixThings cX10_mixThings 7 (some .long) 3 [ml_r l0, ml_l l1] m (some (ml_l rv)) m :=
  ml_Sn_of (P := True) (ini := false) (by decide +kernel) (Nat.le_of_ble_eq_true rfl) (fun h => by cases h) (fun _ => ml_RkJ rv) fun E hL hr => wX10_mixThings_0 hL hr _ _ h
theorem dX10_mixPapers_0 : ml_d cX10_mixPapers 0 (.lload_n 1) 1 1 := ⟨by decide +kernel, rfl⟩
theorem dX10_mixPapers_1 : ml_d cX10_mixPapers 1 (.lstore_n 3) 1 2 := ⟨by decide +kernel, rfl⟩
theorem dX10_mixPapers_2 : ml_d cX10_mixPapers 2 (.iconst 0) 1 3 := ⟨by decide +kernel, rfl⟩
theorem dX10_mixPapers_3 : ml_d cX10_mixPapers 3 (.istore 5) 2 5 := ⟨by decide +kernel, rfl⟩
theorem dX10_mixPapers_5 : ml_d cX10_mixPapers 5 (.iload 5) 2 7 := ⟨by decide +kernel, rfl⟩
theorem dX10_mixPapers_7 : ml_d cX10_mixPapers 7 (.aload_n 0) 1 8 := ⟨by decide +kernel, rfl⟩
theorem dX10_mixPapers_8 : ml_d cX10_mixPapers 8 (.getfield 121) 3 11 := ⟨by decide +kernel, rfl⟩
theorem dX10_mixPapers_11 : ml_j cX10_mixPapers 11 (.if_icmp .ge) 55 14 := ⟨44, by decide +kernel, by decide, rfl⟩
theorem dX10_mixPapers_14 : ml_d cX10_mixPapers 14 (.aload_n 0) 1 15 := ⟨by decide +kernel, rfl⟩
theorem dX10_mixPapers_15 : ml_d cX10_mixPapers 15 (.getfield 42) 3 18 := ⟨by decide +kernel, rfl⟩
theorem dX10_mixPapers_18 : ml_d cX10_mixPapers 18 (.iload 5) 2 20 := ⟨by decide +kernel, rfl⟩
theorem dX10_mixPapers_20 : ml_d cX10_mixPapers 20 (.aaload) 1 21 := ⟨by decide +kernel, rfl⟩
theorem dX10_mixPapers_21 : ml_d cX10_mixPapers 21 (.astore 6) 2 23 := ⟨by decide +kernel, rfl⟩
theorem dX10_mixPapers_23 : ml_d cX10_mixPapers 23 (.lload_n 3) 1 24 := ⟨by decide +kernel, rfl⟩
theorem dX10_mixPapers_24 : ml_d cX10_mixPapers 24 (.aload 6) 2 26 := ⟨by decide +kernel, rfl⟩
theorem dX10_mixPapers_26 : ml_d cX10_mixPapers 26 (.getfield 426) 3 29 := ⟨by decide +kernel, rfl⟩
theorem dX10_mixPapers_29 : ml_d cX10_mixPapers 29 (.invokestatic 343) 3 32 := ⟨by decide +kernel, rfl⟩
theorem dX10_mixPapers_32 : ml_d cX10_mixPapers 32 (.aload 6) 2 34 := ⟨by decide +kernel, rfl⟩
theorem dX10_mixPapers_34 : ml_d cX10_mixPapers 34 (.getfield 424) 3 37 := ⟨by decide +kernel, rfl⟩
theorem dX10_mixPapers_37 : ml_d cX10_mixPapers 37 (.invokestatic 343) 3 40 := ⟨by decide +kernel, rfl⟩
theorem dX10_mixPapers_40 : ml_d cX10_mixPapers 40 (.aload 6) 2 42 := ⟨by decide +kernel, rfl⟩
theorem dX10_mixPapers_42 : ml_d cX10_mixPapers 42 (.getfield 425) 3 45 := ⟨by decide +kernel, rfl⟩
theorem dX10_mixPapers_45 : ml_d cX10_mixPapers 45 (.invokestatic 343) 3 48 := ⟨by decide +kernel, rfl⟩
theorem dX10_mixPapers_48 : ml_d cX10_mixPapers 48 (.lstore_n 3) 1 49 := ⟨by decide +kernel, rfl⟩
theorem dX10_mixPapers_49 : ml_d cX10_mixPapers 49 (.iinc 5 1) 3 52 := ⟨by decide +kernel, rfl⟩
theorem dX10_mixPapers_52 : ml_j cX10_mixPapers 52 .goto 5 55 := ⟨(-47), by decide +kernel, by decide, rfl⟩
theorem dX10_mixPapers_55 : ml_d cX10_mixPapers 55 (.iconst 0) 1 56 := ⟨by decide +kernel, rfl⟩
theorem dX10_mixPapers_56 : ml_d cX10_mixPapers 56 (.istore 5) 2 58 := ⟨by decide +kernel, rfl⟩
theorem dX10_mixPapers_58 : ml_d cX10_mixPapers 58 (.iload 5) 2 60 := ⟨by decide +kernel, rfl⟩
theorem dX10_mixPapers_60 : ml_d cX10_mixPapers 60 (.aload_n 0) 1 61 := ⟨by decide +kernel, rfl⟩
theorem dX10_mixPapers_61 : ml_d cX10_mixPapers 61 (.getfield 124) 3 64 := ⟨by decide +kernel, rfl⟩
theorem dX10_mixPapers_64 : ml_j cX10_mixPapers 64 (.if_icmp .ge) 116 67 := ⟨52, by decide +kernel, by decide, rfl⟩
theorem dX10_mixPapers_67 : ml_d cX10_mixPapers 67 (.aload_n 0) 1 68 := ⟨by decide +kernel, rfl⟩
theorem dX10_mixPapers_68 : ml_d cX10_mixPapers 68 (.getfield 48) 3 71 := ⟨by decide +kernel, rfl⟩
theorem dX10_mixPapers_71 : ml_d cX10_mixPapers 71 (.iload 5) 2 73 := ⟨by decide +kernel, rfl⟩
theorem dX10_mixPapers_73 : ml_d cX10_mixPapers 73 (.aaload) 1 74 := ⟨by decide +kernel, rfl⟩
theorem dX10_mixPapers_74 : ml_d cX10_mixPapers 74 (.astore 6) 2 76 := ⟨by decide +kernel, rfl⟩
theorem dX10_mixPapers_76 : ml_d cX10_mixPapers 76 (.lload_n 3) 1 77 := ⟨by decide +kernel, rfl⟩
theorem dX10_mixPapers_77 : ml_d cX10_mixPapers 77 (.aload 6) 2 79 := ⟨by decide +kernel, rfl⟩
theorem dX10_mixPapers_79 : ml_d cX10_mixPapers 79 (.getfield 433) 3 82 := ⟨by decide +kernel, rfl⟩
theorem dX10_mixPapers_82 : ml_d cX10_mixPapers 82 (.invokestatic 343) 3 85 := ⟨by decide +kernel, rfl⟩
theorem dX10_mixPapers_85 : ml_d cX10_mixPapers 85 (.aload 6) 2 87 := ⟨by decide +kernel, rfl⟩
theorem dX10_mixPapers_87 : ml_d cX10_mixPapers 87 (.getfield 434) 3 90 := ⟨by decide +kernel, rfl⟩
theorem dX10_mixPapers_90 : ml_d cX10_mixPapers 90 (.invokestatic 343) 3 93 := ⟨by decide +kernel, rfl⟩
theorem dX10_mixPapers_93 : ml_d cX10_mixPapers 93 (.aload 6) 2 95 := ⟨by decide +kernel, rfl⟩
theorem dX10_mixPapers_95 : ml_d cX10_mixPapers 95 (.getfield 437) 3 98 := ⟨by decide +kernel, rfl⟩
theorem dX10_mixPapers_98 : ml_d cX10_mixPapers 98 (.invokestatic 343) 3 101 := ⟨by decide +kernel, rfl⟩
theorem dX10_mixPapers_101 : ml_d cX10_mixPapers 101 (.aload 6) 2 103 := ⟨by decide +kernel, rfl⟩
theorem dX10_mixPapers_103 : ml_d cX10_mixPapers 103 (.getfield 440) 3 106 := ⟨by decide +kernel, rfl⟩
theorem dX10_mixPapers_106 : ml_d cX10_mixPapers 106 (.invokestatic 343) 3 109 := ⟨by decide +kernel, rfl⟩
theorem dX10_mixPapers_109 : ml_d cX10_mixPapers 109 (.lstore_n 3) 1 110 := ⟨by decide +kernel, rfl⟩
theorem dX10_mixPapers_110 : ml_d cX10_mixPapers 110 (.iinc 5 1) 3 113 := ⟨by decide +kernel, rfl⟩
theorem dX10_mixPapers_113 : ml_j cX10_mixPapers 113 .goto 58 116 := ⟨(-55), by decide +kernel, by decide, rfl⟩
theorem dX10_mixPapers_116 : ml_d cX10_mixPapers 116 (.iconst 0) 1 117 := ⟨by decide +kernel, rfl⟩
theorem dX10_mixPapers_117 : ml_d cX10_mixPapers 117 (.istore 5) 2 119 := ⟨by decide +kernel, rfl⟩
theorem dX10_mixPapers_119 : ml_d cX10_mixPapers 119 (.iload 5) 2 121 := ⟨by decide +kernel, rfl⟩
theorem dX10_mixPapers_121 : ml_d cX10_mixPapers 121 (.aload_n 0) 1 122 := ⟨by decide +kernel, rfl⟩
theorem dX10_mixPapers_122 : ml_d cX10_mixPapers 122 (.getfield 127) 3 125 := ⟨by decide +kernel, rfl⟩
theorem dX10_mixPapers_125 : ml_j cX10_mixPapers 125 (.if_icmp .ge) 214 128 := ⟨89, by decide +kernel, by decide, rfl⟩
theorem dX10_mixPapers_128 : ml_d cX10_mixPapers 128 (.aload_n 0) 1 129 := ⟨by decide +kernel, rfl⟩
theorem dX10_mixPapers_129 : ml_d cX10_mixPapers 129 (.getfield 54) 3 132 := ⟨by decide +kernel, rfl⟩
theorem dX10_mixPapers_132 : ml_d cX10_mixPapers 132 (.iload 5) 2 134 := ⟨by decide +kernel, rfl⟩
theorem dX10_mixPapers_134 : ml_d cX10_mixPapers 134 (.aaload) 1 135 := ⟨by decide +kernel, rfl⟩
theorem dX10_mixPapers_135 : ml_d cX10_mixPapers 135 (.astore 6) 2 137 := ⟨by decide +kernel, rfl⟩
theorem dX10_mixPapers_137 : ml_d cX10_mixPapers 137 (.lload_n 3) 1 138 := ⟨by decide +kernel, rfl⟩
theorem dX10_mixPapers_138 : ml_d cX10_mixPapers 138 (.aload 6) 2 140 := ⟨by decide +kernel, rfl⟩
theorem dX10_mixPapers_140 : ml_d cX10_mixPapers 140 (.getfield 323) 3 143 := ⟨by decide +kernel, rfl⟩
theorem dX10_mixPapers_143 : ml_d cX10_mixPapers 143 (.invokestatic 343) 3 146 := ⟨by decide +kernel, rfl⟩
theorem dX10_mixPapers_146 : ml_d cX10_mixPapers 146 (.aload 6) 2 148 := ⟨by decide +kernel, rfl⟩
theorem dX10_mixPapers_148 : ml_d cX10_mixPapers 148 (.getfield 322) 3 151 := ⟨by decide +kernel, rfl⟩
theorem dX10_mixPapers_151 : ml_d cX10_mixPapers 151 (.invokestatic 343) 3 154 := ⟨by decide +kernel, rfl⟩
theorem dX10_mixPapers_154 : ml_d cX10_mixPapers 154 (.aload 6) 2 156 := ⟨by decide +kernel, rfl⟩
theorem dX10_mixPapers_156 : ml_d cX10_mixPapers 156 (.getfield 315) 3 159 := ⟨by decide +kernel, rfl⟩
theorem dX10_mixPapers_159 : ml_d cX10_mixPapers 159 (.arraylength) 1 160 := ⟨by decide +kernel, rfl⟩
theorem dX10_mixPapers_160 : ml_d cX10_mixPapers 160 (.iconst 2) 1 161 := ⟨by decide +kernel, rfl⟩
theorem dX10_mixPapers_161 : ml_d cX10_mixPapers 161 (.idiv) 1 162 := ⟨by decide +kernel, rfl⟩
theorem dX10_mixPapers_162 : ml_d cX10_mixPapers 162 (.invokestatic 343) 3 165 := ⟨by decide +kernel, rfl⟩
theorem dX10_mixPapers_165 : ml_d cX10_mixPapers 165 (.lstore_n 3) 1 166 := ⟨by decide +kernel, rfl⟩
theorem dX10_mixPapers_166 : ml_d cX10_mixPapers 166 (.aload 6) 2 168 := ⟨by decide +kernel, rfl⟩
theorem dX10_mixPapers_168 : ml_d cX10_mixPapers 168 (.getfield 315) 3 171 := ⟨by decide +kernel, rfl⟩
theorem dX10_mixPapers_171 : ml_d cX10_mixPapers 171 (.astore 7) 2 173 := ⟨by decide +kernel, rfl⟩
theorem dX10_mixPapers_173 : ml_d cX10_mixPapers 173 (.aload 7) 2 175 := ⟨by decide +kernel, rfl⟩
theorem dX10_mixPapers_175 : ml_d cX10_mixPapers 175 (.arraylength) 1 176 := ⟨by decide +kernel, rfl⟩
theorem dX10_mixPapers_176 : ml_d cX10_mixPapers 176 (.istore 8) 2 178 := ⟨by decide +kernel, rfl⟩
theorem dX10_mixPapers_178 : ml_d cX10_mixPapers 178 (.iconst 0) 1 179 := ⟨by decide +kernel, rfl⟩
theorem dX10_mixPapers_179 : ml_d cX10_mixPapers 179 (.istore 9) 2 181 := ⟨by decide +kernel, rfl⟩
theorem dX10_mixPapers_181 : ml_d cX10_mixPapers 181 (.iload 9) 2 183 := ⟨by decide +kernel, rfl⟩
theorem dX10_mixPapers_183 : ml_d cX10_mixPapers 183 (.iload 8) 2 185 := ⟨by decide +kernel, rfl⟩
theorem dX10_mixPapers_185 : ml_j cX10_mixPapers 185 (.if_icmp .ge) 208 188 := ⟨23, by decide +kernel, by decide, rfl⟩
theorem dX10_mixPapers_188 : ml_d cX10_mixPapers 188 (.aload 7) 2 190 := ⟨by decide +kernel, rfl⟩
theorem dX10_mixPapers_190 : ml_d cX10_mixPapers 190 (.iload 9) 2 192 := ⟨by decide +kernel, rfl⟩
theorem dX10_mixPapers_192 : ml_d cX10_mixPapers 192 (.iaload) 1 193 := ⟨by decide +kernel, rfl⟩
theorem dX10_mixPapers_193 : ml_d cX10_mixPapers 193 (.istore 10) 2 195 := ⟨by decide +kernel, rfl⟩
theorem dX10_mixPapers_195 : ml_d cX10_mixPapers 195 (.lload_n 3) 1 196 := ⟨by decide +kernel, rfl⟩
theorem dX10_mixPapers_196 : ml_d cX10_mixPapers 196 (.iload 10) 2 198 := ⟨by decide +kernel, rfl⟩
theorem dX10_mixPapers_198 : ml_d cX10_mixPapers 198 (.invokestatic 343) 3 201 := ⟨by decide +kernel, rfl⟩
theorem dX10_mixPapers_201 : ml_d cX10_mixPapers 201 (.lstore_n 3) 1 202 := ⟨by decide +kernel, rfl⟩
theorem dX10_mixPapers_202 : ml_d cX10_mixPapers 202 (.iinc 9 1) 3 205 := ⟨by decide +kernel, rfl⟩
theorem dX10_mixPapers_205 : ml_j cX10_mixPapers 205 .goto 181 208 := ⟨(-24), by decide +kernel, by decide, rfl⟩
theorem dX10_mixPapers_208 : ml_d cX10_mixPapers 208 (.iinc 5 1) 3 211 := ⟨by decide +kernel, rfl⟩
theorem dX10_mixPapers_211 : ml_j cX10_mixPapers 211 .goto 119 214 := ⟨(-92), by decide +kernel, by decide, rfl⟩
theorem dX10_mixPapers_214 : ml_d cX10_mixPapers 214 (.lload_n 3) 1 215 := ⟨by decide +kernel, rfl⟩
theorem dX10_mixPapers_215 : ml_d cX10_mixPapers 215 (.lreturn) 1 216 := ⟨by decide +kernel, rfl⟩
def fX10_mixPapers_208 (k119 : Nat → Int64 → Int32 → ml_M → Option Int64) (l0 : Nat) (l3 : Int64) (l5 : Int32) (m : ml_M) : Option Int64 :=
    k119 l0 l3 (l5 + (1 : Int32)) m
theorem vX10_mixPapers_208 {E : ml_E} (hL : ml_eL E = 11) {rv : Int64} {m : ml_M} (hr : ∀ (pc pc' : Nat) (lv : List (Nat × ml_X)), ml_d cX10_mixPapers pc .lreturn 1 pc' → True → ml_V E "LostRoom" cX10_mixPapers 3 false m pc lv [ml_l rv]) {k119 : Nat → Int64 → Int32 → ml_M → Option Int64} (hk119 : ∀ (l0 : Nat) (l3 : Int64) (l5 : Int32), k119 l0 l3 l5 m = some rv → ml_V E "LostRoom" cX10_mixPapers 3 false m 119 [(0, ml_r l0), (3, ml_l l3), (5, ml_i l5)] []) : ∀ (l0 : Nat) (l3 : Int64) (l5 : Int32), fX10_mixPapers_208 k119 l0 l3 l5 m = some rv → ml_V E "LostRoom" cX10_mixPapers 3 false m 208 [(0, ml_r l0), (3, ml_l l3), (5, ml_i l5)] [] := by
  intro l0 l3 l5 h
  unfold fX10_mixPapers_208 at h
  exact ml_iinc (lv' := [(5, ml_i (l5 + (1 : Int32))), (0, ml_r l0), (3, ml_l l3)]) dX10_mixPapers_208 2 rfl (congrArg (l5 + ·) kc_i1) (ml_hn hL rfl) rfl <| ml_goto dX10_mixPapers_211 <| ml_V.sub [1, 2, 0] rfl (hk119 _ _ _ h)
def fX10_mixPapers_181 (k119 : Nat → Int64 → Int32 → ml_M → Option Int64) : Nat → Nat → Int64 → Int32 → Nat → Int32 → Int32 → ml_M → Option Int64
  | 0, _, _, _, _, _, _, _ => none
  | fu + 1, l0, l3, l5, l7, l8, l9, m =>
    if l8 ≤ l9 then
    fX10_mixPapers_208 k119 l0 l3 l5 m
    else
    if ml_in m l7 20 l9 then
    ml_let (ml_I m l7 l9.toNatClampNeg) fun x3953 =>
    ml_b1 (fX10_mix l3 x3953 m) fun r3955 =>
    (fX10_mixPapers_181 k119 fu) l0 r3955 l5 l7 l8 (l9 + (1 : Int32)) m
    else none
theorem vX10_mixPapers_181 {E : ml_E} (hL : ml_eL E = 11) {rv : Int64} {m : ml_M} (hr : ∀ (pc pc' : Nat) (lv : List (Nat × ml_X)), ml_d cX10_mixPapers pc .lreturn 1 pc' → True → ml_V E "LostRoom" cX10_mixPapers 3 false m pc lv [ml_l rv]) {k119 : Nat → Int64 → Int32 → ml_M → Option Int64} (hk119 : ∀ (l0 : Nat) (l3 : Int64) (l5 : Int32), k119 l0 l3 l5 m = some rv → ml_V E "LostRoom" cX10_mixPapers 3 false m 119 [(0, ml_r l0), (3, ml_l l3), (5, ml_i l5)] []) : ∀ (fu : Nat) (l0 : Nat) (l3 : Int64) (l5 : Int32) (l7 : Nat) (l8 : Int32) (l9 : Int32), fX10_mixPapers_181 k119 fu l0 l3 l5 l7 l8 l9 m = some rv → ml_V E "LostRoom" cX10_mixPapers 3 false m 181 [(0, ml_r l0), (3, ml_l l3), (5, ml_i l5), (7, ml_r l7), (8, ml_i l8), (9, ml_i l9)] [] := by
  intro fu
  induction fu with
  | zero => intro l0 l3 l5 l7 l8 l9 h; exact ml_none h
  | succ fu ih =>
    intro l0 l3 l5 l7 l8 l9 h
    have hk181 := ih
    unfold fX10_mixPapers_181 at h
    exact ml_iload dX10_mixPapers_181 5 rfl <| ml_iload dX10_mixPapers_183 4 rfl <| ml_icmp_ge dX10_mixPapers_185 h (fun _ h => ml_V.sub [0, 1, 2] rfl (vX10_mixPapers_208 hL hr hk119 _ _ _ h)) (fun _ h => ml_aload dX10_mixPapers_188 3 rfl <| ml_iload dX10_mixPapers_190 5 rfl <| ml_ck_of h fun hi3952 h => ml_iald dX10_mixPapers_192 hi3952 <| ml_lx (mk := ml_i) h fun x3953 h => ml_istore (lv' := [(10, ml_i x3953), (0, ml_r l0), (3, ml_l l3), (5, ml_i l5), (7, ml_r l7), (8, ml_i l8), (9, ml_i l9)]) dX10_mixPapers_193 (ml_hn hL rfl) rfl <| ml_lload_n dX10_mixPapers_195 2 rfl <| ml_iload dX10_mixPapers_196 0 rfl <| ml_b1_of h fun r3955 hv3954 h => ml_callS dX10_mixPapers_198 wm_816 wb_492 (sX10_mix hv3954) rfl (Nat.le_of_ble_eq_true rfl) (Nat.le_of_ble_eq_true rfl) rfl <| ml_lstore_n (lv' := [(3, ml_l r3955), (10, ml_i x3953), (0, ml_r l0), (5, ml_i l5), (7, ml_r l7), (8, ml_i l8), (9, ml_i l9)]) dX10_mixPapers_201 (ml_hn hL rfl) rfl <| ml_iinc (lv' := [(9, ml_i (l9 + (1 : Int32))), (3, ml_l r3955), (10, ml_i x3953), (0, ml_r l0), (5, ml_i l5), (7, ml_r l7), (8, ml_i l8)]) dX10_mixPapers_202 6 rfl (congrArg (l9 + ·) kc_i1) (ml_hn hL rfl) rfl <| ml_goto dX10_mixPapers_205 <| ml_V.sub [3, 1, 4, 5, 6, 0] rfl (hk181 _ _ _ _ _ _ h))
def fX10_mixPapers_119 : Nat → Nat → Int64 → Int32 → ml_M → Option Int64
  | 0, _, _, _, _ => none
  | fu + 1, l0, l3, l5, m =>
    if (ml_K m l0).1 = 10 then
    if (ml_I m l0 11) ≤ l5 then
    some l3
    else
    ml_let (ml_R m l0 10) fun a3957 =>
    if ml_in m a3957 26 l5 then
    ml_let (ml_R m a3957 l5.toNatClampNeg) fun a3959 =>
    if (ml_K m a3959).1 = 2 then
    ml_b1 (fX10_mix l3 (ml_I m a3959 0) m) fun r3962 =>
    ml_b1 (fX10_mix r3962 (ml_I m a3959 1) m) fun r3964 =>
    ml_let (ml_R m a3959 2) fun a3965 =>
    if (ml_K m a3965).1 = 20 then
    ml_b1 (fX10_mix r3964 ((Int32.ofNat (ml_K m a3965).2) / (2 : Int32)) m) fun r3968 =>
    ml_let (ml_R m a3959 2) fun a3969 =>
    if (ml_K m a3969).1 = 20 then
    ml_let (Int32.ofNat (ml_K m a3969).2) fun x3971 =>
    fX10_mixPapers_181 (fX10_mixPapers_119 fu) ml_fu l0 r3968 l5 a3969 x3971 (0 : Int32) m
    else none
    else none
    else none
    else none
    else none
theorem vX10_mixPapers_119 {E : ml_E} (hL : ml_eL E = 11) {rv : Int64} {m : ml_M} (hr : ∀ (pc pc' : Nat) (lv : List (Nat × ml_X)), ml_d cX10_mixPapers pc .lreturn 1 pc' → True → ml_V E "LostRoom" cX10_mixPapers 3 false m pc lv [ml_l rv]) : ∀ (fu : Nat) (l0 : Nat) (l3 : Int64) (l5 : Int32), fX10_mixPapers_119 fu l0 l3 l5 m = some rv → ml_V E "LostRoom" cX10_mixPapers 3 false m 119 [(0, ml_r l0), (3, ml_l l3), (5, ml_i l5)] [] := by
  intro fu
  induction fu with
  | zero => intro l0 l3 l5 h; exact ml_none h
  | succ fu ih =>
    intro l0 l3 l5 h
    have hk119 := ih
    unfold fX10_mixPapers_119 at h
    exact ml_iload dX10_mixPapers_119 2 rfl <| ml_aload_n dX10_mixPapers_121 0 rfl <| ml_ck_of h fun hc3956 h => ml_getI dX10_mixPapers_122 wb_471 hc3956 <| ml_icmp_ge dX10_mixPapers_125 h (fun _ h => ml_lload_n dX10_mixPapers_214 1 rfl <| ml_rp (mk := ml_l) hr dX10_mixPapers_215 (fun _ => trivial) h) (fun _ h => ml_aload_n dX10_mixPapers_128 0 rfl <| ml_getR dX10_mixPapers_129 wb_470 hc3956 <| ml_lx (mk := ml_r) h fun a3957 h => ml_iload dX10_mixPapers_132 2 rfl <| ml_ck_of h fun hi3958 h => ml_aald (kd := 26) dX10_mixPapers_134 (by decide) hi3958 <| ml_lx (mk := ml_r) h fun a3959 h => ml_astore (lv' := [(6, ml_r a3959), (0, ml_r l0), (3, ml_l l3), (5, ml_i l5)]) dX10_mixPapers_135 (ml_hn hL rfl) rfl <| ml_lload_n dX10_mixPapers_137 2 rfl <| ml_aload dX10_mixPapers_138 0 rfl <| ml_ck_of h fun hc3960 h => ml_getI dX10_mixPapers_140 wb_482 hc3960 <| ml_b1_of h fun r3962 hv3961 h => ml_callS dX10_mixPapers_143 wm_816 wb_492 (sX10_mix hv3961) rfl (Nat.le_of_ble_eq_true rfl) (Nat.le_of_ble_eq_true rfl) rfl <| ml_aload dX10_mixPapers_146 0 rfl <| ml_getI dX10_mixPapers_148 wb_478 hc3960 <| ml_b1_of h fun r3964 hv3963 h => ml_callS dX10_mixPapers_151 wm_816 wb_492 (sX10_mix hv3963) rfl (Nat.le_of_ble_eq_true rfl) (Nat.le_of_ble_eq_true rfl) rfl <| ml_aload dX10_mixPapers_154 0 rfl <| ml_getR dX10_mixPapers_156 wb_477 hc3960 <| ml_lx (mk := ml_r) h fun a3965 h => ml_ck_of h fun hc3966 h => ml_alen (kd := 20) dX10_mixPapers_159 (by decide) hc3966 <| ml_iconst dX10_mixPapers_160 kc_i2 <| ml_idiv dX10_mixPapers_161 (by decide) <| ml_b1_of h fun r3968 hv3967 h => ml_callS dX10_mixPapers_162 wm_816 wb_492 (sX10_mix hv3967) rfl (Nat.le_of_ble_eq_true rfl) (Nat.le_of_ble_eq_true rfl) rfl <| ml_lstore_n (lv' := [(3, ml_l r3968), (6, ml_r a3959), (0, ml_r l0), (5, ml_i l5)]) dX10_mixPapers_165 (ml_hn hL rfl) rfl <| ml_aload dX10_mixPapers_166 1 rfl <| ml_getR dX10_mixPapers_168 wb_477 hc3960 <| ml_lx (mk := ml_r) h fun a3969 h => ml_astore (lv' := [(7, ml_r a3969), (3, ml_l r3968), (6, ml_r a3959), (0, ml_r l0), (5, ml_i l5)]) dX10_mixPapers_171 (ml_hn hL rfl) rfl <| ml_aload dX10_mixPapers_173 0 rfl <| ml_ck_of h fun hc3970 h => ml_alen (kd := 20) dX10_mixPapers_175 (by decide) hc3970 <| ml_lx (mk := ml_i) h fun x3971 h => ml_istore (lv' := [(8, ml_i x3971), (7, ml_r a3969), (3, ml_l r3968), (6, ml_r a3959), (0, ml_r l0), (5, ml_i l5)]) dX10_mixPapers_176 (ml_hn hL rfl) rfl <| ml_iconst dX10_mixPapers_178 kc_i0 <| ml_istore (lv' := [(9, ml_i (0 : Int32)), (8, ml_i x3971), (7, ml_r a3969), (3, ml_l r3968), (6, ml_r a3959), (0, ml_r l0), (5, ml_i l5)]) dX10_mixPapers_179 (ml_hn hL rfl) rfl <| ml_V.sub [5, 3, 6, 2, 1, 0] rfl (vX10_mixPapers_181 hL hr hk119 ml_fu _ _ _ _ _ _ h))
def fX10_mixPapers_116 (l0 : Nat) (l3 : Int64) (m : ml_M) : Option Int64 :=
    fX10_mixPapers_119 ml_fu l0 l3 (0 : Int32) m
theorem vX10_mixPapers_116 {E : ml_E} (hL : ml_eL E = 11) {rv : Int64} {m : ml_M} (hr : ∀ (pc pc' : Nat) (lv : List (Nat × ml_X)), ml_d cX10_mixPapers pc .lreturn 1 pc' → True → ml_V E "LostRoom" cX10_mixPapers 3 false m pc lv [ml_l rv]) : ∀ (l0 : Nat) (l3 : Int64), fX10_mixPapers_116 l0 l3 m = some rv → ml_V E "LostRoom" cX10_mixPapers 3 false m 116 [(0, ml_r l0), (3, ml_l l3)] [] := by
  intro l0 l3 h
  unfold fX10_mixPapers_116 at h
  exact ml_iconst dX10_mixPapers_116 kc_i0 <| ml_istore (lv' := [(5, ml_i (0 : Int32)), (0, ml_r l0), (3, ml_l l3)]) dX10_mixPapers_117 (ml_hn hL rfl) rfl <| ml_V.sub [1, 2, 0] rfl (vX10_mixPapers_119 hL hr  ml_fu _ _ _ h)
def fX10_mixPapers_58 : Nat → Nat → Int64 → Int32 → ml_M → Option Int64
  | 0, _, _, _, _ => none
  | fu + 1, l0, l3, l5, m =>
    if (ml_K m l0).1 = 10 then
    if (ml_I m l0 9) ≤ l5 then
    fX10_mixPapers_116 l0 l3 m
    else
    ml_let (ml_R m l0 8) fun a3973 =>
    if ml_in m a3973 25 l5 then
    ml_let (ml_R m a3973 l5.toNatClampNeg) fun a3975 =>
    if (ml_K m a3975).1 = 0 then
    ml_b1 (fX10_mix l3 (ml_I m a3975 0) m) fun r3978 =>
    ml_b1 (fX10_mix r3978 (ml_I m a3975 1) m) fun r3980 =>
    ml_b1 (fX10_mix r3980 (ml_I m a3975 2) m) fun r3982 =>
    ml_b1 (fX10_mix r3982 (ml_I m a3975 3) m) fun r3984 =>
    (fX10_mixPapers_58 fu) l0 r3984 (l5 + (1 : Int32)) m
    else none
    else none
    else none
theorem vX10_mixPapers_58 {E : ml_E} (hL : ml_eL E = 11) {rv : Int64} {m : ml_M} (hr : ∀ (pc pc' : Nat) (lv : List (Nat × ml_X)), ml_d cX10_mixPapers pc .lreturn 1 pc' → True → ml_V E "LostRoom" cX10_mixPapers 3 false m pc lv [ml_l rv]) : ∀ (fu : Nat) (l0 : Nat) (l3 : Int64) (l5 : Int32), fX10_mixPapers_58 fu l0 l3 l5 m = some rv → ml_V E "LostRoom" cX10_mixPapers 3 false m 58 [(0, ml_r l0), (3, ml_l l3), (5, ml_i l5)] [] := by
  intro fu
  induction fu with
  | zero => intro l0 l3 l5 h; exact ml_none h
  | succ fu ih =>
    intro l0 l3 l5 h
    have hk58 := ih
    unfold fX10_mixPapers_58 at h
    exact ml_iload dX10_mixPapers_58 2 rfl <| ml_aload_n dX10_mixPapers_60 0 rfl <| ml_ck_of h fun hc3972 h => ml_getI dX10_mixPapers_61 wb_400 hc3972 <| ml_icmp_ge dX10_mixPapers_64 h (fun _ h => ml_V.sub [0, 1] rfl (vX10_mixPapers_116 hL hr  _ _ h)) (fun _ h => ml_aload_n dX10_mixPapers_67 0 rfl <| ml_getR dX10_mixPapers_68 wb_401 hc3972 <| ml_lx (mk := ml_r) h fun a3973 h => ml_iload dX10_mixPapers_71 2 rfl <| ml_ck_of h fun hi3974 h => ml_aald (kd := 25) dX10_mixPapers_73 (by decide) hi3974 <| ml_lx (mk := ml_r) h fun a3975 h => ml_astore (lv' := [(6, ml_r a3975), (0, ml_r l0), (3, ml_l l3), (5, ml_i l5)]) dX10_mixPapers_74 (ml_hn hL rfl) rfl <| ml_lload_n dX10_mixPapers_76 2 rfl <| ml_aload dX10_mixPapers_77 0 rfl <| ml_ck_of h fun hc3976 h => ml_getI dX10_mixPapers_79 wb_493 hc3976 <| ml_b1_of h fun r3978 hv3977 h => ml_callS dX10_mixPapers_82 wm_816 wb_492 (sX10_mix hv3977) rfl (Nat.le_of_ble_eq_true rfl) (Nat.le_of_ble_eq_true rfl) rfl <| ml_aload dX10_mixPapers_85 0 rfl <| ml_getI dX10_mixPapers_87 wb_494 hc3976 <| ml_b1_of h fun r3980 hv3979 h => ml_callS dX10_mixPapers_90 wm_816 wb_492 (sX10_mix hv3979) rfl (Nat.le_of_ble_eq_true rfl) (Nat.le_of_ble_eq_true rfl) rfl <| ml_aload dX10_mixPapers_93 0 rfl <| ml_getI dX10_mixPapers_95 wb_495 hc3976 <| ml_b1_of h fun r3982 hv3981 h => ml_callS dX10_mixPapers_98 wm_816 wb_492 (sX10_mix hv3981) rfl (Nat.le_of_ble_eq_true rfl) (Nat.le_of_ble_eq_true rfl) rfl <| ml_aload dX10_mixPapers_101 0 rfl <| ml_getI dX10_mixPapers_103 wb_496 hc3976 <| ml_b1_of h fun r3984 hv3983 h => ml_callS dX10_mixPapers_106 wm_816 wb_492 (sX10_mix hv3983) rfl (Nat.le_of_ble_eq_true rfl) (Nat.le_of_ble_eq_true rfl) rfl <| ml_lstore_n (lv' := [(3, ml_l r3984), (6, ml_r a3975), (0, ml_r l0), (5, ml_i l5)]) dX10_mixPapers_109 (ml_hn hL rfl) rfl <| ml_iinc (lv' := [(5, ml_i (l5 + (1 : Int32))), (3, ml_l r3984), (6, ml_r a3975), (0, ml_r l0)]) dX10_mixPapers_110 3 rfl (congrArg (l5 + ·) kc_i1) (ml_hn hL rfl) rfl <| ml_goto dX10_mixPapers_113 <| ml_V.sub [3, 1, 0] rfl (hk58 _ _ _ h))
def fX10_mixPapers_55 (l0 : Nat) (l3 : Int64) (m : ml_M) : Option Int64 :=
    fX10_mixPapers_58 ml_fu l0 l3 (0 : Int32) m
theorem vX10_mixPapers_55 {E : ml_E} (hL : ml_eL E = 11) {rv : Int64} {m : ml_M} (hr : ∀ (pc pc' : Nat) (lv : List (Nat × ml_X)), ml_d cX10_mixPapers pc .lreturn 1 pc' → True → ml_V E "LostRoom" cX10_mixPapers 3 false m pc lv [ml_l rv]) : ∀ (l0 : Nat) (l3 : Int64), fX10_mixPapers_55 l0 l3 m = some rv → ml_V E "LostRoom" cX10_mixPapers 3 false m 55 [(0, ml_r l0), (3, ml_l l3)] [] := by
  intro l0 l3 h
  unfold fX10_mixPapers_55 at h
  exact ml_iconst dX10_mixPapers_55 kc_i0 <| ml_istore (lv' := [(5, ml_i (0 : Int32)), (0, ml_r l0), (3, ml_l l3)]) dX10_mixPapers_56 (ml_hn hL rfl) rfl <| ml_V.sub [1, 2, 0] rfl (vX10_mixPapers_58 hL hr  ml_fu _ _ _ h)
def fX10_mixPapers_5 : Nat → Nat → Int64 → Int32 → ml_M → Option Int64
  | 0, _, _, _, _ => none
  | fu + 1, l0, l3, l5, m =>
    if (ml_K m l0).1 = 10 then
    if (ml_I m l0 7) ≤ l5 then
    fX10_mixPapers_55 l0 l3 m
    else
    ml_let (ml_R m l0 6) fun a3986 =>
    if ml_in m a3986 27 l5 then
    ml_let (ml_R m a3986 l5.toNatClampNeg) fun a3988 =>
    if (ml_K m a3988).1 = 5 then
    ml_b1 (fX10_mix l3 (ml_I m a3988 0) m) fun r3991 =>
    ml_b1 (fX10_mix r3991 (ml_I m a3988 1) m) fun r3993 =>
    ml_b1 (fX10_mix r3993 (ml_I m a3988 2) m) fun r3995 =>
    (fX10_mixPapers_5 fu) l0 r3995 (l5 + (1 : Int32)) m
    else none
    else none
    else none
theorem vX10_mixPapers_5 {E : ml_E} (hL : ml_eL E = 11) {rv : Int64} {m : ml_M} (hr : ∀ (pc pc' : Nat) (lv : List (Nat × ml_X)), ml_d cX10_mixPapers pc .lreturn 1 pc' → True → ml_V E "LostRoom" cX10_mixPapers 3 false m pc lv [ml_l rv]) : ∀ (fu : Nat) (l0 : Nat) (l3 : Int64) (l5 : Int32), fX10_mixPapers_5 fu l0 l3 l5 m = some rv → ml_V E "LostRoom" cX10_mixPapers 3 false m 5 [(0, ml_r l0), (3, ml_l l3), (5, ml_i l5)] [] := by
  intro fu
  induction fu with
  | zero => intro l0 l3 l5 h; exact ml_none h
  | succ fu ih =>
    intro l0 l3 l5 h
    have hk5 := ih
    unfold fX10_mixPapers_5 at h
    exact ml_iload dX10_mixPapers_5 2 rfl <| ml_aload_n dX10_mixPapers_7 0 rfl <| ml_ck_of h fun hc3985 h => ml_getI dX10_mixPapers_8 wb_380 hc3985 <| ml_icmp_ge dX10_mixPapers_11 h (fun _ h => ml_V.sub [0, 1] rfl (vX10_mixPapers_55 hL hr  _ _ h)) (fun _ h => ml_aload_n dX10_mixPapers_14 0 rfl <| ml_getR dX10_mixPapers_15 wb_381 hc3985 <| ml_lx (mk := ml_r) h fun a3986 h => ml_iload dX10_mixPapers_18 2 rfl <| ml_ck_of h fun hi3987 h => ml_aald (kd := 27) dX10_mixPapers_20 (by decide) hi3987 <| ml_lx (mk := ml_r) h fun a3988 h => ml_astore (lv' := [(6, ml_r a3988), (0, ml_r l0), (3, ml_l l3), (5, ml_i l5)]) dX10_mixPapers_21 (ml_hn hL rfl) rfl <| ml_lload_n dX10_mixPapers_23 2 rfl <| ml_aload dX10_mixPapers_24 0 rfl <| ml_ck_of h fun hc3989 h => ml_getI dX10_mixPapers_26 wb_386 hc3989 <| ml_b1_of h fun r3991 hv3990 h => ml_callS dX10_mixPapers_29 wm_816 wb_492 (sX10_mix hv3990) rfl (Nat.le_of_ble_eq_true rfl) (Nat.le_of_ble_eq_true rfl) rfl <| ml_aload dX10_mixPapers_32 0 rfl <| ml_getI dX10_mixPapers_34 wb_387 hc3989 <| ml_b1_of h fun r3993 hv3992 h => ml_callS dX10_mixPapers_37 wm_816 wb_492 (sX10_mix hv3992) rfl (Nat.le_of_ble_eq_true rfl) (Nat.le_of_ble_eq_true rfl) rfl <| ml_aload dX10_mixPapers_40 0 rfl <| ml_getI dX10_mixPapers_42 wb_388 hc3989 <| ml_b1_of h fun r3995 hv3994 h => ml_callS dX10_mixPapers_45 wm_816 wb_492 (sX10_mix hv3994) rfl (Nat.le_of_ble_eq_true rfl) (Nat.le_of_ble_eq_true rfl) rfl <| ml_lstore_n (lv' := [(3, ml_l r3995), (6, ml_r a3988), (0, ml_r l0), (5, ml_i l5)]) dX10_mixPapers_48 (ml_hn hL rfl) rfl <| ml_iinc (lv' := [(5, ml_i (l5 + (1 : Int32))), (3, ml_l r3995), (6, ml_r a3988), (0, ml_r l0)]) dX10_mixPapers_49 3 rfl (congrArg (l5 + ·) kc_i1) (ml_hn hL rfl) rfl <| ml_goto dX10_mixPapers_52 <| ml_V.sub [3, 1, 0] rfl (hk5 _ _ _ h))
def fX10_mixPapers (l0 : Nat) (l1 : Int64) (m : ml_M) : Option Int64 :=
    fX10_mixPapers_5 ml_fu l0 l1 (0 : Int32) m
theorem wX10_mixPapers_0 {E : ml_E} (hL : ml_eL E = 11) {rv : Int64} {m : ml_M} (hr : ∀ (pc pc' : Nat) (lv : List (Nat × ml_X)), ml_d cX10_mixPapers pc .lreturn 1 pc' → True → ml_V E "LostRoom" cX10_mixPapers 3 false m pc lv [ml_l rv]) : ∀ (l0 : Nat) (l1 : Int64), fX10_mixPapers l0 l1 m = some rv → ml_V E "LostRoom" cX10_mixPapers 3 false m 0 [(0, ml_r l0), (1, ml_l l1)] [] := by
  intro l0 l1 h
  unfold fX10_mixPapers at h
  exact ml_lload_n dX10_mixPapers_0 1 rfl <| ml_lstore_n (lv' := [(3, ml_l l1), (0, ml_r l0), (1, ml_l l1)]) dX10_mixPapers_1 (ml_hn hL rfl) rfl <| ml_iconst dX10_mixPapers_2 kc_i0 <| ml_istore (lv' := [(5, ml_i (0 : Int32)), (3, ml_l l1), (0, ml_r l0), (1, ml_l l1)]) dX10_mixPapers_3 (ml_hn hL rfl) rfl <| ml_V.sub [2, 1, 0] rfl (vX10_mixPapers_5 hL hr  ml_fu _ _ _ h)
theorem sX10_mixPapers {l0 : Nat} {l1 : Int64} {m : ml_M} {rv : Int64} (h : fX10_mixPapers l0 l1 m = some rv) : ml_Sn yX10_mixPapers cX10_mixPapers 11 (some .long) 3 [ml_r l0, ml_l l1] m (some (ml_l rv)) m :=
  ml_Sn_of (P := True) (ini := false) (by decide +kernel) (Nat.le_of_ble_eq_true rfl) (fun h => by cases h) (fun _ => ml_RkJ rv) fun E hL hr => wX10_mixPapers_0 hL hr _ _ h
theorem dX10_mixRows_0 : ml_d cX10_mixRows 0 (.lload_n 1) 1 1 := ⟨by decide +kernel, rfl⟩
theorem dX10_mixRows_1 : ml_d cX10_mixRows 1 (.lstore_n 3) 1 2 := ⟨by decide +kernel, rfl⟩
theorem dX10_mixRows_2 : ml_d cX10_mixRows 2 (.iconst 0) 1 3 := ⟨by decide +kernel, rfl⟩
theorem dX10_mixRows_3 : ml_d cX10_mixRows 3 (.istore 5) 2 5 := ⟨by decide +kernel, rfl⟩
theorem dX10_mixRows_5 : ml_d cX10_mixRows 5 (.iload 5) 2 7 := ⟨by decide +kernel, rfl⟩
theorem dX10_mixRows_7 : ml_d cX10_mixRows 7 (.bipush 6) 2 9 := ⟨by decide +kernel, rfl⟩
theorem dX10_mixRows_9 : ml_j cX10_mixRows 9 (.if_icmp .ge) 91 12 := ⟨82, by decide +kernel, by decide, rfl⟩
theorem dX10_mixRows_12 : ml_d cX10_mixRows 12 (.aload_n 0) 1 13 := ⟨by decide +kernel, rfl⟩
theorem dX10_mixRows_13 : ml_d cX10_mixRows 13 (.getfield 11) 3 16 := ⟨by decide +kernel, rfl⟩
theorem dX10_mixRows_16 : ml_d cX10_mixRows 16 (.iload 5) 2 18 := ⟨by decide +kernel, rfl⟩
theorem dX10_mixRows_18 : ml_d cX10_mixRows 18 (.aaload) 1 19 := ⟨by decide +kernel, rfl⟩
theorem dX10_mixRows_19 : ml_d cX10_mixRows 19 (.astore 6) 2 21 := ⟨by decide +kernel, rfl⟩
theorem dX10_mixRows_21 : ml_d cX10_mixRows 21 (.lload_n 3) 1 22 := ⟨by decide +kernel, rfl⟩
theorem dX10_mixRows_22 : ml_d cX10_mixRows 22 (.aload 6) 2 24 := ⟨by decide +kernel, rfl⟩
theorem dX10_mixRows_24 : ml_j cX10_mixRows 24 .ifnonnull 31 27 := ⟨7, by decide +kernel, by decide, rfl⟩
theorem dX10_mixRows_27 : ml_d cX10_mixRows 27 (.iconst (-1)) 1 28 := ⟨by decide +kernel, rfl⟩
theorem dX10_mixRows_28 : ml_j cX10_mixRows 28 .goto 34 31 := ⟨6, by decide +kernel, by decide, rfl⟩
theorem dX10_mixRows_31 : ml_d cX10_mixRows 31 (.aload 6) 2 33 := ⟨by decide +kernel, rfl⟩
theorem dX10_mixRows_33 : ml_d cX10_mixRows 33 (.arraylength) 1 34 := ⟨by decide +kernel, rfl⟩
theorem dX10_mixRows_34 : ml_d cX10_mixRows 34 (.invokestatic 343) 3 37 := ⟨by decide +kernel, rfl⟩
theorem dX10_mixRows_37 : ml_d cX10_mixRows 37 (.lstore_n 3) 1 38 := ⟨by decide +kernel, rfl⟩
theorem dX10_mixRows_38 : ml_d cX10_mixRows 38 (.aload 6) 2 40 := ⟨by decide +kernel, rfl⟩
theorem dX10_mixRows_40 : ml_j cX10_mixRows 40 .ifnonnull 46 43 := ⟨6, by decide +kernel, by decide, rfl⟩
theorem dX10_mixRows_43 : ml_j cX10_mixRows 43 .goto 85 46 := ⟨42, by decide +kernel, by decide, rfl⟩
theorem dX10_mixRows_46 : ml_d cX10_mixRows 46 (.aload 6) 2 48 := ⟨by decide +kernel, rfl⟩
theorem dX10_mixRows_48 : ml_d cX10_mixRows 48 (.astore 7) 2 50 := ⟨by decide +kernel, rfl⟩
theorem dX10_mixRows_50 : ml_d cX10_mixRows 50 (.aload 7) 2 52 := ⟨by decide +kernel, rfl⟩
theorem dX10_mixRows_52 : ml_d cX10_mixRows 52 (.arraylength) 1 53 := ⟨by decide +kernel, rfl⟩
theorem dX10_mixRows_53 : ml_d cX10_mixRows 53 (.istore 8) 2 55 := ⟨by decide +kernel, rfl⟩
theorem dX10_mixRows_55 : ml_d cX10_mixRows 55 (.iconst 0) 1 56 := ⟨by decide +kernel, rfl⟩
theorem dX10_mixRows_56 : ml_d cX10_mixRows 56 (.istore 9) 2 58 := ⟨by decide +kernel, rfl⟩
theorem dX10_mixRows_58 : ml_d cX10_mixRows 58 (.iload 9) 2 60 := ⟨by decide +kernel, rfl⟩
theorem dX10_mixRows_60 : ml_d cX10_mixRows 60 (.iload 8) 2 62 := ⟨by decide +kernel, rfl⟩
theorem dX10_mixRows_62 : ml_j cX10_mixRows 62 (.if_icmp .ge) 85 65 := ⟨23, by decide +kernel, by decide, rfl⟩
theorem dX10_mixRows_65 : ml_d cX10_mixRows 65 (.aload 7) 2 67 := ⟨by decide +kernel, rfl⟩
theorem dX10_mixRows_67 : ml_d cX10_mixRows 67 (.iload 9) 2 69 := ⟨by decide +kernel, rfl⟩
theorem dX10_mixRows_69 : ml_d cX10_mixRows 69 (.iaload) 1 70 := ⟨by decide +kernel, rfl⟩
theorem dX10_mixRows_70 : ml_d cX10_mixRows 70 (.istore 10) 2 72 := ⟨by decide +kernel, rfl⟩
theorem dX10_mixRows_72 : ml_d cX10_mixRows 72 (.lload_n 3) 1 73 := ⟨by decide +kernel, rfl⟩
theorem dX10_mixRows_73 : ml_d cX10_mixRows 73 (.iload 10) 2 75 := ⟨by decide +kernel, rfl⟩
theorem dX10_mixRows_75 : ml_d cX10_mixRows 75 (.invokestatic 343) 3 78 := ⟨by decide +kernel, rfl⟩
theorem dX10_mixRows_78 : ml_d cX10_mixRows 78 (.lstore_n 3) 1 79 := ⟨by decide +kernel, rfl⟩
theorem dX10_mixRows_79 : ml_d cX10_mixRows 79 (.iinc 9 1) 3 82 := ⟨by decide +kernel, rfl⟩
theorem dX10_mixRows_82 : ml_j cX10_mixRows 82 .goto 58 85 := ⟨(-24), by decide +kernel, by decide, rfl⟩
theorem dX10_mixRows_85 : ml_d cX10_mixRows 85 (.iinc 5 1) 3 88 := ⟨by decide +kernel, rfl⟩
theorem dX10_mixRows_88 : ml_j cX10_mixRows 88 .goto 5 91 := ⟨(-83), by decide +kernel, by decide, rfl⟩
theorem dX10_mixRows_91 : ml_d cX10_mixRows 91 (.iconst 0) 1 92 := ⟨by decide +kernel, rfl⟩
theorem dX10_mixRows_92 : ml_d cX10_mixRows 92 (.istore 5) 2 94 := ⟨by decide +kernel, rfl⟩
theorem dX10_mixRows_94 : ml_d cX10_mixRows 94 (.iload 5) 2 96 := ⟨by decide +kernel, rfl⟩
theorem dX10_mixRows_96 : ml_d cX10_mixRows 96 (.iconst 4) 1 97 := ⟨by decide +kernel, rfl⟩
theorem dX10_mixRows_97 : ml_j cX10_mixRows 97 (.if_icmp .ge) 179 100 := ⟨82, by decide +kernel, by decide, rfl⟩
theorem dX10_mixRows_100 : ml_d cX10_mixRows 100 (.aload_n 0) 1 101 := ⟨by decide +kernel, rfl⟩
theorem dX10_mixRows_101 : ml_d cX10_mixRows 101 (.getfield 17) 3 104 := ⟨by decide +kernel, rfl⟩
theorem dX10_mixRows_104 : ml_d cX10_mixRows 104 (.iload 5) 2 106 := ⟨by decide +kernel, rfl⟩
theorem dX10_mixRows_106 : ml_d cX10_mixRows 106 (.aaload) 1 107 := ⟨by decide +kernel, rfl⟩
theorem dX10_mixRows_107 : ml_d cX10_mixRows 107 (.astore 6) 2 109 := ⟨by decide +kernel, rfl⟩
theorem dX10_mixRows_109 : ml_d cX10_mixRows 109 (.lload_n 3) 1 110 := ⟨by decide +kernel, rfl⟩
theorem dX10_mixRows_110 : ml_d cX10_mixRows 110 (.aload 6) 2 112 := ⟨by decide +kernel, rfl⟩
theorem dX10_mixRows_112 : ml_j cX10_mixRows 112 .ifnonnull 119 115 := ⟨7, by decide +kernel, by decide, rfl⟩
theorem dX10_mixRows_115 : ml_d cX10_mixRows 115 (.iconst (-1)) 1 116 := ⟨by decide +kernel, rfl⟩
theorem dX10_mixRows_116 : ml_j cX10_mixRows 116 .goto 122 119 := ⟨6, by decide +kernel, by decide, rfl⟩
theorem dX10_mixRows_119 : ml_d cX10_mixRows 119 (.aload 6) 2 121 := ⟨by decide +kernel, rfl⟩
theorem dX10_mixRows_121 : ml_d cX10_mixRows 121 (.arraylength) 1 122 := ⟨by decide +kernel, rfl⟩
theorem dX10_mixRows_122 : ml_d cX10_mixRows 122 (.invokestatic 343) 3 125 := ⟨by decide +kernel, rfl⟩
theorem dX10_mixRows_125 : ml_d cX10_mixRows 125 (.lstore_n 3) 1 126 := ⟨by decide +kernel, rfl⟩
theorem dX10_mixRows_126 : ml_d cX10_mixRows 126 (.aload 6) 2 128 := ⟨by decide +kernel, rfl⟩
theorem dX10_mixRows_128 : ml_j cX10_mixRows 128 .ifnonnull 134 131 := ⟨6, by decide +kernel, by decide, rfl⟩
theorem dX10_mixRows_131 : ml_j cX10_mixRows 131 .goto 173 134 := ⟨42, by decide +kernel, by decide, rfl⟩
theorem dX10_mixRows_134 : ml_d cX10_mixRows 134 (.aload 6) 2 136 := ⟨by decide +kernel, rfl⟩
theorem dX10_mixRows_136 : ml_d cX10_mixRows 136 (.astore 7) 2 138 := ⟨by decide +kernel, rfl⟩
theorem dX10_mixRows_138 : ml_d cX10_mixRows 138 (.aload 7) 2 140 := ⟨by decide +kernel, rfl⟩
theorem dX10_mixRows_140 : ml_d cX10_mixRows 140 (.arraylength) 1 141 := ⟨by decide +kernel, rfl⟩
theorem dX10_mixRows_141 : ml_d cX10_mixRows 141 (.istore 8) 2 143 := ⟨by decide +kernel, rfl⟩
theorem dX10_mixRows_143 : ml_d cX10_mixRows 143 (.iconst 0) 1 144 := ⟨by decide +kernel, rfl⟩
theorem dX10_mixRows_144 : ml_d cX10_mixRows 144 (.istore 9) 2 146 := ⟨by decide +kernel, rfl⟩
theorem dX10_mixRows_146 : ml_d cX10_mixRows 146 (.iload 9) 2 148 := ⟨by decide +kernel, rfl⟩
theorem dX10_mixRows_148 : ml_d cX10_mixRows 148 (.iload 8) 2 150 := ⟨by decide +kernel, rfl⟩
theorem dX10_mixRows_150 : ml_j cX10_mixRows 150 (.if_icmp .ge) 173 153 := ⟨23, by decide +kernel, by decide, rfl⟩
theorem dX10_mixRows_153 : ml_d cX10_mixRows 153 (.aload 7) 2 155 := ⟨by decide +kernel, rfl⟩
theorem dX10_mixRows_155 : ml_d cX10_mixRows 155 (.iload 9) 2 157 := ⟨by decide +kernel, rfl⟩
theorem dX10_mixRows_157 : ml_d cX10_mixRows 157 (.baload) 1 158 := ⟨by decide +kernel, rfl⟩
theorem dX10_mixRows_158 : ml_d cX10_mixRows 158 (.istore 10) 2 160 := ⟨by decide +kernel, rfl⟩
theorem dX10_mixRows_160 : ml_d cX10_mixRows 160 (.lload_n 3) 1 161 := ⟨by decide +kernel, rfl⟩
theorem dX10_mixRows_161 : ml_d cX10_mixRows 161 (.iload 10) 2 163 := ⟨by decide +kernel, rfl⟩
theorem dX10_mixRows_163 : ml_d cX10_mixRows 163 (.invokestatic 343) 3 166 := ⟨by decide +kernel, rfl⟩
theorem dX10_mixRows_166 : ml_d cX10_mixRows 166 (.lstore_n 3) 1 167 := ⟨by decide +kernel, rfl⟩
theorem dX10_mixRows_167 : ml_d cX10_mixRows 167 (.iinc 9 1) 3 170 := ⟨by decide +kernel, rfl⟩
theorem dX10_mixRows_170 : ml_j cX10_mixRows 170 .goto 146 173 := ⟨(-24), by decide +kernel, by decide, rfl⟩
theorem dX10_mixRows_173 : ml_d cX10_mixRows 173 (.iinc 5 1) 3 176 := ⟨by decide +kernel, rfl⟩
theorem dX10_mixRows_176 : ml_j cX10_mixRows 176 .goto 94 179 := ⟨(-82), by decide +kernel, by decide, rfl⟩
theorem dX10_mixRows_179 : ml_d cX10_mixRows 179 (.lload_n 3) 1 180 := ⟨by decide +kernel, rfl⟩
theorem dX10_mixRows_180 : ml_d cX10_mixRows 180 (.lreturn) 1 181 := ⟨by decide +kernel, rfl⟩
def fX10_mixRows_85 (k5 : Nat → Int64 → Int32 → ml_M → Option Int64) (l0 : Nat) (l3 : Int64) (l5 : Int32) (m : ml_M) : Option Int64 :=
    k5 l0 l3 (l5 + (1 : Int32)) m
theorem vX10_mixRows_85 {E : ml_E} (hL : ml_eL E = 11) {rv : Int64} {m : ml_M} (hr : ∀ (pc pc' : Nat) (lv : List (Nat × ml_X)), ml_d cX10_mixRows pc .lreturn 1 pc' → True → ml_V E "LostRoom" cX10_mixRows 3 false m pc lv [ml_l rv]) {k5 : Nat → Int64 → Int32 → ml_M → Option Int64} (hk5 : ∀ (l0 : Nat) (l3 : Int64) (l5 : Int32), k5 l0 l3 l5 m = some rv → ml_V E "LostRoom" cX10_mixRows 3 false m 5 [(0, ml_r l0), (3, ml_l l3), (5, ml_i l5)] []) : ∀ (l0 : Nat) (l3 : Int64) (l5 : Int32), fX10_mixRows_85 k5 l0 l3 l5 m = some rv → ml_V E "LostRoom" cX10_mixRows 3 false m 85 [(0, ml_r l0), (3, ml_l l3), (5, ml_i l5)] [] := by
  intro l0 l3 l5 h
  unfold fX10_mixRows_85 at h
  exact ml_iinc (lv' := [(5, ml_i (l5 + (1 : Int32))), (0, ml_r l0), (3, ml_l l3)]) dX10_mixRows_85 2 rfl (congrArg (l5 + ·) kc_i1) (ml_hn hL rfl) rfl <| ml_goto dX10_mixRows_88 <| ml_V.sub [1, 2, 0] rfl (hk5 _ _ _ h)
def fX10_mixRows_58 (k5 : Nat → Int64 → Int32 → ml_M → Option Int64) : Nat → Nat → Int64 → Int32 → Nat → Int32 → Int32 → ml_M → Option Int64
  | 0, _, _, _, _, _, _, _ => none
  | fu + 1, l0, l3, l5, l7, l8, l9, m =>
    if l8 ≤ l9 then
    fX10_mixRows_85 k5 l0 l3 l5 m
    else
    if ml_in m l7 20 l9 then
    ml_let (ml_I m l7 l9.toNatClampNeg) fun x3997 =>
    ml_b1 (fX10_mix l3 x3997 m) fun r3999 =>
    (fX10_mixRows_58 k5 fu) l0 r3999 l5 l7 l8 (l9 + (1 : Int32)) m
    else none
theorem vX10_mixRows_58 {E : ml_E} (hL : ml_eL E = 11) {rv : Int64} {m : ml_M} (hr : ∀ (pc pc' : Nat) (lv : List (Nat × ml_X)), ml_d cX10_mixRows pc .lreturn 1 pc' → True → ml_V E "LostRoom" cX10_mixRows 3 false m pc lv [ml_l rv]) {k5 : Nat → Int64 → Int32 → ml_M → Option Int64} (hk5 : ∀ (l0 : Nat) (l3 : Int64) (l5 : Int32), k5 l0 l3 l5 m = some rv → ml_V E "LostRoom" cX10_mixRows 3 false m 5 [(0, ml_r l0), (3, ml_l l3), (5, ml_i l5)] []) : ∀ (fu : Nat) (l0 : Nat) (l3 : Int64) (l5 : Int32) (l7 : Nat) (l8 : Int32) (l9 : Int32), fX10_mixRows_58 k5 fu l0 l3 l5 l7 l8 l9 m = some rv → ml_V E "LostRoom" cX10_mixRows 3 false m 58 [(0, ml_r l0), (3, ml_l l3), (5, ml_i l5), (7, ml_r l7), (8, ml_i l8), (9, ml_i l9)] [] := by
  intro fu
  induction fu with
  | zero => intro l0 l3 l5 l7 l8 l9 h; exact ml_none h
  | succ fu ih =>
    intro l0 l3 l5 l7 l8 l9 h
    have hk58 := ih
    unfold fX10_mixRows_58 at h
    exact ml_iload dX10_mixRows_58 5 rfl <| ml_iload dX10_mixRows_60 4 rfl <| ml_icmp_ge dX10_mixRows_62 h (fun _ h => ml_V.sub [0, 1, 2] rfl (vX10_mixRows_85 hL hr hk5 _ _ _ h)) (fun _ h => ml_aload dX10_mixRows_65 3 rfl <| ml_iload dX10_mixRows_67 5 rfl <| ml_ck_of h fun hi3996 h => ml_iald dX10_mixRows_69 hi3996 <| ml_lx (mk := ml_i) h fun x3997 h => ml_istore (lv' := [(10, ml_i x3997), (0, ml_r l0), (3, ml_l l3), (5, ml_i l5), (7, ml_r l7), (8, ml_i l8), (9, ml_i l9)]) dX10_mixRows_70 (ml_hn hL rfl) rfl <| ml_lload_n dX10_mixRows_72 2 rfl <| ml_iload dX10_mixRows_73 0 rfl <| ml_b1_of h fun r3999 hv3998 h => ml_callS dX10_mixRows_75 wm_816 wb_492 (sX10_mix hv3998) rfl (Nat.le_of_ble_eq_true rfl) (Nat.le_of_ble_eq_true rfl) rfl <| ml_lstore_n (lv' := [(3, ml_l r3999), (10, ml_i x3997), (0, ml_r l0), (5, ml_i l5), (7, ml_r l7), (8, ml_i l8), (9, ml_i l9)]) dX10_mixRows_78 (ml_hn hL rfl) rfl <| ml_iinc (lv' := [(9, ml_i (l9 + (1 : Int32))), (3, ml_l r3999), (10, ml_i x3997), (0, ml_r l0), (5, ml_i l5), (7, ml_r l7), (8, ml_i l8)]) dX10_mixRows_79 6 rfl (congrArg (l9 + ·) kc_i1) (ml_hn hL rfl) rfl <| ml_goto dX10_mixRows_82 <| ml_V.sub [3, 1, 4, 5, 6, 0] rfl (hk58 _ _ _ _ _ _ h))
def fX10_mixRows_34 (k5 : Nat → Int64 → Int32 → ml_M → Option Int64) (l0 : Nat) (l5 : Int32) (l6 : Nat) (t0 : Int32) (t1 : Int64) (m : ml_M) : Option Int64 :=
    ml_b1 (fX10_mix t1 t0 m) fun r4001 =>
    if l6 = 0 then
    fX10_mixRows_85 k5 l0 r4001 l5 m
    else
    if (ml_K m l6).1 = 20 then
    ml_let (Int32.ofNat (ml_K m l6).2) fun x4003 =>
    fX10_mixRows_58 k5 ml_fu l0 r4001 l5 l6 x4003 (0 : Int32) m
    else none
theorem vX10_mixRows_34 {E : ml_E} (hL : ml_eL E = 11) {rv : Int64} {m : ml_M} (hr : ∀ (pc pc' : Nat) (lv : List (Nat × ml_X)), ml_d cX10_mixRows pc .lreturn 1 pc' → True → ml_V E "LostRoom" cX10_mixRows 3 false m pc lv [ml_l rv]) {k5 : Nat → Int64 → Int32 → ml_M → Option Int64} (hk5 : ∀ (l0 : Nat) (l3 : Int64) (l5 : Int32), k5 l0 l3 l5 m = some rv → ml_V E "LostRoom" cX10_mixRows 3 false m 5 [(0, ml_r l0), (3, ml_l l3), (5, ml_i l5)] []) : ∀ (l0 : Nat) (l5 : Int32) (l6 : Nat) (t0 : Int32) (t1 : Int64), fX10_mixRows_34 k5 l0 l5 l6 t0 t1 m = some rv → ml_V E "LostRoom" cX10_mixRows 3 false m 34 [(0, ml_r l0), (5, ml_i l5), (6, ml_r l6)] [ml_i t0, ml_l t1] := by
  intro l0 l5 l6 t0 t1 h
  unfold fX10_mixRows_34 at h
  exact ml_b1_of h fun r4001 hv4000 h => ml_callS dX10_mixRows_34 wm_816 wb_492 (sX10_mix hv4000) rfl (Nat.le_of_ble_eq_true rfl) (Nat.le_of_ble_eq_true rfl) rfl <| ml_lstore_n (lv' := [(3, ml_l r4001), (0, ml_r l0), (5, ml_i l5), (6, ml_r l6)]) dX10_mixRows_37 (ml_hn hL rfl) rfl <| ml_aload dX10_mixRows_38 3 rfl <| ml_ifnonnull dX10_mixRows_40 h (fun _ h => ml_aload dX10_mixRows_46 3 rfl <| ml_astore (lv' := [(7, ml_r l6), (3, ml_l r4001), (0, ml_r l0), (5, ml_i l5), (6, ml_r l6)]) dX10_mixRows_48 (ml_hn hL rfl) rfl <| ml_aload dX10_mixRows_50 0 rfl <| ml_ck_of h fun hc4002 h => ml_alen (kd := 20) dX10_mixRows_52 (by decide) hc4002 <| ml_lx (mk := ml_i) h fun x4003 h => ml_istore (lv' := [(8, ml_i x4003), (7, ml_r l6), (3, ml_l r4001), (0, ml_r l0), (5, ml_i l5), (6, ml_r l6)]) dX10_mixRows_53 (ml_hn hL rfl) rfl <| ml_iconst dX10_mixRows_55 kc_i0 <| ml_istore (lv' := [(9, ml_i (0 : Int32)), (8, ml_i x4003), (7, ml_r l6), (3, ml_l r4001), (0, ml_r l0), (5, ml_i l5), (6, ml_r l6)]) dX10_mixRows_56 (ml_hn hL rfl) rfl <| ml_V.sub [4, 3, 5, 2, 1, 0] rfl (vX10_mixRows_58 hL hr hk5 ml_fu _ _ _ _ _ _ h)) (fun _ h => ml_goto dX10_mixRows_43 <| ml_V.sub [1, 0, 2] rfl (vX10_mixRows_85 hL hr hk5 _ _ _ h))
def fX10_mixRows_173 (k94 : Nat → Int64 → Int32 → ml_M → Option Int64) (l0 : Nat) (l3 : Int64) (l5 : Int32) (m : ml_M) : Option Int64 :=
    k94 l0 l3 (l5 + (1 : Int32)) m
theorem vX10_mixRows_173 {E : ml_E} (hL : ml_eL E = 11) {rv : Int64} {m : ml_M} (hr : ∀ (pc pc' : Nat) (lv : List (Nat × ml_X)), ml_d cX10_mixRows pc .lreturn 1 pc' → True → ml_V E "LostRoom" cX10_mixRows 3 false m pc lv [ml_l rv]) {k94 : Nat → Int64 → Int32 → ml_M → Option Int64} (hk94 : ∀ (l0 : Nat) (l3 : Int64) (l5 : Int32), k94 l0 l3 l5 m = some rv → ml_V E "LostRoom" cX10_mixRows 3 false m 94 [(0, ml_r l0), (3, ml_l l3), (5, ml_i l5)] []) : ∀ (l0 : Nat) (l3 : Int64) (l5 : Int32), fX10_mixRows_173 k94 l0 l3 l5 m = some rv → ml_V E "LostRoom" cX10_mixRows 3 false m 173 [(0, ml_r l0), (3, ml_l l3), (5, ml_i l5)] [] := by
  intro l0 l3 l5 h
  unfold fX10_mixRows_173 at h
  exact ml_iinc (lv' := [(5, ml_i (l5 + (1 : Int32))), (0, ml_r l0), (3, ml_l l3)]) dX10_mixRows_173 2 rfl (congrArg (l5 + ·) kc_i1) (ml_hn hL rfl) rfl <| ml_goto dX10_mixRows_176 <| ml_V.sub [1, 2, 0] rfl (hk94 _ _ _ h)
def fX10_mixRows_146 (k94 : Nat → Int64 → Int32 → ml_M → Option Int64) : Nat → Nat → Int64 → Int32 → Nat → Int32 → Int32 → ml_M → Option Int64
  | 0, _, _, _, _, _, _, _ => none
  | fu + 1, l0, l3, l5, l7, l8, l9, m =>
    if l8 ≤ l9 then
    fX10_mixRows_173 k94 l0 l3 l5 m
    else
    if ml_in m l7 21 l9 then
    ml_let (ml_I m l7 l9.toNatClampNeg) fun x4005 =>
    ml_b1 (fX10_mix l3 x4005 m) fun r4007 =>
    (fX10_mixRows_146 k94 fu) l0 r4007 l5 l7 l8 (l9 + (1 : Int32)) m
    else none
theorem vX10_mixRows_146 {E : ml_E} (hL : ml_eL E = 11) {rv : Int64} {m : ml_M} (hr : ∀ (pc pc' : Nat) (lv : List (Nat × ml_X)), ml_d cX10_mixRows pc .lreturn 1 pc' → True → ml_V E "LostRoom" cX10_mixRows 3 false m pc lv [ml_l rv]) {k94 : Nat → Int64 → Int32 → ml_M → Option Int64} (hk94 : ∀ (l0 : Nat) (l3 : Int64) (l5 : Int32), k94 l0 l3 l5 m = some rv → ml_V E "LostRoom" cX10_mixRows 3 false m 94 [(0, ml_r l0), (3, ml_l l3), (5, ml_i l5)] []) : ∀ (fu : Nat) (l0 : Nat) (l3 : Int64) (l5 : Int32) (l7 : Nat) (l8 : Int32) (l9 : Int32), fX10_mixRows_146 k94 fu l0 l3 l5 l7 l8 l9 m = some rv → ml_V E "LostRoom" cX10_mixRows 3 false m 146 [(0, ml_r l0), (3, ml_l l3), (5, ml_i l5), (7, ml_r l7), (8, ml_i l8), (9, ml_i l9)] [] := by
  intro fu
  induction fu with
  | zero => intro l0 l3 l5 l7 l8 l9 h; exact ml_none h
  | succ fu ih =>
    intro l0 l3 l5 l7 l8 l9 h
    have hk146 := ih
    unfold fX10_mixRows_146 at h
    exact ml_iload dX10_mixRows_146 5 rfl <| ml_iload dX10_mixRows_148 4 rfl <| ml_icmp_ge dX10_mixRows_150 h (fun _ h => ml_V.sub [0, 1, 2] rfl (vX10_mixRows_173 hL hr hk94 _ _ _ h)) (fun _ h => ml_aload dX10_mixRows_153 3 rfl <| ml_iload dX10_mixRows_155 5 rfl <| ml_ck_of h fun hi4004 h => ml_bald dX10_mixRows_157 hi4004 <| ml_lx (mk := ml_i) h fun x4005 h => ml_istore (lv' := [(10, ml_i x4005), (0, ml_r l0), (3, ml_l l3), (5, ml_i l5), (7, ml_r l7), (8, ml_i l8), (9, ml_i l9)]) dX10_mixRows_158 (ml_hn hL rfl) rfl <| ml_lload_n dX10_mixRows_160 2 rfl <| ml_iload dX10_mixRows_161 0 rfl <| ml_b1_of h fun r4007 hv4006 h => ml_callS dX10_mixRows_163 wm_816 wb_492 (sX10_mix hv4006) rfl (Nat.le_of_ble_eq_true rfl) (Nat.le_of_ble_eq_true rfl) rfl <| ml_lstore_n (lv' := [(3, ml_l r4007), (10, ml_i x4005), (0, ml_r l0), (5, ml_i l5), (7, ml_r l7), (8, ml_i l8), (9, ml_i l9)]) dX10_mixRows_166 (ml_hn hL rfl) rfl <| ml_iinc (lv' := [(9, ml_i (l9 + (1 : Int32))), (3, ml_l r4007), (10, ml_i x4005), (0, ml_r l0), (5, ml_i l5), (7, ml_r l7), (8, ml_i l8)]) dX10_mixRows_167 6 rfl (congrArg (l9 + ·) kc_i1) (ml_hn hL rfl) rfl <| ml_goto dX10_mixRows_170 <| ml_V.sub [3, 1, 4, 5, 6, 0] rfl (hk146 _ _ _ _ _ _ h))
def fX10_mixRows_122 (k94 : Nat → Int64 → Int32 → ml_M → Option Int64) (l0 : Nat) (l5 : Int32) (l6 : Nat) (t0 : Int32) (t1 : Int64) (m : ml_M) : Option Int64 :=
    ml_b1 (fX10_mix t1 t0 m) fun r4009 =>
    if l6 = 0 then
    fX10_mixRows_173 k94 l0 r4009 l5 m
    else
    if (ml_K m l6).1 = 21 then
    ml_let (Int32.ofNat (ml_K m l6).2) fun x4011 =>
    fX10_mixRows_146 k94 ml_fu l0 r4009 l5 l6 x4011 (0 : Int32) m
    else none
theorem vX10_mixRows_122 {E : ml_E} (hL : ml_eL E = 11) {rv : Int64} {m : ml_M} (hr : ∀ (pc pc' : Nat) (lv : List (Nat × ml_X)), ml_d cX10_mixRows pc .lreturn 1 pc' → True → ml_V E "LostRoom" cX10_mixRows 3 false m pc lv [ml_l rv]) {k94 : Nat → Int64 → Int32 → ml_M → Option Int64} (hk94 : ∀ (l0 : Nat) (l3 : Int64) (l5 : Int32), k94 l0 l3 l5 m = some rv → ml_V E "LostRoom" cX10_mixRows 3 false m 94 [(0, ml_r l0), (3, ml_l l3), (5, ml_i l5)] []) : ∀ (l0 : Nat) (l5 : Int32) (l6 : Nat) (t0 : Int32) (t1 : Int64), fX10_mixRows_122 k94 l0 l5 l6 t0 t1 m = some rv → ml_V E "LostRoom" cX10_mixRows 3 false m 122 [(0, ml_r l0), (5, ml_i l5), (6, ml_r l6)] [ml_i t0, ml_l t1] := by
  intro l0 l5 l6 t0 t1 h
  unfold fX10_mixRows_122 at h
  exact ml_b1_of h fun r4009 hv4008 h => ml_callS dX10_mixRows_122 wm_816 wb_492 (sX10_mix hv4008) rfl (Nat.le_of_ble_eq_true rfl) (Nat.le_of_ble_eq_true rfl) rfl <| ml_lstore_n (lv' := [(3, ml_l r4009), (0, ml_r l0), (5, ml_i l5), (6, ml_r l6)]) dX10_mixRows_125 (ml_hn hL rfl) rfl <| ml_aload dX10_mixRows_126 3 rfl <| ml_ifnonnull dX10_mixRows_128 h (fun _ h => ml_aload dX10_mixRows_134 3 rfl <| ml_astore (lv' := [(7, ml_r l6), (3, ml_l r4009), (0, ml_r l0), (5, ml_i l5), (6, ml_r l6)]) dX10_mixRows_136 (ml_hn hL rfl) rfl <| ml_aload dX10_mixRows_138 0 rfl <| ml_ck_of h fun hc4010 h => ml_alen (kd := 21) dX10_mixRows_140 (by decide) hc4010 <| ml_lx (mk := ml_i) h fun x4011 h => ml_istore (lv' := [(8, ml_i x4011), (7, ml_r l6), (3, ml_l r4009), (0, ml_r l0), (5, ml_i l5), (6, ml_r l6)]) dX10_mixRows_141 (ml_hn hL rfl) rfl <| ml_iconst dX10_mixRows_143 kc_i0 <| ml_istore (lv' := [(9, ml_i (0 : Int32)), (8, ml_i x4011), (7, ml_r l6), (3, ml_l r4009), (0, ml_r l0), (5, ml_i l5), (6, ml_r l6)]) dX10_mixRows_144 (ml_hn hL rfl) rfl <| ml_V.sub [4, 3, 5, 2, 1, 0] rfl (vX10_mixRows_146 hL hr hk94 ml_fu _ _ _ _ _ _ h)) (fun _ h => ml_goto dX10_mixRows_131 <| ml_V.sub [1, 0, 2] rfl (vX10_mixRows_173 hL hr hk94 _ _ _ h))
def fX10_mixRows_94 : Nat → Nat → Int64 → Int32 → ml_M → Option Int64
  | 0, _, _, _, _ => none
  | fu + 1, l0, l3, l5, m =>
    if (4 : Int32) ≤ l5 then
    some l3
    else
    if (ml_K m l0).1 = 10 then
    ml_let (ml_R m l0 1) fun a4013 =>
    if ml_in m a4013 24 l5 then
    ml_let (ml_R m a4013 l5.toNatClampNeg) fun a4015 =>
    if a4015 = 0 then
    fX10_mixRows_122 (fX10_mixRows_94 fu) l0 l5 a4015 (-1 : Int32) l3 m
    else
    if (ml_K m a4015).1 = 21 then
    fX10_mixRows_122 (fX10_mixRows_94 fu) l0 l5 a4015 (Int32.ofNat (ml_K m a4015).2) l3 m
    else none
    else none
    else none
theorem vX10_mixRows_94 {E : ml_E} (hL : ml_eL E = 11) {rv : Int64} {m : ml_M} (hr : ∀ (pc pc' : Nat) (lv : List (Nat × ml_X)), ml_d cX10_mixRows pc .lreturn 1 pc' → True → ml_V E "LostRoom" cX10_mixRows 3 false m pc lv [ml_l rv]) : ∀ (fu : Nat) (l0 : Nat) (l3 : Int64) (l5 : Int32), fX10_mixRows_94 fu l0 l3 l5 m = some rv → ml_V E "LostRoom" cX10_mixRows 3 false m 94 [(0, ml_r l0), (3, ml_l l3), (5, ml_i l5)] [] := by
  intro fu
  induction fu with
  | zero => intro l0 l3 l5 h; exact ml_none h
  | succ fu ih =>
    intro l0 l3 l5 h
    have hk94 := ih
    unfold fX10_mixRows_94 at h
    exact ml_iload dX10_mixRows_94 2 rfl <| ml_iconst dX10_mixRows_96 kc_i4 <| ml_icmp_ge dX10_mixRows_97 h (fun _ h => ml_lload_n dX10_mixRows_179 1 rfl <| ml_rp (mk := ml_l) hr dX10_mixRows_180 (fun _ => trivial) h) (fun _ h => ml_aload_n dX10_mixRows_100 0 rfl <| ml_ck_of h fun hc4012 h => ml_getR dX10_mixRows_101 wb_116 hc4012 <| ml_lx (mk := ml_r) h fun a4013 h => ml_iload dX10_mixRows_104 2 rfl <| ml_ck_of h fun hi4014 h => ml_aald (kd := 24) dX10_mixRows_106 (by decide) hi4014 <| ml_lx (mk := ml_r) h fun a4015 h => ml_astore (lv' := [(6, ml_r a4015), (0, ml_r l0), (3, ml_l l3), (5, ml_i l5)]) dX10_mixRows_107 (ml_hn hL rfl) rfl <| ml_lload_n dX10_mixRows_109 2 rfl <| ml_aload dX10_mixRows_110 0 rfl <| ml_ifnonnull dX10_mixRows_112 h (fun _ h => ml_aload dX10_mixRows_119 0 rfl <| ml_ck_of h fun hc4016 h => ml_alen (kd := 21) dX10_mixRows_121 (by decide) hc4016 <| ml_V.sub [1, 3, 0] rfl (vX10_mixRows_122 hL hr hk94 _ _ _ _ _ h)) (fun _ h => ml_iconst dX10_mixRows_115 kc_im1 <| ml_goto dX10_mixRows_116 <| ml_V.sub [1, 3, 0] rfl (vX10_mixRows_122 hL hr hk94 _ _ _ _ _ h)))
def fX10_mixRows_91 (l0 : Nat) (l3 : Int64) (m : ml_M) : Option Int64 :=
    fX10_mixRows_94 ml_fu l0 l3 (0 : Int32) m
theorem vX10_mixRows_91 {E : ml_E} (hL : ml_eL E = 11) {rv : Int64} {m : ml_M} (hr : ∀ (pc pc' : Nat) (lv : List (Nat × ml_X)), ml_d cX10_mixRows pc .lreturn 1 pc' → True → ml_V E "LostRoom" cX10_mixRows 3 false m pc lv [ml_l rv]) : ∀ (l0 : Nat) (l3 : Int64), fX10_mixRows_91 l0 l3 m = some rv → ml_V E "LostRoom" cX10_mixRows 3 false m 91 [(0, ml_r l0), (3, ml_l l3)] [] := by
  intro l0 l3 h
  unfold fX10_mixRows_91 at h
  exact ml_iconst dX10_mixRows_91 kc_i0 <| ml_istore (lv' := [(5, ml_i (0 : Int32)), (0, ml_r l0), (3, ml_l l3)]) dX10_mixRows_92 (ml_hn hL rfl) rfl <| ml_V.sub [1, 2, 0] rfl (vX10_mixRows_94 hL hr  ml_fu _ _ _ h)
def fX10_mixRows_5 : Nat → Nat → Int64 → Int32 → ml_M → Option Int64
  | 0, _, _, _, _ => none
  | fu + 1, l0, l3, l5, m =>
    if (6 : Int32) ≤ l5 then
    fX10_mixRows_91 l0 l3 m
    else
    if (ml_K m l0).1 = 10 then
    ml_let (ml_R m l0 0) fun a4018 =>
    if ml_in m a4018 23 l5 then
    ml_let (ml_R m a4018 l5.toNatClampNeg) fun a4020 =>
    if a4020 = 0 then
    fX10_mixRows_34 (fX10_mixRows_5 fu) l0 l5 a4020 (-1 : Int32) l3 m
    else
    if (ml_K m a4020).1 = 20 then
    fX10_mixRows_34 (fX10_mixRows_5 fu) l0 l5 a4020 (Int32.ofNat (ml_K m a4020).2) l3 m
    else none
    else none
    else none
theorem vX10_mixRows_5 {E : ml_E} (hL : ml_eL E = 11) {rv : Int64} {m : ml_M} (hr : ∀ (pc pc' : Nat) (lv : List (Nat × ml_X)), ml_d cX10_mixRows pc .lreturn 1 pc' → True → ml_V E "LostRoom" cX10_mixRows 3 false m pc lv [ml_l rv]) : ∀ (fu : Nat) (l0 : Nat) (l3 : Int64) (l5 : Int32), fX10_mixRows_5 fu l0 l3 l5 m = some rv → ml_V E "LostRoom" cX10_mixRows 3 false m 5 [(0, ml_r l0), (3, ml_l l3), (5, ml_i l5)] [] := by
  intro fu
  induction fu with
  | zero => intro l0 l3 l5 h; exact ml_none h
  | succ fu ih =>
    intro l0 l3 l5 h
    have hk5 := ih
    unfold fX10_mixRows_5 at h
    exact ml_iload dX10_mixRows_5 2 rfl <| ml_bipush dX10_mixRows_7 kc_b6 <| ml_icmp_ge dX10_mixRows_9 h (fun _ h => ml_V.sub [0, 1] rfl (vX10_mixRows_91 hL hr  _ _ h)) (fun _ h => ml_aload_n dX10_mixRows_12 0 rfl <| ml_ck_of h fun hc4017 h => ml_getR dX10_mixRows_13 wb_98 hc4017 <| ml_lx (mk := ml_r) h fun a4018 h => ml_iload dX10_mixRows_16 2 rfl <| ml_ck_of h fun hi4019 h => ml_aald (kd := 23) dX10_mixRows_18 (by decide) hi4019 <| ml_lx (mk := ml_r) h fun a4020 h => ml_astore (lv' := [(6, ml_r a4020), (0, ml_r l0), (3, ml_l l3), (5, ml_i l5)]) dX10_mixRows_19 (ml_hn hL rfl) rfl <| ml_lload_n dX10_mixRows_21 2 rfl <| ml_aload dX10_mixRows_22 0 rfl <| ml_ifnonnull dX10_mixRows_24 h (fun _ h => ml_aload dX10_mixRows_31 0 rfl <| ml_ck_of h fun hc4021 h => ml_alen (kd := 20) dX10_mixRows_33 (by decide) hc4021 <| ml_V.sub [1, 3, 0] rfl (vX10_mixRows_34 hL hr hk5 _ _ _ _ _ h)) (fun _ h => ml_iconst dX10_mixRows_27 kc_im1 <| ml_goto dX10_mixRows_28 <| ml_V.sub [1, 3, 0] rfl (vX10_mixRows_34 hL hr hk5 _ _ _ _ _ h)))
def fX10_mixRows (l0 : Nat) (l1 : Int64) (m : ml_M) : Option Int64 :=
    fX10_mixRows_5 ml_fu l0 l1 (0 : Int32) m
theorem wX10_mixRows_0 {E : ml_E} (hL : ml_eL E = 11) {rv : Int64} {m : ml_M} (hr : ∀ (pc pc' : Nat) (lv : List (Nat × ml_X)), ml_d cX10_mixRows pc .lreturn 1 pc' → True → ml_V E "LostRoom" cX10_mixRows 3 false m pc lv [ml_l rv]) : ∀ (l0 : Nat) (l1 : Int64), fX10_mixRows l0 l1 m = some rv → ml_V E "LostRoom" cX10_mixRows 3 false m 0 [(0, ml_r l0), (1, ml_l l1)] [] := by
  intro l0 l1 h
  unfold fX10_mixRows at h
  exact ml_lload_n dX10_mixRows_0 1 rfl <| ml_lstore_n (lv' := [(3, ml_l l1), (0, ml_r l0), (1, ml_l l1)]) dX10_mixRows_1 (ml_hn hL rfl) rfl <| ml_iconst dX10_mixRows_2 kc_i0 <| ml_istore (lv' := [(5, ml_i (0 : Int32)), (3, ml_l l1), (0, ml_r l0), (1, ml_l l1)]) dX10_mixRows_3 (ml_hn hL rfl) rfl <| ml_V.sub [2, 1, 0] rfl (vX10_mixRows_5 hL hr  ml_fu _ _ _ h)
theorem sX10_mixRows {l0 : Nat} {l1 : Int64} {m : ml_M} {rv : Int64} (h : fX10_mixRows l0 l1 m = some rv) : ml_Sn yX10_mixRows cX10_mixRows 11 (some .long) 3 [ml_r l0, ml_l l1] m (some (ml_l rv)) m :=
  ml_Sn_of (P := True) (ini := false) (by decide +kernel) (Nat.le_of_ble_eq_true rfl) (fun h => by cases h) (fun _ => ml_RkJ rv) fun E hL hr => wX10_mixRows_0 hL hr _ _ h
theorem dX10_digest_0 : ml_d cX10_digest 0 (.ldc2_w 338) 3 3 := ⟨by decide +kernel, rfl⟩
theorem dX10_digest_3 : ml_d cX10_digest 3 (.lstore_n 1) 1 4 := ⟨by decide +kernel, rfl⟩
theorem dX10_digest_4 : ml_d cX10_digest 4 (.iconst 0) 1 5 := ⟨by decide +kernel, rfl⟩
theorem dX10_digest_5 : ml_d cX10_digest 5 (.istore_n 3) 1 6 := ⟨by decide +kernel, rfl⟩
theorem dX10_digest_6 : ml_d cX10_digest 6 (.iload_n 3) 1 7 := ⟨by decide +kernel, rfl⟩
theorem dX10_digest_7 : ml_d cX10_digest 7 (.bipush 8) 2 9 := ⟨by decide +kernel, rfl⟩
theorem dX10_digest_9 : ml_j cX10_digest 9 (.if_icmp .gt) 28 12 := ⟨19, by decide +kernel, by decide, rfl⟩
theorem dX10_digest_12 : ml_d cX10_digest 12 (.lload_n 1) 1 13 := ⟨by decide +kernel, rfl⟩
theorem dX10_digest_13 : ml_d cX10_digest 13 (.aload_n 0) 1 14 := ⟨by decide +kernel, rfl⟩
theorem dX10_digest_14 : ml_d cX10_digest 14 (.iload_n 3) 1 15 := ⟨by decide +kernel, rfl⟩
theorem dX10_digest_15 : ml_d cX10_digest 15 (.invokevirtual 340) 3 18 := ⟨by decide +kernel, rfl⟩
theorem dX10_digest_18 : ml_d cX10_digest 18 (.invokestatic 343) 3 21 := ⟨by decide +kernel, rfl⟩
theorem dX10_digest_21 : ml_d cX10_digest 21 (.lstore_n 1) 1 22 := ⟨by decide +kernel, rfl⟩
theorem dX10_digest_22 : ml_d cX10_digest 22 (.iinc 3 1) 3 25 := ⟨by decide +kernel, rfl⟩
theorem dX10_digest_25 : ml_j cX10_digest 25 .goto 6 28 := ⟨(-19), by decide +kernel, by decide, rfl⟩
theorem dX10_digest_28 : ml_d cX10_digest 28 (.lload_n 1) 1 29 := ⟨by decide +kernel, rfl⟩
theorem dX10_digest_29 : ml_d cX10_digest 29 (.aload_n 0) 1 30 := ⟨by decide +kernel, rfl⟩
theorem dX10_digest_30 : ml_d cX10_digest 30 (.getfield 30) 3 33 := ⟨by decide +kernel, rfl⟩
theorem dX10_digest_33 : ml_d cX10_digest 33 (.invokestatic 343) 3 36 := ⟨by decide +kernel, rfl⟩
theorem dX10_digest_36 : ml_d cX10_digest 36 (.lstore_n 1) 1 37 := ⟨by decide +kernel, rfl⟩
theorem dX10_digest_37 : ml_d cX10_digest 37 (.aload_n 0) 1 38 := ⟨by decide +kernel, rfl⟩
theorem dX10_digest_38 : ml_d cX10_digest 38 (.aload_n 0) 1 39 := ⟨by decide +kernel, rfl⟩
theorem dX10_digest_39 : ml_d cX10_digest 39 (.aload_n 0) 1 40 := ⟨by decide +kernel, rfl⟩
theorem dX10_digest_40 : ml_d cX10_digest 40 (.aload_n 0) 1 41 := ⟨by decide +kernel, rfl⟩
theorem dX10_digest_41 : ml_d cX10_digest 41 (.lload_n 1) 1 42 := ⟨by decide +kernel, rfl⟩
theorem dX10_digest_42 : ml_d cX10_digest 42 (.invokevirtual 347) 3 45 := ⟨by decide +kernel, rfl⟩
theorem dX10_digest_45 : ml_d cX10_digest 45 (.invokevirtual 351) 3 48 := ⟨by decide +kernel, rfl⟩
theorem dX10_digest_48 : ml_d cX10_digest 48 (.invokevirtual 354) 3 51 := ⟨by decide +kernel, rfl⟩
theorem dX10_digest_51 : ml_d cX10_digest 51 (.invokevirtual 357) 3 54 := ⟨by decide +kernel, rfl⟩
theorem dX10_digest_54 : ml_d cX10_digest 54 (.lreturn) 1 55 := ⟨by decide +kernel, rfl⟩
def fX10_digest_28 (l0 : Nat) (l1 : Int64) (m : ml_M) : Option Int64 :=
    if (ml_K m l0).1 = 10 then
    ml_b1 (fX10_mix l1 (ml_I m l0 3) m) fun r4024 =>
    ml_b1 (fX10_mixHouse l0 r4024 m) fun r4026 =>
    ml_b1 (fX10_mixThings l0 r4026 m) fun r4028 =>
    ml_b1 (fX10_mixPapers l0 r4028 m) fun r4030 =>
    ml_b1 (fX10_mixRows l0 r4030 m) fun r4032 =>
    some r4032
    else none
theorem vX10_digest_28 {E : ml_E} (hL : ml_eL E = 4) {rv : Int64} {m : ml_M} (hr : ∀ (pc pc' : Nat) (lv : List (Nat × ml_X)), ml_d cX10_digest pc .lreturn 1 pc' → True → ml_V E "LostRoom" cX10_digest 5 false m pc lv [ml_l rv]) : ∀ (l0 : Nat) (l1 : Int64), fX10_digest_28 l0 l1 m = some rv → ml_V E "LostRoom" cX10_digest 5 false m 28 [(0, ml_r l0), (1, ml_l l1)] [] := by
  intro l0 l1 h
  unfold fX10_digest_28 at h
  exact ml_lload_n dX10_digest_28 1 rfl <| ml_aload_n dX10_digest_29 0 rfl <| ml_ck_of h fun hc4022 h => ml_getI dX10_digest_30 wb_202 hc4022 <| ml_b1_of h fun r4024 hv4023 h => ml_callS dX10_digest_33 wm_816 wb_492 (sX10_mix hv4023) rfl (Nat.le_of_ble_eq_true rfl) (Nat.le_of_ble_eq_true rfl) rfl <| ml_lstore_n (lv' := [(1, ml_l r4024), (0, ml_r l0)]) dX10_digest_36 (ml_hn hL rfl) rfl <| ml_aload_n dX10_digest_37 1 rfl <| ml_aload_n dX10_digest_38 1 rfl <| ml_aload_n dX10_digest_39 1 rfl <| ml_aload_n dX10_digest_40 1 rfl <| ml_lload_n dX10_digest_41 0 rfl <| ml_b1_of h fun r4026 hv4025 h => ml_callV dX10_digest_42 wm_824 wb_497 hc4022 (sX10_mixHouse hv4025) rfl (Nat.le_of_ble_eq_true rfl) (Nat.le_of_ble_eq_true rfl) rfl <| ml_b1_of h fun r4028 hv4027 h => ml_callV dX10_digest_45 wm_828 wb_498 hc4022 (sX10_mixThings hv4027) rfl (Nat.le_of_ble_eq_true rfl) (Nat.le_of_ble_eq_true rfl) rfl <| ml_b1_of h fun r4030 hv4029 h => ml_callV dX10_digest_48 wm_832 wb_499 hc4022 (sX10_mixPapers hv4029) rfl (Nat.le_of_ble_eq_true rfl) (Nat.le_of_ble_eq_true rfl) rfl <| ml_b1_of h fun r4032 hv4031 h => ml_callV dX10_digest_51 wm_836 wb_500 hc4022 (sX10_mixRows hv4031) rfl (Nat.le_of_ble_eq_true rfl) (Nat.le_of_ble_eq_true rfl) rfl <| ml_rp (mk := ml_l) hr dX10_digest_54 (fun _ => trivial) h
def fX10_digest_6 : Nat → Nat → Int64 → Int32 → ml_M → Option Int64
  | 0, _, _, _, _ => none
  | fu + 1, l0, l1, l3, m =>
    if (8 : Int32) < l3 then
    fX10_digest_28 l0 l1 m
    else
    if (ml_K m l0).1 = 10 then
    ml_b1 (fX10_count l0 l3 m) fun r4035 =>
    ml_b1 (fX10_mix l1 r4035 m) fun r4037 =>
    (fX10_digest_6 fu) l0 r4037 (l3 + (1 : Int32)) m
    else none
theorem vX10_digest_6 {E : ml_E} (hL : ml_eL E = 4) {rv : Int64} {m : ml_M} (hr : ∀ (pc pc' : Nat) (lv : List (Nat × ml_X)), ml_d cX10_digest pc .lreturn 1 pc' → True → ml_V E "LostRoom" cX10_digest 5 false m pc lv [ml_l rv]) : ∀ (fu : Nat) (l0 : Nat) (l1 : Int64) (l3 : Int32), fX10_digest_6 fu l0 l1 l3 m = some rv → ml_V E "LostRoom" cX10_digest 5 false m 6 [(0, ml_r l0), (1, ml_l l1), (3, ml_i l3)] [] := by
  intro fu
  induction fu with
  | zero => intro l0 l1 l3 h; exact ml_none h
  | succ fu ih =>
    intro l0 l1 l3 h
    have hk6 := ih
    unfold fX10_digest_6 at h
    exact ml_iload_n dX10_digest_6 2 rfl <| ml_bipush dX10_digest_7 kc_b8 <| ml_icmp_gt dX10_digest_9 h (fun _ h => ml_V.sub [0, 1] rfl (vX10_digest_28 hL hr  _ _ h)) (fun _ h => ml_lload_n dX10_digest_12 1 rfl <| ml_aload_n dX10_digest_13 0 rfl <| ml_iload_n dX10_digest_14 2 rfl <| ml_ck_of h fun hc4034 h => ml_b1_of h fun r4035 hv4033 h => ml_callV dX10_digest_15 wm_840 wb_501 hc4034 (sX10_count hv4033) rfl (Nat.le_of_ble_eq_true rfl) (Nat.le_of_ble_eq_true rfl) rfl <| ml_b1_of h fun r4037 hv4036 h => ml_callS dX10_digest_18 wm_816 wb_492 (sX10_mix hv4036) rfl (Nat.le_of_ble_eq_true rfl) (Nat.le_of_ble_eq_true rfl) rfl <| ml_lstore_n (lv' := [(1, ml_l r4037), (0, ml_r l0), (3, ml_i l3)]) dX10_digest_21 (ml_hn hL rfl) rfl <| ml_iinc (lv' := [(3, ml_i (l3 + (1 : Int32))), (1, ml_l r4037), (0, ml_r l0)]) dX10_digest_22 2 rfl (congrArg (l3 + ·) kc_i1) (ml_hn hL rfl) rfl <| ml_goto dX10_digest_25 <| ml_V.sub [2, 1, 0] rfl (hk6 _ _ _ h))
def fX10_digest (l0 : Nat) (m : ml_M) : Option Int64 :=
    fX10_digest_6 ml_fu l0 (17 : Int64) (0 : Int32) m
theorem wX10_digest_0 {E : ml_E} (hL : ml_eL E = 4) {rv : Int64} {m : ml_M} (hr : ∀ (pc pc' : Nat) (lv : List (Nat × ml_X)), ml_d cX10_digest pc .lreturn 1 pc' → True → ml_V E "LostRoom" cX10_digest 5 false m pc lv [ml_l rv]) : ∀ (l0 : Nat), fX10_digest l0 m = some rv → ml_V E "LostRoom" cX10_digest 5 false m 0 [(0, ml_r l0)] [] := by
  intro l0 h
  unfold fX10_digest at h
  exact ml_ldc2 dX10_digest_0 wm_841 <| ml_lstore_n (lv' := [(1, ml_l (17 : Int64)), (0, ml_r l0)]) dX10_digest_3 (ml_hn hL rfl) rfl <| ml_iconst dX10_digest_4 kc_i0 <| ml_istore_n (lv' := [(3, ml_i (0 : Int32)), (1, ml_l (17 : Int64)), (0, ml_r l0)]) dX10_digest_5 (ml_hn hL rfl) rfl <| ml_V.sub [2, 1, 0] rfl (vX10_digest_6 hL hr  ml_fu _ _ _ h)
theorem sX10_digest {l0 : Nat} {m : ml_M} {rv : Int64} (h : fX10_digest l0 m = some rv) : ml_Sn yX10_digest cX10_digest 4 (some .long) 5 [ml_r l0] m (some (ml_l rv)) m :=
  ml_Sn_of (P := True) (ini := false) (by decide +kernel) (Nat.le_of_ble_eq_true rfl) (fun h => by cases h) (fun _ => ml_RkJ rv) fun E hL hr => wX10_digest_0 hL hr _ h
theorem dX11_mix_0 : ml_d cX11_mix 0 (.aload_n 0) 1 1 := ⟨by decide +kernel, rfl⟩
theorem dX11_mix_1 : ml_d cX11_mix 1 (.ldc2_w 359) 3 4 := ⟨by decide +kernel, rfl⟩
theorem dX11_mix_4 : ml_d cX11_mix 4 (.aload_n 0) 1 5 := ⟨by decide +kernel, rfl⟩
theorem dX11_mix_5 : ml_d cX11_mix 5 (.getfield 361) 3 8 := ⟨by decide +kernel, rfl⟩
theorem dX11_mix_8 : ml_d cX11_mix 8 (.lmul) 1 9 := ⟨by decide +kernel, rfl⟩
theorem dX11_mix_9 : ml_d cX11_mix 9 (.lload_n 1) 1 10 := ⟨by decide +kernel, rfl⟩
theorem dX11_mix_10 : ml_d cX11_mix 10 (.ladd) 1 11 := ⟨by decide +kernel, rfl⟩
theorem dX11_mix_11 : ml_d cX11_mix 11 (.putfield 361) 3 14 := ⟨by decide +kernel, rfl⟩
theorem dX11_mix_14 : ml_d cX11_mix 14 (.return_) 1 15 := ⟨by decide +kernel, rfl⟩
def fX11_mix (l0 : Nat) (l1 : Int64) (m : ml_M) : Option ml_M :=
    if (ml_K m l0).1 = 11 then
    ml_let (ml_sJ m l0 48 (((31 : Int64) * (ml_J m l0 48)) + l1)) fun m4039 =>
    some m4039
    else none
theorem wX11_mix_0 {E : ml_E} (hL : ml_eL E = 3) {rm : ml_M} (hr : ∀ (pc pc' : Nat) (lv : List (Nat × ml_X)), ml_d cX11_mix pc .return_ 1 pc' → True → ml_V E "LostRoomModel" cX11_mix 2 false rm pc lv []) : ∀ (l0 : Nat) (l1 : Int64) (m : ml_M), fX11_mix l0 l1 m = some rm → ml_V E "LostRoomModel" cX11_mix 2 false m 0 [(0, ml_r l0), (1, ml_l l1)] [] := by
  intro l0 l1 m h
  unfold fX11_mix at h
  exact ml_aload_n dX11_mix_0 0 rfl <| ml_ldc2 dX11_mix_1 wm_842 <| ml_aload_n dX11_mix_4 0 rfl <| ml_ck_of h fun hc4038 h => ml_getJ dX11_mix_5 wb_502 hc4038 <| ml_lmul dX11_mix_8 <| ml_lload_n dX11_mix_9 1 rfl <| ml_ladd dX11_mix_10 <| ml_putJ dX11_mix_11 wb_503 hc4038 <| ml_lt (m := m) rfl h fun m4039 em4040 h => ml_rv hr dX11_mix_14 trivial h
theorem sX11_mix {l0 : Nat} {l1 : Int64} {m : ml_M} {rm : ml_M} (h : fX11_mix l0 l1 m = some rm) : ml_Sn yX11_mix cX11_mix 3 none 2 [ml_r l0, ml_l l1] m none rm :=
  ml_Sn_of (P := True) (ini := false) (by decide +kernel) (Nat.le_of_ble_eq_true rfl) (fun h => by cases h) (fun _ => ml_RkV) fun E hL hr => wX11_mix_0 hL hr _ _ _ h
theorem dX11_mixRoom_0 : ml_d cX11_mixRoom 0 (.aload_n 0) 1 1 := ⟨by decide +kernel, rfl⟩
theorem dX11_mixRoom_1 : ml_d cX11_mixRoom 1 (.aload_n 0) 1 2 := ⟨by decide +kernel, rfl⟩
theorem dX11_mixRoom_2 : ml_d cX11_mixRoom 2 (.getfield 93) 3 5 := ⟨by decide +kernel, rfl⟩
theorem dX11_mixRoom_5 : ml_d cX11_mixRoom 5 (.i2l) 1 6 := ⟨by decide +kernel, rfl⟩
theorem dX11_mixRoom_6 : ml_d cX11_mixRoom 6 (.invokevirtual 364) 3 9 := ⟨by decide +kernel, rfl⟩
theorem dX11_mixRoom_9 : ml_d cX11_mixRoom 9 (.iconst 0) 1 10 := ⟨by decide +kernel, rfl⟩
theorem dX11_mixRoom_10 : ml_d cX11_mixRoom 10 (.istore_n 1) 1 11 := ⟨by decide +kernel, rfl⟩
theorem dX11_mixRoom_11 : ml_d cX11_mixRoom 11 (.iload_n 1) 1 12 := ⟨by decide +kernel, rfl⟩
theorem dX11_mixRoom_12 : ml_d cX11_mixRoom 12 (.iconst 5) 1 13 := ⟨by decide +kernel, rfl⟩
theorem dX11_mixRoom_13 : ml_d cX11_mixRoom 13 (.aload_n 0) 1 14 := ⟨by decide +kernel, rfl⟩
theorem dX11_mixRoom_14 : ml_d cX11_mixRoom 14 (.getfield 172) 3 17 := ⟨by decide +kernel, rfl⟩
theorem dX11_mixRoom_17 : ml_d cX11_mixRoom 17 (.imul) 1 18 := ⟨by decide +kernel, rfl⟩
theorem dX11_mixRoom_18 : ml_j cX11_mixRoom 18 (.if_icmp .ge) 38 21 := ⟨20, by decide +kernel, by decide, rfl⟩
theorem dX11_mixRoom_21 : ml_d cX11_mixRoom 21 (.aload_n 0) 1 22 := ⟨by decide +kernel, rfl⟩
theorem dX11_mixRoom_22 : ml_d cX11_mixRoom 22 (.aload_n 0) 1 23 := ⟨by decide +kernel, rfl⟩
theorem dX11_mixRoom_23 : ml_d cX11_mixRoom 23 (.getfield 29) 3 26 := ⟨by decide +kernel, rfl⟩
theorem dX11_mixRoom_26 : ml_d cX11_mixRoom 26 (.iload_n 1) 1 27 := ⟨by decide +kernel, rfl⟩
theorem dX11_mixRoom_27 : ml_d cX11_mixRoom 27 (.iaload) 1 28 := ⟨by decide +kernel, rfl⟩
theorem dX11_mixRoom_28 : ml_d cX11_mixRoom 28 (.i2l) 1 29 := ⟨by decide +kernel, rfl⟩
theorem dX11_mixRoom_29 : ml_d cX11_mixRoom 29 (.invokevirtual 364) 3 32 := ⟨by decide +kernel, rfl⟩
theorem dX11_mixRoom_32 : ml_d cX11_mixRoom 32 (.iinc 1 1) 3 35 := ⟨by decide +kernel, rfl⟩
theorem dX11_mixRoom_35 : ml_j cX11_mixRoom 35 .goto 11 38 := ⟨(-24), by decide +kernel, by decide, rfl⟩
theorem dX11_mixRoom_38 : ml_d cX11_mixRoom 38 (.iconst 0) 1 39 := ⟨by decide +kernel, rfl⟩
theorem dX11_mixRoom_39 : ml_d cX11_mixRoom 39 (.istore_n 1) 1 40 := ⟨by decide +kernel, rfl⟩
theorem dX11_mixRoom_40 : ml_d cX11_mixRoom 40 (.iload_n 1) 1 41 := ⟨by decide +kernel, rfl⟩
theorem dX11_mixRoom_41 : ml_d cX11_mixRoom 41 (.aload_n 0) 1 42 := ⟨by decide +kernel, rfl⟩
theorem dX11_mixRoom_42 : ml_d cX11_mixRoom 42 (.getfield 175) 3 45 := ⟨by decide +kernel, rfl⟩
theorem dX11_mixRoom_45 : ml_j cX11_mixRoom 45 (.if_icmp .ge) 78 48 := ⟨33, by decide +kernel, by decide, rfl⟩
theorem dX11_mixRoom_48 : ml_d cX11_mixRoom 48 (.iconst 0) 1 49 := ⟨by decide +kernel, rfl⟩
theorem dX11_mixRoom_49 : ml_d cX11_mixRoom 49 (.istore_n 2) 1 50 := ⟨by decide +kernel, rfl⟩
theorem dX11_mixRoom_50 : ml_d cX11_mixRoom 50 (.iload_n 2) 1 51 := ⟨by decide +kernel, rfl⟩
theorem dX11_mixRoom_51 : ml_d cX11_mixRoom 51 (.iconst 4) 1 52 := ⟨by decide +kernel, rfl⟩
theorem dX11_mixRoom_52 : ml_j cX11_mixRoom 52 (.if_icmp .ge) 72 55 := ⟨20, by decide +kernel, by decide, rfl⟩
theorem dX11_mixRoom_55 : ml_d cX11_mixRoom 55 (.aload_n 0) 1 56 := ⟨by decide +kernel, rfl⟩
theorem dX11_mixRoom_56 : ml_d cX11_mixRoom 56 (.aload_n 0) 1 57 := ⟨by decide +kernel, rfl⟩
theorem dX11_mixRoom_57 : ml_d cX11_mixRoom 57 (.iload_n 1) 1 58 := ⟨by decide +kernel, rfl⟩
theorem dX11_mixRoom_58 : ml_d cX11_mixRoom 58 (.iload_n 2) 1 59 := ⟨by decide +kernel, rfl⟩
theorem dX11_mixRoom_59 : ml_d cX11_mixRoom 59 (.invokevirtual 202) 3 62 := ⟨by decide +kernel, rfl⟩
theorem dX11_mixRoom_62 : ml_d cX11_mixRoom 62 (.i2l) 1 63 := ⟨by decide +kernel, rfl⟩
theorem dX11_mixRoom_63 : ml_d cX11_mixRoom 63 (.invokevirtual 364) 3 66 := ⟨by decide +kernel, rfl⟩
theorem dX11_mixRoom_66 : ml_d cX11_mixRoom 66 (.iinc 2 1) 3 69 := ⟨by decide +kernel, rfl⟩
theorem dX11_mixRoom_69 : ml_j cX11_mixRoom 69 .goto 50 72 := ⟨(-19), by decide +kernel, by decide, rfl⟩
theorem dX11_mixRoom_72 : ml_d cX11_mixRoom 72 (.iinc 1 1) 3 75 := ⟨by decide +kernel, rfl⟩
theorem dX11_mixRoom_75 : ml_j cX11_mixRoom 75 .goto 40 78 := ⟨(-35), by decide +kernel, by decide, rfl⟩
theorem dX11_mixRoom_78 : ml_d cX11_mixRoom 78 (.iconst 0) 1 79 := ⟨by decide +kernel, rfl⟩
theorem dX11_mixRoom_79 : ml_d cX11_mixRoom 79 (.istore_n 1) 1 80 := ⟨by decide +kernel, rfl⟩
theorem dX11_mixRoom_80 : ml_d cX11_mixRoom 80 (.iload_n 1) 1 81 := ⟨by decide +kernel, rfl⟩
theorem dX11_mixRoom_81 : ml_d cX11_mixRoom 81 (.aload_n 0) 1 82 := ⟨by decide +kernel, rfl⟩
theorem dX11_mixRoom_82 : ml_d cX11_mixRoom 82 (.getfield 181) 3 85 := ⟨by decide +kernel, rfl⟩
theorem dX11_mixRoom_85 : ml_j cX11_mixRoom 85 (.if_icmp .ge) 138 88 := ⟨53, by decide +kernel, by decide, rfl⟩
theorem dX11_mixRoom_88 : ml_d cX11_mixRoom 88 (.iconst 0) 1 89 := ⟨by decide +kernel, rfl⟩
theorem dX11_mixRoom_89 : ml_d cX11_mixRoom 89 (.istore_n 2) 1 90 := ⟨by decide +kernel, rfl⟩
theorem dX11_mixRoom_90 : ml_d cX11_mixRoom 90 (.iload_n 2) 1 91 := ⟨by decide +kernel, rfl⟩
theorem dX11_mixRoom_91 : ml_d cX11_mixRoom 91 (.iconst 5) 1 92 := ⟨by decide +kernel, rfl⟩
theorem dX11_mixRoom_92 : ml_j cX11_mixRoom 92 (.if_icmp .ge) 117 95 := ⟨25, by decide +kernel, by decide, rfl⟩
theorem dX11_mixRoom_95 : ml_d cX11_mixRoom 95 (.aload_n 0) 1 96 := ⟨by decide +kernel, rfl⟩
theorem dX11_mixRoom_96 : ml_d cX11_mixRoom 96 (.aload_n 0) 1 97 := ⟨by decide +kernel, rfl⟩
theorem dX11_mixRoom_97 : ml_d cX11_mixRoom 97 (.getfield 47) 3 100 := ⟨by decide +kernel, rfl⟩
theorem dX11_mixRoom_100 : ml_d cX11_mixRoom 100 (.bipush 7) 2 102 := ⟨by decide +kernel, rfl⟩
theorem dX11_mixRoom_102 : ml_d cX11_mixRoom 102 (.iload_n 1) 1 103 := ⟨by decide +kernel, rfl⟩
theorem dX11_mixRoom_103 : ml_d cX11_mixRoom 103 (.imul) 1 104 := ⟨by decide +kernel, rfl⟩
theorem dX11_mixRoom_104 : ml_d cX11_mixRoom 104 (.iload_n 2) 1 105 := ⟨by decide +kernel, rfl⟩
theorem dX11_mixRoom_105 : ml_d cX11_mixRoom 105 (.iadd) 1 106 := ⟨by decide +kernel, rfl⟩
theorem dX11_mixRoom_106 : ml_d cX11_mixRoom 106 (.iaload) 1 107 := ⟨by decide +kernel, rfl⟩
theorem dX11_mixRoom_107 : ml_d cX11_mixRoom 107 (.i2l) 1 108 := ⟨by decide +kernel, rfl⟩
theorem dX11_mixRoom_108 : ml_d cX11_mixRoom 108 (.invokevirtual 364) 3 111 := ⟨by decide +kernel, rfl⟩
theorem dX11_mixRoom_111 : ml_d cX11_mixRoom 111 (.iinc 2 1) 3 114 := ⟨by decide +kernel, rfl⟩
theorem dX11_mixRoom_114 : ml_j cX11_mixRoom 114 .goto 90 117 := ⟨(-24), by decide +kernel, by decide, rfl⟩
theorem dX11_mixRoom_117 : ml_d cX11_mixRoom 117 (.aload_n 0) 1 118 := ⟨by decide +kernel, rfl⟩
theorem dX11_mixRoom_118 : ml_d cX11_mixRoom 118 (.aload_n 0) 1 119 := ⟨by decide +kernel, rfl⟩
theorem dX11_mixRoom_119 : ml_d cX11_mixRoom 119 (.iload_n 1) 1 120 := ⟨by decide +kernel, rfl⟩
theorem dX11_mixRoom_120 : ml_d cX11_mixRoom 120 (.aload_n 0) 1 121 := ⟨by decide +kernel, rfl⟩
theorem dX11_mixRoom_121 : ml_d cX11_mixRoom 121 (.iload_n 1) 1 122 := ⟨by decide +kernel, rfl⟩
theorem dX11_mixRoom_122 : ml_d cX11_mixRoom 122 (.invokevirtual 220) 3 125 := ⟨by decide +kernel, rfl⟩
theorem dX11_mixRoom_125 : ml_d cX11_mixRoom 125 (.invokevirtual 232) 3 128 := ⟨by decide +kernel, rfl⟩
theorem dX11_mixRoom_128 : ml_d cX11_mixRoom 128 (.i2l) 1 129 := ⟨by decide +kernel, rfl⟩
theorem dX11_mixRoom_129 : ml_d cX11_mixRoom 129 (.invokevirtual 364) 3 132 := ⟨by decide +kernel, rfl⟩
theorem dX11_mixRoom_132 : ml_d cX11_mixRoom 132 (.iinc 1 1) 3 135 := ⟨by decide +kernel, rfl⟩
theorem dX11_mixRoom_135 : ml_j cX11_mixRoom 135 .goto 80 138 := ⟨(-55), by decide +kernel, by decide, rfl⟩
theorem dX11_mixRoom_138 : ml_d cX11_mixRoom 138 (.iconst 0) 1 139 := ⟨by decide +kernel, rfl⟩
theorem dX11_mixRoom_139 : ml_d cX11_mixRoom 139 (.istore_n 1) 1 140 := ⟨by decide +kernel, rfl⟩
theorem dX11_mixRoom_140 : ml_d cX11_mixRoom 140 (.iload_n 1) 1 141 := ⟨by decide +kernel, rfl⟩
theorem dX11_mixRoom_141 : ml_d cX11_mixRoom 141 (.iconst 3) 1 142 := ⟨by decide +kernel, rfl⟩
theorem dX11_mixRoom_142 : ml_d cX11_mixRoom 142 (.aload_n 0) 1 143 := ⟨by decide +kernel, rfl⟩
theorem dX11_mixRoom_143 : ml_d cX11_mixRoom 143 (.getfield 184) 3 146 := ⟨by decide +kernel, rfl⟩
theorem dX11_mixRoom_146 : ml_d cX11_mixRoom 146 (.imul) 1 147 := ⟨by decide +kernel, rfl⟩
theorem dX11_mixRoom_147 : ml_j cX11_mixRoom 147 (.if_icmp .ge) 167 150 := ⟨20, by decide +kernel, by decide, rfl⟩
theorem dX11_mixRoom_150 : ml_d cX11_mixRoom 150 (.aload_n 0) 1 151 := ⟨by decide +kernel, rfl⟩
theorem dX11_mixRoom_151 : ml_d cX11_mixRoom 151 (.aload_n 0) 1 152 := ⟨by decide +kernel, rfl⟩
theorem dX11_mixRoom_152 : ml_d cX11_mixRoom 152 (.getfield 62) 3 155 := ⟨by decide +kernel, rfl⟩
theorem dX11_mixRoom_155 : ml_d cX11_mixRoom 155 (.iload_n 1) 1 156 := ⟨by decide +kernel, rfl⟩
theorem dX11_mixRoom_156 : ml_d cX11_mixRoom 156 (.iaload) 1 157 := ⟨by decide +kernel, rfl⟩
theorem dX11_mixRoom_157 : ml_d cX11_mixRoom 157 (.i2l) 1 158 := ⟨by decide +kernel, rfl⟩
theorem dX11_mixRoom_158 : ml_d cX11_mixRoom 158 (.invokevirtual 364) 3 161 := ⟨by decide +kernel, rfl⟩
theorem dX11_mixRoom_161 : ml_d cX11_mixRoom 161 (.iinc 1 1) 3 164 := ⟨by decide +kernel, rfl⟩
theorem dX11_mixRoom_164 : ml_j cX11_mixRoom 164 .goto 140 167 := ⟨(-24), by decide +kernel, by decide, rfl⟩
theorem dX11_mixRoom_167 : ml_d cX11_mixRoom 167 (.iconst 0) 1 168 := ⟨by decide +kernel, rfl⟩
theorem dX11_mixRoom_168 : ml_d cX11_mixRoom 168 (.istore_n 1) 1 169 := ⟨by decide +kernel, rfl⟩
theorem dX11_mixRoom_169 : ml_d cX11_mixRoom 169 (.iload_n 1) 1 170 := ⟨by decide +kernel, rfl⟩
theorem dX11_mixRoom_170 : ml_d cX11_mixRoom 170 (.iconst 4) 1 171 := ⟨by decide +kernel, rfl⟩
theorem dX11_mixRoom_171 : ml_d cX11_mixRoom 171 (.aload_n 0) 1 172 := ⟨by decide +kernel, rfl⟩
theorem dX11_mixRoom_172 : ml_d cX11_mixRoom 172 (.getfield 187) 3 175 := ⟨by decide +kernel, rfl⟩
theorem dX11_mixRoom_175 : ml_d cX11_mixRoom 175 (.imul) 1 176 := ⟨by decide +kernel, rfl⟩
theorem dX11_mixRoom_176 : ml_j cX11_mixRoom 176 (.if_icmp .ge) 196 179 := ⟨20, by decide +kernel, by decide, rfl⟩
theorem dX11_mixRoom_179 : ml_d cX11_mixRoom 179 (.aload_n 0) 1 180 := ⟨by decide +kernel, rfl⟩
theorem dX11_mixRoom_180 : ml_d cX11_mixRoom 180 (.aload_n 0) 1 181 := ⟨by decide +kernel, rfl⟩
theorem dX11_mixRoom_181 : ml_d cX11_mixRoom 181 (.getfield 68) 3 184 := ⟨by decide +kernel, rfl⟩
theorem dX11_mixRoom_184 : ml_d cX11_mixRoom 184 (.iload_n 1) 1 185 := ⟨by decide +kernel, rfl⟩
theorem dX11_mixRoom_185 : ml_d cX11_mixRoom 185 (.iaload) 1 186 := ⟨by decide +kernel, rfl⟩
theorem dX11_mixRoom_186 : ml_d cX11_mixRoom 186 (.i2l) 1 187 := ⟨by decide +kernel, rfl⟩
theorem dX11_mixRoom_187 : ml_d cX11_mixRoom 187 (.invokevirtual 364) 3 190 := ⟨by decide +kernel, rfl⟩
theorem dX11_mixRoom_190 : ml_d cX11_mixRoom 190 (.iinc 1 1) 3 193 := ⟨by decide +kernel, rfl⟩
theorem dX11_mixRoom_193 : ml_j cX11_mixRoom 193 .goto 169 196 := ⟨(-24), by decide +kernel, by decide, rfl⟩
theorem dX11_mixRoom_196 : ml_d cX11_mixRoom 196 (.iconst 0) 1 197 := ⟨by decide +kernel, rfl⟩
theorem dX11_mixRoom_197 : ml_d cX11_mixRoom 197 (.istore_n 1) 1 198 := ⟨by decide +kernel, rfl⟩
theorem dX11_mixRoom_198 : ml_d cX11_mixRoom 198 (.iload_n 1) 1 199 := ⟨by decide +kernel, rfl⟩
theorem dX11_mixRoom_199 : ml_d cX11_mixRoom 199 (.aload_n 0) 1 200 := ⟨by decide +kernel, rfl⟩
theorem dX11_mixRoom_200 : ml_d cX11_mixRoom 200 (.getfield 190) 3 203 := ⟨by decide +kernel, rfl⟩
theorem dX11_mixRoom_203 : ml_j cX11_mixRoom 203 (.if_icmp .ge) 255 206 := ⟨52, by decide +kernel, by decide, rfl⟩
theorem dX11_mixRoom_206 : ml_d cX11_mixRoom 206 (.iconst 0) 1 207 := ⟨by decide +kernel, rfl⟩
theorem dX11_mixRoom_207 : ml_d cX11_mixRoom 207 (.istore_n 2) 1 208 := ⟨by decide +kernel, rfl⟩
theorem dX11_mixRoom_208 : ml_d cX11_mixRoom 208 (.iload_n 2) 1 209 := ⟨by decide +kernel, rfl⟩
theorem dX11_mixRoom_209 : ml_d cX11_mixRoom 209 (.iconst 3) 1 210 := ⟨by decide +kernel, rfl⟩
theorem dX11_mixRoom_210 : ml_d cX11_mixRoom 210 (.iconst 2) 1 211 := ⟨by decide +kernel, rfl⟩
theorem dX11_mixRoom_211 : ml_d cX11_mixRoom 211 (.aload_n 0) 1 212 := ⟨by decide +kernel, rfl⟩
theorem dX11_mixRoom_212 : ml_d cX11_mixRoom 212 (.getfield 90) 3 215 := ⟨by decide +kernel, rfl⟩
theorem dX11_mixRoom_215 : ml_d cX11_mixRoom 215 (.bipush 51) 2 217 := ⟨by decide +kernel, rfl⟩
theorem dX11_mixRoom_217 : ml_d cX11_mixRoom 217 (.iload_n 1) 1 218 := ⟨by decide +kernel, rfl⟩
theorem dX11_mixRoom_218 : ml_d cX11_mixRoom 218 (.imul) 1 219 := ⟨by decide +kernel, rfl⟩
theorem dX11_mixRoom_219 : ml_d cX11_mixRoom 219 (.iconst 2) 1 220 := ⟨by decide +kernel, rfl⟩
theorem dX11_mixRoom_220 : ml_d cX11_mixRoom 220 (.iadd) 1 221 := ⟨by decide +kernel, rfl⟩
theorem dX11_mixRoom_221 : ml_d cX11_mixRoom 221 (.iaload) 1 222 := ⟨by decide +kernel, rfl⟩
theorem dX11_mixRoom_222 : ml_d cX11_mixRoom 222 (.imul) 1 223 := ⟨by decide +kernel, rfl⟩
theorem dX11_mixRoom_223 : ml_d cX11_mixRoom 223 (.iadd) 1 224 := ⟨by decide +kernel, rfl⟩
theorem dX11_mixRoom_224 : ml_j cX11_mixRoom 224 (.if_icmp .ge) 249 227 := ⟨25, by decide +kernel, by decide, rfl⟩
theorem dX11_mixRoom_227 : ml_d cX11_mixRoom 227 (.aload_n 0) 1 228 := ⟨by decide +kernel, rfl⟩
theorem dX11_mixRoom_228 : ml_d cX11_mixRoom 228 (.aload_n 0) 1 229 := ⟨by decide +kernel, rfl⟩
theorem dX11_mixRoom_229 : ml_d cX11_mixRoom 229 (.getfield 90) 3 232 := ⟨by decide +kernel, rfl⟩
theorem dX11_mixRoom_232 : ml_d cX11_mixRoom 232 (.bipush 51) 2 234 := ⟨by decide +kernel, rfl⟩
theorem dX11_mixRoom_234 : ml_d cX11_mixRoom 234 (.iload_n 1) 1 235 := ⟨by decide +kernel, rfl⟩
theorem dX11_mixRoom_235 : ml_d cX11_mixRoom 235 (.imul) 1 236 := ⟨by decide +kernel, rfl⟩
theorem dX11_mixRoom_236 : ml_d cX11_mixRoom 236 (.iload_n 2) 1 237 := ⟨by decide +kernel, rfl⟩
theorem dX11_mixRoom_237 : ml_d cX11_mixRoom 237 (.iadd) 1 238 := ⟨by decide +kernel, rfl⟩
theorem dX11_mixRoom_238 : ml_d cX11_mixRoom 238 (.iaload) 1 239 := ⟨by decide +kernel, rfl⟩
theorem dX11_mixRoom_239 : ml_d cX11_mixRoom 239 (.i2l) 1 240 := ⟨by decide +kernel, rfl⟩
theorem dX11_mixRoom_240 : ml_d cX11_mixRoom 240 (.invokevirtual 364) 3 243 := ⟨by decide +kernel, rfl⟩
theorem dX11_mixRoom_243 : ml_d cX11_mixRoom 243 (.iinc 2 1) 3 246 := ⟨by decide +kernel, rfl⟩
theorem dX11_mixRoom_246 : ml_j cX11_mixRoom 246 .goto 208 249 := ⟨(-38), by decide +kernel, by decide, rfl⟩
theorem dX11_mixRoom_249 : ml_d cX11_mixRoom 249 (.iinc 1 1) 3 252 := ⟨by decide +kernel, rfl⟩
theorem dX11_mixRoom_252 : ml_j cX11_mixRoom 252 .goto 198 255 := ⟨(-54), by decide +kernel, by decide, rfl⟩
theorem dX11_mixRoom_255 : ml_d cX11_mixRoom 255 (.return_) 1 256 := ⟨by decide +kernel, rfl⟩
def fX11_mixRoom_72 (k40 : Nat → Int32 → ml_M → Option ml_M) (l0 : Nat) (l1 : Int32) (m : ml_M) : Option ml_M :=
    k40 l0 (l1 + (1 : Int32)) m
theorem vX11_mixRoom_72 {E : ml_E} (hL : ml_eL E = 3) {rm : ml_M} (hr : ∀ (pc pc' : Nat) (lv : List (Nat × ml_X)), ml_d cX11_mixRoom pc .return_ 1 pc' → True → ml_V E "LostRoomModel" cX11_mixRoom 5 false rm pc lv []) {k40 : Nat → Int32 → ml_M → Option ml_M} (hk40 : ∀ (l0 : Nat) (l1 : Int32) (m : ml_M), k40 l0 l1 m = some rm → ml_V E "LostRoomModel" cX11_mixRoom 5 false m 40 [(0, ml_r l0), (1, ml_i l1)] []) : ∀ (l0 : Nat) (l1 : Int32) (m : ml_M), fX11_mixRoom_72 k40 l0 l1 m = some rm → ml_V E "LostRoomModel" cX11_mixRoom 5 false m 72 [(0, ml_r l0), (1, ml_i l1)] [] := by
  intro l0 l1 m h
  unfold fX11_mixRoom_72 at h
  exact ml_iinc (lv' := [(1, ml_i (l1 + (1 : Int32))), (0, ml_r l0)]) dX11_mixRoom_72 1 rfl (congrArg (l1 + ·) kc_i1) (ml_hn hL rfl) rfl <| ml_goto dX11_mixRoom_75 <| ml_V.sub [1, 0] rfl (hk40 _ _ _ h)
def fX11_mixRoom_50 (k40 : Nat → Int32 → ml_M → Option ml_M) : Nat → Nat → Int32 → Int32 → ml_M → Option ml_M
  | 0, _, _, _, _ => none
  | fu + 1, l0, l1, l2, m =>
    if (4 : Int32) ≤ l2 then
    fX11_mixRoom_72 k40 l0 l1 m
    else
    if (ml_K m l0).1 = 11 then
    ml_b1 (fX11_trunkTells l0 l1 l2 m) fun r4043 =>
    ml_b1 (fX11_mix l0 r4043.toInt64 m) fun m4045 =>
    (fX11_mixRoom_50 k40 fu) l0 l1 (l2 + (1 : Int32)) m4045
    else none
theorem vX11_mixRoom_50 {E : ml_E} (hL : ml_eL E = 3) {rm : ml_M} (hr : ∀ (pc pc' : Nat) (lv : List (Nat × ml_X)), ml_d cX11_mixRoom pc .return_ 1 pc' → True → ml_V E "LostRoomModel" cX11_mixRoom 5 false rm pc lv []) {k40 : Nat → Int32 → ml_M → Option ml_M} (hk40 : ∀ (l0 : Nat) (l1 : Int32) (m : ml_M), k40 l0 l1 m = some rm → ml_V E "LostRoomModel" cX11_mixRoom 5 false m 40 [(0, ml_r l0), (1, ml_i l1)] []) : ∀ (fu : Nat) (l0 : Nat) (l1 : Int32) (l2 : Int32) (m : ml_M), fX11_mixRoom_50 k40 fu l0 l1 l2 m = some rm → ml_V E "LostRoomModel" cX11_mixRoom 5 false m 50 [(0, ml_r l0), (1, ml_i l1), (2, ml_i l2)] [] := by
  intro fu
  induction fu with
  | zero => intro l0 l1 l2 m h; exact ml_none h
  | succ fu ih =>
    intro l0 l1 l2 m h
    have hk50 := ih
    unfold fX11_mixRoom_50 at h
    exact ml_iload_n dX11_mixRoom_50 2 rfl <| ml_iconst dX11_mixRoom_51 kc_i4 <| ml_icmp_ge dX11_mixRoom_52 h (fun _ h => ml_V.sub [0, 1] rfl (vX11_mixRoom_72 hL hr hk40 _ _ _ h)) (fun _ h => ml_aload_n dX11_mixRoom_55 0 rfl <| ml_aload_n dX11_mixRoom_56 0 rfl <| ml_iload_n dX11_mixRoom_57 1 rfl <| ml_iload_n dX11_mixRoom_58 2 rfl <| ml_ck_of h fun hc4042 h => ml_b1_of h fun r4043 hv4041 h => ml_callV dX11_mixRoom_59 wm_337 wb_233 hc4042 (sX11_trunkTells hv4041) rfl (Nat.le_of_ble_eq_true rfl) (Nat.le_of_ble_eq_true rfl) rfl <| ml_i2l dX11_mixRoom_62 <| ml_b1_of h fun m4045 hv4044 h => ml_callV dX11_mixRoom_63 wm_847 wb_504 hc4042 (sX11_mix hv4044) rfl (Nat.le_of_ble_eq_true rfl) (Nat.le_of_ble_eq_true rfl) rfl <| ml_iinc (lv' := [(2, ml_i (l2 + (1 : Int32))), (0, ml_r l0), (1, ml_i l1)]) dX11_mixRoom_66 2 rfl (congrArg (l2 + ·) kc_i1) (ml_hn hL rfl) rfl <| ml_goto dX11_mixRoom_69 <| ml_V.sub [1, 2, 0] rfl (hk50 _ _ _ _ h))
def fX11_mixRoom_117 (k80 : Nat → Int32 → ml_M → Option ml_M) (l0 : Nat) (l1 : Int32) (m : ml_M) : Option ml_M :=
    if (ml_K m l0).1 = 11 then
    ml_b1 (fX11_kind l0 l1 m) fun r4048 =>
    ml_b1 (fX11_markOf l0 l1 r4048 m) fun r4050 =>
    ml_b1 (fX11_mix l0 r4050.toInt64 m) fun m4052 =>
    k80 l0 (l1 + (1 : Int32)) m4052
    else none
theorem vX11_mixRoom_117 {E : ml_E} (hL : ml_eL E = 3) {rm : ml_M} (hr : ∀ (pc pc' : Nat) (lv : List (Nat × ml_X)), ml_d cX11_mixRoom pc .return_ 1 pc' → True → ml_V E "LostRoomModel" cX11_mixRoom 5 false rm pc lv []) {k80 : Nat → Int32 → ml_M → Option ml_M} (hk80 : ∀ (l0 : Nat) (l1 : Int32) (m : ml_M), k80 l0 l1 m = some rm → ml_V E "LostRoomModel" cX11_mixRoom 5 false m 80 [(0, ml_r l0), (1, ml_i l1)] []) : ∀ (l0 : Nat) (l1 : Int32) (m : ml_M), fX11_mixRoom_117 k80 l0 l1 m = some rm → ml_V E "LostRoomModel" cX11_mixRoom 5 false m 117 [(0, ml_r l0), (1, ml_i l1)] [] := by
  intro l0 l1 m h
  unfold fX11_mixRoom_117 at h
  exact ml_aload_n dX11_mixRoom_117 0 rfl <| ml_aload_n dX11_mixRoom_118 0 rfl <| ml_iload_n dX11_mixRoom_119 1 rfl <| ml_aload_n dX11_mixRoom_120 0 rfl <| ml_iload_n dX11_mixRoom_121 1 rfl <| ml_ck_of h fun hc4047 h => ml_b1_of h fun r4048 hv4046 h => ml_callV dX11_mixRoom_122 wm_420 wb_276 hc4047 (sX11_kind hv4046) rfl (Nat.le_of_ble_eq_true rfl) (Nat.le_of_ble_eq_true rfl) rfl <| ml_b1_of h fun r4050 hv4049 h => ml_callV dX11_mixRoom_125 wm_436 wb_280 hc4047 (sX11_markOf hv4049) rfl (Nat.le_of_ble_eq_true rfl) (Nat.le_of_ble_eq_true rfl) rfl <| ml_i2l dX11_mixRoom_128 <| ml_b1_of h fun m4052 hv4051 h => ml_callV dX11_mixRoom_129 wm_847 wb_504 hc4047 (sX11_mix hv4051) rfl (Nat.le_of_ble_eq_true rfl) (Nat.le_of_ble_eq_true rfl) rfl <| ml_iinc (lv' := [(1, ml_i (l1 + (1 : Int32))), (0, ml_r l0)]) dX11_mixRoom_132 1 rfl (congrArg (l1 + ·) kc_i1) (ml_hn hL rfl) rfl <| ml_goto dX11_mixRoom_135 <| ml_V.sub [1, 0] rfl (hk80 _ _ _ h)
def fX11_mixRoom_90 (k80 : Nat → Int32 → ml_M → Option ml_M) : Nat → Nat → Int32 → Int32 → ml_M → Option ml_M
  | 0, _, _, _, _ => none
  | fu + 1, l0, l1, l2, m =>
    if (5 : Int32) ≤ l2 then
    fX11_mixRoom_117 k80 l0 l1 m
    else
    if (ml_K m l0).1 = 11 then
    ml_let (ml_R m l0 25) fun a4054 =>
    if ml_in m a4054 20 (((7 : Int32) * l1) + l2) then
    ml_b1 (fX11_mix l0 ((ml_I m a4054 (((7 : Int32) * l1) + l2).toNatClampNeg).toInt64) m) fun m4057 =>
    (fX11_mixRoom_90 k80 fu) l0 l1 (l2 + (1 : Int32)) m4057
    else none
    else none
theorem vX11_mixRoom_90 {E : ml_E} (hL : ml_eL E = 3) {rm : ml_M} (hr : ∀ (pc pc' : Nat) (lv : List (Nat × ml_X)), ml_d cX11_mixRoom pc .return_ 1 pc' → True → ml_V E "LostRoomModel" cX11_mixRoom 5 false rm pc lv []) {k80 : Nat → Int32 → ml_M → Option ml_M} (hk80 : ∀ (l0 : Nat) (l1 : Int32) (m : ml_M), k80 l0 l1 m = some rm → ml_V E "LostRoomModel" cX11_mixRoom 5 false m 80 [(0, ml_r l0), (1, ml_i l1)] []) : ∀ (fu : Nat) (l0 : Nat) (l1 : Int32) (l2 : Int32) (m : ml_M), fX11_mixRoom_90 k80 fu l0 l1 l2 m = some rm → ml_V E "LostRoomModel" cX11_mixRoom 5 false m 90 [(0, ml_r l0), (1, ml_i l1), (2, ml_i l2)] [] := by
  intro fu
  induction fu with
  | zero => intro l0 l1 l2 m h; exact ml_none h
  | succ fu ih =>
    intro l0 l1 l2 m h
    have hk90 := ih
    unfold fX11_mixRoom_90 at h
    exact ml_iload_n dX11_mixRoom_90 2 rfl <| ml_iconst dX11_mixRoom_91 kc_i5 <| ml_icmp_ge dX11_mixRoom_92 h (fun _ h => ml_V.sub [0, 1] rfl (vX11_mixRoom_117 hL hr hk80 _ _ _ h)) (fun _ h => ml_aload_n dX11_mixRoom_95 0 rfl <| ml_aload_n dX11_mixRoom_96 0 rfl <| ml_ck_of h fun hc4053 h => ml_getR dX11_mixRoom_97 wb_227 hc4053 <| ml_lx (mk := ml_r) h fun a4054 h => ml_bipush dX11_mixRoom_100 kc_b7 <| ml_iload_n dX11_mixRoom_102 1 rfl <| ml_imul dX11_mixRoom_103 <| ml_iload_n dX11_mixRoom_104 2 rfl <| ml_iadd dX11_mixRoom_105 <| ml_ck_of h fun hi4055 h => ml_iald dX11_mixRoom_106 hi4055 <| ml_i2l dX11_mixRoom_107 <| ml_b1_of h fun m4057 hv4056 h => ml_callV dX11_mixRoom_108 wm_847 wb_504 hc4053 (sX11_mix hv4056) rfl (Nat.le_of_ble_eq_true rfl) (Nat.le_of_ble_eq_true rfl) rfl <| ml_iinc (lv' := [(2, ml_i (l2 + (1 : Int32))), (0, ml_r l0), (1, ml_i l1)]) dX11_mixRoom_111 2 rfl (congrArg (l2 + ·) kc_i1) (ml_hn hL rfl) rfl <| ml_goto dX11_mixRoom_114 <| ml_V.sub [1, 2, 0] rfl (hk90 _ _ _ _ h))
def fX11_mixRoom_249 (k198 : Nat → Int32 → ml_M → Option ml_M) (l0 : Nat) (l1 : Int32) (m : ml_M) : Option ml_M :=
    k198 l0 (l1 + (1 : Int32)) m
theorem vX11_mixRoom_249 {E : ml_E} (hL : ml_eL E = 3) {rm : ml_M} (hr : ∀ (pc pc' : Nat) (lv : List (Nat × ml_X)), ml_d cX11_mixRoom pc .return_ 1 pc' → True → ml_V E "LostRoomModel" cX11_mixRoom 5 false rm pc lv []) {k198 : Nat → Int32 → ml_M → Option ml_M} (hk198 : ∀ (l0 : Nat) (l1 : Int32) (m : ml_M), k198 l0 l1 m = some rm → ml_V E "LostRoomModel" cX11_mixRoom 5 false m 198 [(0, ml_r l0), (1, ml_i l1)] []) : ∀ (l0 : Nat) (l1 : Int32) (m : ml_M), fX11_mixRoom_249 k198 l0 l1 m = some rm → ml_V E "LostRoomModel" cX11_mixRoom 5 false m 249 [(0, ml_r l0), (1, ml_i l1)] [] := by
  intro l0 l1 m h
  unfold fX11_mixRoom_249 at h
  exact ml_iinc (lv' := [(1, ml_i (l1 + (1 : Int32))), (0, ml_r l0)]) dX11_mixRoom_249 1 rfl (congrArg (l1 + ·) kc_i1) (ml_hn hL rfl) rfl <| ml_goto dX11_mixRoom_252 <| ml_V.sub [1, 0] rfl (hk198 _ _ _ h)
def fX11_mixRoom_208 (k198 : Nat → Int32 → ml_M → Option ml_M) : Nat → Nat → Int32 → Int32 → ml_M → Option ml_M
  | 0, _, _, _, _ => none
  | fu + 1, l0, l1, l2, m =>
    if (ml_K m l0).1 = 11 then
    ml_let (ml_R m l0 47) fun a4059 =>
    if ml_in m a4059 20 (((51 : Int32) * l1) + (2 : Int32)) then
    if ((3 : Int32) + ((2 : Int32) * (ml_I m a4059 (((51 : Int32) * l1) + (2 : Int32)).toNatClampNeg))) ≤ l2 then
    fX11_mixRoom_249 k198 l0 l1 m
    else
    ml_let (ml_R m l0 47) fun a4061 =>
    if ml_in m a4061 20 (((51 : Int32) * l1) + l2) then
    ml_b1 (fX11_mix l0 ((ml_I m a4061 (((51 : Int32) * l1) + l2).toNatClampNeg).toInt64) m) fun m4064 =>
    (fX11_mixRoom_208 k198 fu) l0 l1 (l2 + (1 : Int32)) m4064
    else none
    else none
    else none
theorem vX11_mixRoom_208 {E : ml_E} (hL : ml_eL E = 3) {rm : ml_M} (hr : ∀ (pc pc' : Nat) (lv : List (Nat × ml_X)), ml_d cX11_mixRoom pc .return_ 1 pc' → True → ml_V E "LostRoomModel" cX11_mixRoom 5 false rm pc lv []) {k198 : Nat → Int32 → ml_M → Option ml_M} (hk198 : ∀ (l0 : Nat) (l1 : Int32) (m : ml_M), k198 l0 l1 m = some rm → ml_V E "LostRoomModel" cX11_mixRoom 5 false m 198 [(0, ml_r l0), (1, ml_i l1)] []) : ∀ (fu : Nat) (l0 : Nat) (l1 : Int32) (l2 : Int32) (m : ml_M), fX11_mixRoom_208 k198 fu l0 l1 l2 m = some rm → ml_V E "LostRoomModel" cX11_mixRoom 5 false m 208 [(0, ml_r l0), (1, ml_i l1), (2, ml_i l2)] [] := by
  intro fu
  induction fu with
  | zero => intro l0 l1 l2 m h; exact ml_none h
  | succ fu ih =>
    intro l0 l1 l2 m h
    have hk208 := ih
    unfold fX11_mixRoom_208 at h
    exact ml_iload_n dX11_mixRoom_208 2 rfl <| ml_iconst dX11_mixRoom_209 kc_i3 <| ml_iconst dX11_mixRoom_210 kc_i2 <| ml_aload_n dX11_mixRoom_211 0 rfl <| ml_ck_of h fun hc4058 h => ml_getR dX11_mixRoom_212 wb_476 hc4058 <| ml_lx (mk := ml_r) h fun a4059 h => ml_bipush dX11_mixRoom_215 kc_b51 <| ml_iload_n dX11_mixRoom_217 1 rfl <| ml_imul dX11_mixRoom_218 <| ml_iconst dX11_mixRoom_219 kc_i2 <| ml_iadd dX11_mixRoom_220 <| ml_ck_of h fun hi4060 h => ml_iald dX11_mixRoom_221 hi4060 <| ml_imul dX11_mixRoom_222 <| ml_iadd dX11_mixRoom_223 <| ml_icmp_ge dX11_mixRoom_224 h (fun _ h => ml_V.sub [0, 1] rfl (vX11_mixRoom_249 hL hr hk198 _ _ _ h)) (fun _ h => ml_aload_n dX11_mixRoom_227 0 rfl <| ml_aload_n dX11_mixRoom_228 0 rfl <| ml_getR dX11_mixRoom_229 wb_476 hc4058 <| ml_lx (mk := ml_r) h fun a4061 h => ml_bipush dX11_mixRoom_232 kc_b51 <| ml_iload_n dX11_mixRoom_234 1 rfl <| ml_imul dX11_mixRoom_235 <| ml_iload_n dX11_mixRoom_236 2 rfl <| ml_iadd dX11_mixRoom_237 <| ml_ck_of h fun hi4062 h => ml_iald dX11_mixRoom_238 hi4062 <| ml_i2l dX11_mixRoom_239 <| ml_b1_of h fun m4064 hv4063 h => ml_callV dX11_mixRoom_240 wm_847 wb_504 hc4058 (sX11_mix hv4063) rfl (Nat.le_of_ble_eq_true rfl) (Nat.le_of_ble_eq_true rfl) rfl <| ml_iinc (lv' := [(2, ml_i (l2 + (1 : Int32))), (0, ml_r l0), (1, ml_i l1)]) dX11_mixRoom_243 2 rfl (congrArg (l2 + ·) kc_i1) (ml_hn hL rfl) rfl <| ml_goto dX11_mixRoom_246 <| ml_V.sub [1, 2, 0] rfl (hk208 _ _ _ _ h))
def fX11_mixRoom_198 : Nat → Nat → Int32 → ml_M → Option ml_M
  | 0, _, _, _ => none
  | fu + 1, l0, l1, m =>
    if (ml_K m l0).1 = 11 then
    if (ml_I m l0 46) ≤ l1 then
    some m
    else
    fX11_mixRoom_208 (fX11_mixRoom_198 fu) ml_fu l0 l1 (0 : Int32) m
    else none
theorem vX11_mixRoom_198 {E : ml_E} (hL : ml_eL E = 3) {rm : ml_M} (hr : ∀ (pc pc' : Nat) (lv : List (Nat × ml_X)), ml_d cX11_mixRoom pc .return_ 1 pc' → True → ml_V E "LostRoomModel" cX11_mixRoom 5 false rm pc lv []) : ∀ (fu : Nat) (l0 : Nat) (l1 : Int32) (m : ml_M), fX11_mixRoom_198 fu l0 l1 m = some rm → ml_V E "LostRoomModel" cX11_mixRoom 5 false m 198 [(0, ml_r l0), (1, ml_i l1)] [] := by
  intro fu
  induction fu with
  | zero => intro l0 l1 m h; exact ml_none h
  | succ fu ih =>
    intro l0 l1 m h
    have hk198 := ih
    unfold fX11_mixRoom_198 at h
    exact ml_iload_n dX11_mixRoom_198 1 rfl <| ml_aload_n dX11_mixRoom_199 0 rfl <| ml_ck_of h fun hc4065 h => ml_getI dX11_mixRoom_200 wb_475 hc4065 <| ml_icmp_ge dX11_mixRoom_203 h (fun _ h => ml_rv hr dX11_mixRoom_255 trivial h) (fun _ h => ml_iconst dX11_mixRoom_206 kc_i0 <| ml_istore_n (lv' := [(2, ml_i (0 : Int32)), (0, ml_r l0), (1, ml_i l1)]) dX11_mixRoom_207 (ml_hn hL rfl) rfl <| ml_V.sub [1, 2, 0] rfl (vX11_mixRoom_208 hL hr hk198 ml_fu _ _ _ _ h))
def fX11_mixRoom_196 (l0 : Nat) (m : ml_M) : Option ml_M :=
    fX11_mixRoom_198 ml_fu l0 (0 : Int32) m
theorem vX11_mixRoom_196 {E : ml_E} (hL : ml_eL E = 3) {rm : ml_M} (hr : ∀ (pc pc' : Nat) (lv : List (Nat × ml_X)), ml_d cX11_mixRoom pc .return_ 1 pc' → True → ml_V E "LostRoomModel" cX11_mixRoom 5 false rm pc lv []) : ∀ (l0 : Nat) (m : ml_M), fX11_mixRoom_196 l0 m = some rm → ml_V E "LostRoomModel" cX11_mixRoom 5 false m 196 [(0, ml_r l0)] [] := by
  intro l0 m h
  unfold fX11_mixRoom_196 at h
  exact ml_iconst dX11_mixRoom_196 kc_i0 <| ml_istore_n (lv' := [(1, ml_i (0 : Int32)), (0, ml_r l0)]) dX11_mixRoom_197 (ml_hn hL rfl) rfl <| ml_V.sub [1, 0] rfl (vX11_mixRoom_198 hL hr  ml_fu _ _ _ h)
def fX11_mixRoom_169 : Nat → Nat → Int32 → ml_M → Option ml_M
  | 0, _, _, _ => none
  | fu + 1, l0, l1, m =>
    if (ml_K m l0).1 = 11 then
    if ((4 : Int32) * (ml_I m l0 37)) ≤ l1 then
    fX11_mixRoom_196 l0 m
    else
    ml_let (ml_R m l0 38) fun a4067 =>
    if ml_in m a4067 20 l1 then
    ml_b1 (fX11_mix l0 ((ml_I m a4067 l1.toNatClampNeg).toInt64) m) fun m4070 =>
    (fX11_mixRoom_169 fu) l0 (l1 + (1 : Int32)) m4070
    else none
    else none
theorem vX11_mixRoom_169 {E : ml_E} (hL : ml_eL E = 3) {rm : ml_M} (hr : ∀ (pc pc' : Nat) (lv : List (Nat × ml_X)), ml_d cX11_mixRoom pc .return_ 1 pc' → True → ml_V E "LostRoomModel" cX11_mixRoom 5 false rm pc lv []) : ∀ (fu : Nat) (l0 : Nat) (l1 : Int32) (m : ml_M), fX11_mixRoom_169 fu l0 l1 m = some rm → ml_V E "LostRoomModel" cX11_mixRoom 5 false m 169 [(0, ml_r l0), (1, ml_i l1)] [] := by
  intro fu
  induction fu with
  | zero => intro l0 l1 m h; exact ml_none h
  | succ fu ih =>
    intro l0 l1 m h
    have hk169 := ih
    unfold fX11_mixRoom_169 at h
    exact ml_iload_n dX11_mixRoom_169 1 rfl <| ml_iconst dX11_mixRoom_170 kc_i4 <| ml_aload_n dX11_mixRoom_171 0 rfl <| ml_ck_of h fun hc4066 h => ml_getI dX11_mixRoom_172 wb_404 hc4066 <| ml_imul dX11_mixRoom_175 <| ml_icmp_ge dX11_mixRoom_176 h (fun _ h => ml_V.sub [0] rfl (vX11_mixRoom_196 hL hr  _ _ h)) (fun _ h => ml_aload_n dX11_mixRoom_179 0 rfl <| ml_aload_n dX11_mixRoom_180 0 rfl <| ml_getR dX11_mixRoom_181 wb_405 hc4066 <| ml_lx (mk := ml_r) h fun a4067 h => ml_iload_n dX11_mixRoom_184 1 rfl <| ml_ck_of h fun hi4068 h => ml_iald dX11_mixRoom_185 hi4068 <| ml_i2l dX11_mixRoom_186 <| ml_b1_of h fun m4070 hv4069 h => ml_callV dX11_mixRoom_187 wm_847 wb_504 hc4066 (sX11_mix hv4069) rfl (Nat.le_of_ble_eq_true rfl) (Nat.le_of_ble_eq_true rfl) rfl <| ml_iinc (lv' := [(1, ml_i (l1 + (1 : Int32))), (0, ml_r l0)]) dX11_mixRoom_190 1 rfl (congrArg (l1 + ·) kc_i1) (ml_hn hL rfl) rfl <| ml_goto dX11_mixRoom_193 <| ml_V.sub [1, 0] rfl (hk169 _ _ _ h))
def fX11_mixRoom_167 (l0 : Nat) (m : ml_M) : Option ml_M :=
    fX11_mixRoom_169 ml_fu l0 (0 : Int32) m
theorem vX11_mixRoom_167 {E : ml_E} (hL : ml_eL E = 3) {rm : ml_M} (hr : ∀ (pc pc' : Nat) (lv : List (Nat × ml_X)), ml_d cX11_mixRoom pc .return_ 1 pc' → True → ml_V E "LostRoomModel" cX11_mixRoom 5 false rm pc lv []) : ∀ (l0 : Nat) (m : ml_M), fX11_mixRoom_167 l0 m = some rm → ml_V E "LostRoomModel" cX11_mixRoom 5 false m 167 [(0, ml_r l0)] [] := by
  intro l0 m h
  unfold fX11_mixRoom_167 at h
  exact ml_iconst dX11_mixRoom_167 kc_i0 <| ml_istore_n (lv' := [(1, ml_i (0 : Int32)), (0, ml_r l0)]) dX11_mixRoom_168 (ml_hn hL rfl) rfl <| ml_V.sub [1, 0] rfl (vX11_mixRoom_169 hL hr  ml_fu _ _ _ h)
def fX11_mixRoom_140 : Nat → Nat → Int32 → ml_M → Option ml_M
  | 0, _, _, _ => none
  | fu + 1, l0, l1, m =>
    if (ml_K m l0).1 = 11 then
    if ((3 : Int32) * (ml_I m l0 34)) ≤ l1 then
    fX11_mixRoom_167 l0 m
    else
    ml_let (ml_R m l0 35) fun a4072 =>
    if ml_in m a4072 20 l1 then
    ml_b1 (fX11_mix l0 ((ml_I m a4072 l1.toNatClampNeg).toInt64) m) fun m4075 =>
    (fX11_mixRoom_140 fu) l0 (l1 + (1 : Int32)) m4075
    else none
    else none
theorem vX11_mixRoom_140 {E : ml_E} (hL : ml_eL E = 3) {rm : ml_M} (hr : ∀ (pc pc' : Nat) (lv : List (Nat × ml_X)), ml_d cX11_mixRoom pc .return_ 1 pc' → True → ml_V E "LostRoomModel" cX11_mixRoom 5 false rm pc lv []) : ∀ (fu : Nat) (l0 : Nat) (l1 : Int32) (m : ml_M), fX11_mixRoom_140 fu l0 l1 m = some rm → ml_V E "LostRoomModel" cX11_mixRoom 5 false m 140 [(0, ml_r l0), (1, ml_i l1)] [] := by
  intro fu
  induction fu with
  | zero => intro l0 l1 m h; exact ml_none h
  | succ fu ih =>
    intro l0 l1 m h
    have hk140 := ih
    unfold fX11_mixRoom_140 at h
    exact ml_iload_n dX11_mixRoom_140 1 rfl <| ml_iconst dX11_mixRoom_141 kc_i3 <| ml_aload_n dX11_mixRoom_142 0 rfl <| ml_ck_of h fun hc4071 h => ml_getI dX11_mixRoom_143 wb_384 hc4071 <| ml_imul dX11_mixRoom_146 <| ml_icmp_ge dX11_mixRoom_147 h (fun _ h => ml_V.sub [0] rfl (vX11_mixRoom_167 hL hr  _ _ h)) (fun _ h => ml_aload_n dX11_mixRoom_150 0 rfl <| ml_aload_n dX11_mixRoom_151 0 rfl <| ml_getR dX11_mixRoom_152 wb_385 hc4071 <| ml_lx (mk := ml_r) h fun a4072 h => ml_iload_n dX11_mixRoom_155 1 rfl <| ml_ck_of h fun hi4073 h => ml_iald dX11_mixRoom_156 hi4073 <| ml_i2l dX11_mixRoom_157 <| ml_b1_of h fun m4075 hv4074 h => ml_callV dX11_mixRoom_158 wm_847 wb_504 hc4071 (sX11_mix hv4074) rfl (Nat.le_of_ble_eq_true rfl) (Nat.le_of_ble_eq_true rfl) rfl <| ml_iinc (lv' := [(1, ml_i (l1 + (1 : Int32))), (0, ml_r l0)]) dX11_mixRoom_161 1 rfl (congrArg (l1 + ·) kc_i1) (ml_hn hL rfl) rfl <| ml_goto dX11_mixRoom_164 <| ml_V.sub [1, 0] rfl (hk140 _ _ _ h))
def fX11_mixRoom_138 (l0 : Nat) (m : ml_M) : Option ml_M :=
    fX11_mixRoom_140 ml_fu l0 (0 : Int32) m
theorem vX11_mixRoom_138 {E : ml_E} (hL : ml_eL E = 3) {rm : ml_M} (hr : ∀ (pc pc' : Nat) (lv : List (Nat × ml_X)), ml_d cX11_mixRoom pc .return_ 1 pc' → True → ml_V E "LostRoomModel" cX11_mixRoom 5 false rm pc lv []) : ∀ (l0 : Nat) (m : ml_M), fX11_mixRoom_138 l0 m = some rm → ml_V E "LostRoomModel" cX11_mixRoom 5 false m 138 [(0, ml_r l0)] [] := by
  intro l0 m h
  unfold fX11_mixRoom_138 at h
  exact ml_iconst dX11_mixRoom_138 kc_i0 <| ml_istore_n (lv' := [(1, ml_i (0 : Int32)), (0, ml_r l0)]) dX11_mixRoom_139 (ml_hn hL rfl) rfl <| ml_V.sub [1, 0] rfl (vX11_mixRoom_140 hL hr  ml_fu _ _ _ h)
def fX11_mixRoom_80 : Nat → Nat → Int32 → ml_M → Option ml_M
  | 0, _, _, _ => none
  | fu + 1, l0, l1, m =>
    if (ml_K m l0).1 = 11 then
    if (ml_I m l0 24) ≤ l1 then
    fX11_mixRoom_138 l0 m
    else
    fX11_mixRoom_90 (fX11_mixRoom_80 fu) ml_fu l0 l1 (0 : Int32) m
    else none
theorem vX11_mixRoom_80 {E : ml_E} (hL : ml_eL E = 3) {rm : ml_M} (hr : ∀ (pc pc' : Nat) (lv : List (Nat × ml_X)), ml_d cX11_mixRoom pc .return_ 1 pc' → True → ml_V E "LostRoomModel" cX11_mixRoom 5 false rm pc lv []) : ∀ (fu : Nat) (l0 : Nat) (l1 : Int32) (m : ml_M), fX11_mixRoom_80 fu l0 l1 m = some rm → ml_V E "LostRoomModel" cX11_mixRoom 5 false m 80 [(0, ml_r l0), (1, ml_i l1)] [] := by
  intro fu
  induction fu with
  | zero => intro l0 l1 m h; exact ml_none h
  | succ fu ih =>
    intro l0 l1 m h
    have hk80 := ih
    unfold fX11_mixRoom_80 at h
    exact ml_iload_n dX11_mixRoom_80 1 rfl <| ml_aload_n dX11_mixRoom_81 0 rfl <| ml_ck_of h fun hc4076 h => ml_getI dX11_mixRoom_82 wb_228 hc4076 <| ml_icmp_ge dX11_mixRoom_85 h (fun _ h => ml_V.sub [0] rfl (vX11_mixRoom_138 hL hr  _ _ h)) (fun _ h => ml_iconst dX11_mixRoom_88 kc_i0 <| ml_istore_n (lv' := [(2, ml_i (0 : Int32)), (0, ml_r l0), (1, ml_i l1)]) dX11_mixRoom_89 (ml_hn hL rfl) rfl <| ml_V.sub [1, 2, 0] rfl (vX11_mixRoom_90 hL hr hk80 ml_fu _ _ _ _ h))
def fX11_mixRoom_78 (l0 : Nat) (m : ml_M) : Option ml_M :=
    fX11_mixRoom_80 ml_fu l0 (0 : Int32) m
theorem vX11_mixRoom_78 {E : ml_E} (hL : ml_eL E = 3) {rm : ml_M} (hr : ∀ (pc pc' : Nat) (lv : List (Nat × ml_X)), ml_d cX11_mixRoom pc .return_ 1 pc' → True → ml_V E "LostRoomModel" cX11_mixRoom 5 false rm pc lv []) : ∀ (l0 : Nat) (m : ml_M), fX11_mixRoom_78 l0 m = some rm → ml_V E "LostRoomModel" cX11_mixRoom 5 false m 78 [(0, ml_r l0)] [] := by
  intro l0 m h
  unfold fX11_mixRoom_78 at h
  exact ml_iconst dX11_mixRoom_78 kc_i0 <| ml_istore_n (lv' := [(1, ml_i (0 : Int32)), (0, ml_r l0)]) dX11_mixRoom_79 (ml_hn hL rfl) rfl <| ml_V.sub [1, 0] rfl (vX11_mixRoom_80 hL hr  ml_fu _ _ _ h)
def fX11_mixRoom_40 : Nat → Nat → Int32 → ml_M → Option ml_M
  | 0, _, _, _ => none
  | fu + 1, l0, l1, m =>
    if (ml_K m l0).1 = 11 then
    if (ml_I m l0 10) ≤ l1 then
    fX11_mixRoom_78 l0 m
    else
    fX11_mixRoom_50 (fX11_mixRoom_40 fu) ml_fu l0 l1 (0 : Int32) m
    else none
theorem vX11_mixRoom_40 {E : ml_E} (hL : ml_eL E = 3) {rm : ml_M} (hr : ∀ (pc pc' : Nat) (lv : List (Nat × ml_X)), ml_d cX11_mixRoom pc .return_ 1 pc' → True → ml_V E "LostRoomModel" cX11_mixRoom 5 false rm pc lv []) : ∀ (fu : Nat) (l0 : Nat) (l1 : Int32) (m : ml_M), fX11_mixRoom_40 fu l0 l1 m = some rm → ml_V E "LostRoomModel" cX11_mixRoom 5 false m 40 [(0, ml_r l0), (1, ml_i l1)] [] := by
  intro fu
  induction fu with
  | zero => intro l0 l1 m h; exact ml_none h
  | succ fu ih =>
    intro l0 l1 m h
    have hk40 := ih
    unfold fX11_mixRoom_40 at h
    exact ml_iload_n dX11_mixRoom_40 1 rfl <| ml_aload_n dX11_mixRoom_41 0 rfl <| ml_ck_of h fun hc4077 h => ml_getI dX11_mixRoom_42 wb_196 hc4077 <| ml_icmp_ge dX11_mixRoom_45 h (fun _ h => ml_V.sub [0] rfl (vX11_mixRoom_78 hL hr  _ _ h)) (fun _ h => ml_iconst dX11_mixRoom_48 kc_i0 <| ml_istore_n (lv' := [(2, ml_i (0 : Int32)), (0, ml_r l0), (1, ml_i l1)]) dX11_mixRoom_49 (ml_hn hL rfl) rfl <| ml_V.sub [1, 2, 0] rfl (vX11_mixRoom_50 hL hr hk40 ml_fu _ _ _ _ h))
def fX11_mixRoom_38 (l0 : Nat) (m : ml_M) : Option ml_M :=
    fX11_mixRoom_40 ml_fu l0 (0 : Int32) m
theorem vX11_mixRoom_38 {E : ml_E} (hL : ml_eL E = 3) {rm : ml_M} (hr : ∀ (pc pc' : Nat) (lv : List (Nat × ml_X)), ml_d cX11_mixRoom pc .return_ 1 pc' → True → ml_V E "LostRoomModel" cX11_mixRoom 5 false rm pc lv []) : ∀ (l0 : Nat) (m : ml_M), fX11_mixRoom_38 l0 m = some rm → ml_V E "LostRoomModel" cX11_mixRoom 5 false m 38 [(0, ml_r l0)] [] := by
  intro l0 m h
  unfold fX11_mixRoom_38 at h
  exact ml_iconst dX11_mixRoom_38 kc_i0 <| ml_istore_n (lv' := [(1, ml_i (0 : Int32)), (0, ml_r l0)]) dX11_mixRoom_39 (ml_hn hL rfl) rfl <| ml_V.sub [1, 0] rfl (vX11_mixRoom_40 hL hr  ml_fu _ _ _ h)
def fX11_mixRoom_11 : Nat → Nat → Int32 → ml_M → Option ml_M
  | 0, _, _, _ => none
  | fu + 1, l0, l1, m =>
    if (ml_K m l0).1 = 11 then
    if ((5 : Int32) * (ml_I m l0 9)) ≤ l1 then
    fX11_mixRoom_38 l0 m
    else
    ml_let (ml_R m l0 12) fun a4079 =>
    if ml_in m a4079 20 l1 then
    ml_b1 (fX11_mix l0 ((ml_I m a4079 l1.toNatClampNeg).toInt64) m) fun m4082 =>
    (fX11_mixRoom_11 fu) l0 (l1 + (1 : Int32)) m4082
    else none
    else none
theorem vX11_mixRoom_11 {E : ml_E} (hL : ml_eL E = 3) {rm : ml_M} (hr : ∀ (pc pc' : Nat) (lv : List (Nat × ml_X)), ml_d cX11_mixRoom pc .return_ 1 pc' → True → ml_V E "LostRoomModel" cX11_mixRoom 5 false rm pc lv []) : ∀ (fu : Nat) (l0 : Nat) (l1 : Int32) (m : ml_M), fX11_mixRoom_11 fu l0 l1 m = some rm → ml_V E "LostRoomModel" cX11_mixRoom 5 false m 11 [(0, ml_r l0), (1, ml_i l1)] [] := by
  intro fu
  induction fu with
  | zero => intro l0 l1 m h; exact ml_none h
  | succ fu ih =>
    intro l0 l1 m h
    have hk11 := ih
    unfold fX11_mixRoom_11 at h
    exact ml_iload_n dX11_mixRoom_11 1 rfl <| ml_iconst dX11_mixRoom_12 kc_i5 <| ml_aload_n dX11_mixRoom_13 0 rfl <| ml_ck_of h fun hc4078 h => ml_getI dX11_mixRoom_14 wb_215 hc4078 <| ml_imul dX11_mixRoom_17 <| ml_icmp_ge dX11_mixRoom_18 h (fun _ h => ml_V.sub [0] rfl (vX11_mixRoom_38 hL hr  _ _ h)) (fun _ h => ml_aload_n dX11_mixRoom_21 0 rfl <| ml_aload_n dX11_mixRoom_22 0 rfl <| ml_getR dX11_mixRoom_23 wb_197 hc4078 <| ml_lx (mk := ml_r) h fun a4079 h => ml_iload_n dX11_mixRoom_26 1 rfl <| ml_ck_of h fun hi4080 h => ml_iald dX11_mixRoom_27 hi4080 <| ml_i2l dX11_mixRoom_28 <| ml_b1_of h fun m4082 hv4081 h => ml_callV dX11_mixRoom_29 wm_847 wb_504 hc4078 (sX11_mix hv4081) rfl (Nat.le_of_ble_eq_true rfl) (Nat.le_of_ble_eq_true rfl) rfl <| ml_iinc (lv' := [(1, ml_i (l1 + (1 : Int32))), (0, ml_r l0)]) dX11_mixRoom_32 1 rfl (congrArg (l1 + ·) kc_i1) (ml_hn hL rfl) rfl <| ml_goto dX11_mixRoom_35 <| ml_V.sub [1, 0] rfl (hk11 _ _ _ h))
def fX11_mixRoom (l0 : Nat) (m : ml_M) : Option ml_M :=
    if (ml_K m l0).1 = 11 then
    ml_b1 (fX11_mix l0 ((ml_I m l0 23).toInt64) m) fun m4085 =>
    fX11_mixRoom_11 ml_fu l0 (0 : Int32) m4085
    else none
theorem wX11_mixRoom_0 {E : ml_E} (hL : ml_eL E = 3) {rm : ml_M} (hr : ∀ (pc pc' : Nat) (lv : List (Nat × ml_X)), ml_d cX11_mixRoom pc .return_ 1 pc' → True → ml_V E "LostRoomModel" cX11_mixRoom 5 false rm pc lv []) : ∀ (l0 : Nat) (m : ml_M), fX11_mixRoom l0 m = some rm → ml_V E "LostRoomModel" cX11_mixRoom 5 false m 0 [(0, ml_r l0)] [] := by
  intro l0 m h
  unfold fX11_mixRoom at h
  exact ml_aload_n dX11_mixRoom_0 0 rfl <| ml_aload_n dX11_mixRoom_1 0 rfl <| ml_ck_of h fun hc4083 h => ml_getI dX11_mixRoom_2 wb_204 hc4083 <| ml_i2l dX11_mixRoom_5 <| ml_b1_of h fun m4085 hv4084 h => ml_callV dX11_mixRoom_6 wm_847 wb_504 hc4083 (sX11_mix hv4084) rfl (Nat.le_of_ble_eq_true rfl) (Nat.le_of_ble_eq_true rfl) rfl <| ml_iconst dX11_mixRoom_9 kc_i0 <| ml_istore_n (lv' := [(1, ml_i (0 : Int32)), (0, ml_r l0)]) dX11_mixRoom_10 (ml_hn hL rfl) rfl <| ml_V.sub [1, 0] rfl (vX11_mixRoom_11 hL hr  ml_fu _ _ _ h)
theorem sX11_mixRoom {l0 : Nat} {m : ml_M} {rm : ml_M} (h : fX11_mixRoom l0 m = some rm) : ml_Sn yX11_mixRoom cX11_mixRoom 3 none 5 [ml_r l0] m none rm :=
  ml_Sn_of (P := True) (ini := false) (by decide +kernel) (Nat.le_of_ble_eq_true rfl) (fun h => by cases h) (fun _ => ml_RkV) fun E hL hr => wX11_mixRoom_0 hL hr _ _ h
theorem dX11_digest_0 : ml_d cX11_digest 0 (.aload_n 0) 1 1 := ⟨by decide +kernel, rfl⟩
theorem dX11_digest_1 : ml_d cX11_digest 1 (.ldc2_w 368) 3 4 := ⟨by decide +kernel, rfl⟩
theorem dX11_digest_4 : ml_d cX11_digest 4 (.putfield 361) 3 7 := ⟨by decide +kernel, rfl⟩
theorem dX11_digest_7 : ml_d cX11_digest 7 (.iconst 0) 1 8 := ⟨by decide +kernel, rfl⟩
theorem dX11_digest_8 : ml_d cX11_digest 8 (.istore_n 1) 1 9 := ⟨by decide +kernel, rfl⟩
theorem dX11_digest_9 : ml_d cX11_digest 9 (.iload_n 1) 1 10 := ⟨by decide +kernel, rfl⟩
theorem dX11_digest_10 : ml_d cX11_digest 10 (.bipush 9) 2 12 := ⟨by decide +kernel, rfl⟩
theorem dX11_digest_12 : ml_j cX11_digest 12 (.if_icmp .ge) 31 15 := ⟨19, by decide +kernel, by decide, rfl⟩
theorem dX11_digest_15 : ml_d cX11_digest 15 (.aload_n 0) 1 16 := ⟨by decide +kernel, rfl⟩
theorem dX11_digest_16 : ml_d cX11_digest 16 (.aload_n 0) 1 17 := ⟨by decide +kernel, rfl⟩
theorem dX11_digest_17 : ml_d cX11_digest 17 (.iload_n 1) 1 18 := ⟨by decide +kernel, rfl⟩
theorem dX11_digest_18 : ml_d cX11_digest 18 (.invokevirtual 356) 3 21 := ⟨by decide +kernel, rfl⟩
theorem dX11_digest_21 : ml_d cX11_digest 21 (.i2l) 1 22 := ⟨by decide +kernel, rfl⟩
theorem dX11_digest_22 : ml_d cX11_digest 22 (.invokevirtual 364) 3 25 := ⟨by decide +kernel, rfl⟩
theorem dX11_digest_25 : ml_d cX11_digest 25 (.iinc 1 1) 3 28 := ⟨by decide +kernel, rfl⟩
theorem dX11_digest_28 : ml_j cX11_digest 28 .goto 9 31 := ⟨(-19), by decide +kernel, by decide, rfl⟩
theorem dX11_digest_31 : ml_d cX11_digest 31 (.aload_n 0) 1 32 := ⟨by decide +kernel, rfl⟩
theorem dX11_digest_32 : ml_d cX11_digest 32 (.invokevirtual 370) 3 35 := ⟨by decide +kernel, rfl⟩
theorem dX11_digest_35 : ml_d cX11_digest 35 (.iconst 0) 1 36 := ⟨by decide +kernel, rfl⟩
theorem dX11_digest_36 : ml_d cX11_digest 36 (.istore_n 1) 1 37 := ⟨by decide +kernel, rfl⟩
theorem dX11_digest_37 : ml_d cX11_digest 37 (.iload_n 1) 1 38 := ⟨by decide +kernel, rfl⟩
theorem dX11_digest_38 : ml_d cX11_digest 38 (.bipush 6) 2 40 := ⟨by decide +kernel, rfl⟩
theorem dX11_digest_40 : ml_j cX11_digest 40 (.if_icmp .ge) 89 43 := ⟨49, by decide +kernel, by decide, rfl⟩
theorem dX11_digest_43 : ml_d cX11_digest 43 (.aload_n 0) 1 44 := ⟨by decide +kernel, rfl⟩
theorem dX11_digest_44 : ml_d cX11_digest 44 (.aload_n 0) 1 45 := ⟨by decide +kernel, rfl⟩
theorem dX11_digest_45 : ml_d cX11_digest 45 (.getfield 13) 3 48 := ⟨by decide +kernel, rfl⟩
theorem dX11_digest_48 : ml_d cX11_digest 48 (.iload_n 1) 1 49 := ⟨by decide +kernel, rfl⟩
theorem dX11_digest_49 : ml_d cX11_digest 49 (.iaload) 1 50 := ⟨by decide +kernel, rfl⟩
theorem dX11_digest_50 : ml_d cX11_digest 50 (.i2l) 1 51 := ⟨by decide +kernel, rfl⟩
theorem dX11_digest_51 : ml_d cX11_digest 51 (.invokevirtual 364) 3 54 := ⟨by decide +kernel, rfl⟩
theorem dX11_digest_54 : ml_d cX11_digest 54 (.iconst 0) 1 55 := ⟨by decide +kernel, rfl⟩
theorem dX11_digest_55 : ml_d cX11_digest 55 (.istore_n 2) 1 56 := ⟨by decide +kernel, rfl⟩
theorem dX11_digest_56 : ml_d cX11_digest 56 (.iload_n 2) 1 57 := ⟨by decide +kernel, rfl⟩
theorem dX11_digest_57 : ml_d cX11_digest 57 (.aload_n 0) 1 58 := ⟨by decide +kernel, rfl⟩
theorem dX11_digest_58 : ml_d cX11_digest 58 (.getfield 13) 3 61 := ⟨by decide +kernel, rfl⟩
theorem dX11_digest_61 : ml_d cX11_digest 61 (.iload_n 1) 1 62 := ⟨by decide +kernel, rfl⟩
theorem dX11_digest_62 : ml_d cX11_digest 62 (.iaload) 1 63 := ⟨by decide +kernel, rfl⟩
theorem dX11_digest_63 : ml_j cX11_digest 63 (.if_icmp .ge) 83 66 := ⟨20, by decide +kernel, by decide, rfl⟩
theorem dX11_digest_66 : ml_d cX11_digest 66 (.aload_n 0) 1 67 := ⟨by decide +kernel, rfl⟩
theorem dX11_digest_67 : ml_d cX11_digest 67 (.aload_n 0) 1 68 := ⟨by decide +kernel, rfl⟩
theorem dX11_digest_68 : ml_d cX11_digest 68 (.iload_n 1) 1 69 := ⟨by decide +kernel, rfl⟩
theorem dX11_digest_69 : ml_d cX11_digest 69 (.iload_n 2) 1 70 := ⟨by decide +kernel, rfl⟩
theorem dX11_digest_70 : ml_d cX11_digest 70 (.invokevirtual 119) 3 73 := ⟨by decide +kernel, rfl⟩
theorem dX11_digest_73 : ml_d cX11_digest 73 (.i2l) 1 74 := ⟨by decide +kernel, rfl⟩
theorem dX11_digest_74 : ml_d cX11_digest 74 (.invokevirtual 364) 3 77 := ⟨by decide +kernel, rfl⟩
theorem dX11_digest_77 : ml_d cX11_digest 77 (.iinc 2 1) 3 80 := ⟨by decide +kernel, rfl⟩
theorem dX11_digest_80 : ml_j cX11_digest 80 .goto 56 83 := ⟨(-24), by decide +kernel, by decide, rfl⟩
theorem dX11_digest_83 : ml_d cX11_digest 83 (.iinc 1 1) 3 86 := ⟨by decide +kernel, rfl⟩
theorem dX11_digest_86 : ml_j cX11_digest 86 .goto 37 89 := ⟨(-49), by decide +kernel, by decide, rfl⟩
theorem dX11_digest_89 : ml_d cX11_digest 89 (.iconst 0) 1 90 := ⟨by decide +kernel, rfl⟩
theorem dX11_digest_90 : ml_d cX11_digest 90 (.istore_n 1) 1 91 := ⟨by decide +kernel, rfl⟩
theorem dX11_digest_91 : ml_d cX11_digest 91 (.iload_n 1) 1 92 := ⟨by decide +kernel, rfl⟩
theorem dX11_digest_92 : ml_d cX11_digest 92 (.iconst 4) 1 93 := ⟨by decide +kernel, rfl⟩
theorem dX11_digest_93 : ml_j cX11_digest 93 (.if_icmp .ge) 142 96 := ⟨49, by decide +kernel, by decide, rfl⟩
theorem dX11_digest_96 : ml_d cX11_digest 96 (.aload_n 0) 1 97 := ⟨by decide +kernel, rfl⟩
theorem dX11_digest_97 : ml_d cX11_digest 97 (.aload_n 0) 1 98 := ⟨by decide +kernel, rfl⟩
theorem dX11_digest_98 : ml_d cX11_digest 98 (.getfield 22) 3 101 := ⟨by decide +kernel, rfl⟩
theorem dX11_digest_101 : ml_d cX11_digest 101 (.iload_n 1) 1 102 := ⟨by decide +kernel, rfl⟩
theorem dX11_digest_102 : ml_d cX11_digest 102 (.iaload) 1 103 := ⟨by decide +kernel, rfl⟩
theorem dX11_digest_103 : ml_d cX11_digest 103 (.i2l) 1 104 := ⟨by decide +kernel, rfl⟩
theorem dX11_digest_104 : ml_d cX11_digest 104 (.invokevirtual 364) 3 107 := ⟨by decide +kernel, rfl⟩
theorem dX11_digest_107 : ml_d cX11_digest 107 (.iconst 0) 1 108 := ⟨by decide +kernel, rfl⟩
theorem dX11_digest_108 : ml_d cX11_digest 108 (.istore_n 2) 1 109 := ⟨by decide +kernel, rfl⟩
theorem dX11_digest_109 : ml_d cX11_digest 109 (.iload_n 2) 1 110 := ⟨by decide +kernel, rfl⟩
theorem dX11_digest_110 : ml_d cX11_digest 110 (.aload_n 0) 1 111 := ⟨by decide +kernel, rfl⟩
theorem dX11_digest_111 : ml_d cX11_digest 111 (.getfield 22) 3 114 := ⟨by decide +kernel, rfl⟩
theorem dX11_digest_114 : ml_d cX11_digest 114 (.iload_n 1) 1 115 := ⟨by decide +kernel, rfl⟩
theorem dX11_digest_115 : ml_d cX11_digest 115 (.iaload) 1 116 := ⟨by decide +kernel, rfl⟩
theorem dX11_digest_116 : ml_j cX11_digest 116 (.if_icmp .ge) 136 119 := ⟨20, by decide +kernel, by decide, rfl⟩
theorem dX11_digest_119 : ml_d cX11_digest 119 (.aload_n 0) 1 120 := ⟨by decide +kernel, rfl⟩
theorem dX11_digest_120 : ml_d cX11_digest 120 (.aload_n 0) 1 121 := ⟨by decide +kernel, rfl⟩
theorem dX11_digest_121 : ml_d cX11_digest 121 (.iload_n 1) 1 122 := ⟨by decide +kernel, rfl⟩
theorem dX11_digest_122 : ml_d cX11_digest 122 (.iload_n 2) 1 123 := ⟨by decide +kernel, rfl⟩
theorem dX11_digest_123 : ml_d cX11_digest 123 (.invokevirtual 132) 3 126 := ⟨by decide +kernel, rfl⟩
theorem dX11_digest_126 : ml_d cX11_digest 126 (.i2l) 1 127 := ⟨by decide +kernel, rfl⟩
theorem dX11_digest_127 : ml_d cX11_digest 127 (.invokevirtual 364) 3 130 := ⟨by decide +kernel, rfl⟩
theorem dX11_digest_130 : ml_d cX11_digest 130 (.iinc 2 1) 3 133 := ⟨by decide +kernel, rfl⟩
theorem dX11_digest_133 : ml_j cX11_digest 133 .goto 109 136 := ⟨(-24), by decide +kernel, by decide, rfl⟩
theorem dX11_digest_136 : ml_d cX11_digest 136 (.iinc 1 1) 3 139 := ⟨by decide +kernel, rfl⟩
theorem dX11_digest_139 : ml_j cX11_digest 139 .goto 91 142 := ⟨(-48), by decide +kernel, by decide, rfl⟩
theorem dX11_digest_142 : ml_d cX11_digest 142 (.aload_n 0) 1 143 := ⟨by decide +kernel, rfl⟩
theorem dX11_digest_143 : ml_d cX11_digest 143 (.getfield 361) 3 146 := ⟨by decide +kernel, rfl⟩
theorem dX11_digest_146 : ml_d cX11_digest 146 (.lreturn) 1 147 := ⟨by decide +kernel, rfl⟩
def fX11_digest_83 (k37 : Nat → Int32 → ml_M → Option (Int64 × ml_M)) (l0 : Nat) (l1 : Int32) (m : ml_M) : Option (Int64 × ml_M) :=
    k37 l0 (l1 + (1 : Int32)) m
theorem vX11_digest_83 {E : ml_E} (hL : ml_eL E = 3) {rv : Int64} {rm : ml_M} (hr : ∀ (pc pc' : Nat) (lv : List (Nat × ml_X)), ml_d cX11_digest pc .lreturn 1 pc' → True → ml_V E "LostRoomModel" cX11_digest 6 false rm pc lv [ml_l rv]) {k37 : Nat → Int32 → ml_M → Option (Int64 × ml_M)} (hk37 : ∀ (l0 : Nat) (l1 : Int32) (m : ml_M), k37 l0 l1 m = some (rv, rm) → ml_V E "LostRoomModel" cX11_digest 6 false m 37 [(0, ml_r l0), (1, ml_i l1)] []) : ∀ (l0 : Nat) (l1 : Int32) (m : ml_M), fX11_digest_83 k37 l0 l1 m = some (rv, rm) → ml_V E "LostRoomModel" cX11_digest 6 false m 83 [(0, ml_r l0), (1, ml_i l1)] [] := by
  intro l0 l1 m h
  unfold fX11_digest_83 at h
  exact ml_iinc (lv' := [(1, ml_i (l1 + (1 : Int32))), (0, ml_r l0)]) dX11_digest_83 1 rfl (congrArg (l1 + ·) kc_i1) (ml_hn hL rfl) rfl <| ml_goto dX11_digest_86 <| ml_V.sub [1, 0] rfl (hk37 _ _ _ h)
def fX11_digest_56 (k37 : Nat → Int32 → ml_M → Option (Int64 × ml_M)) : Nat → Nat → Int32 → Int32 → ml_M → Option (Int64 × ml_M)
  | 0, _, _, _, _ => none
  | fu + 1, l0, l1, l2, m =>
    if (ml_K m l0).1 = 11 then
    ml_let (ml_R m l0 4) fun a4087 =>
    if ml_in m a4087 20 l1 then
    if (ml_I m a4087 l1.toNatClampNeg) ≤ l2 then
    fX11_digest_83 k37 l0 l1 m
    else
    ml_b1 (fX11_rowAt l0 l1 l2 m) fun r4090 =>
    ml_b1 (fX11_mix l0 r4090.toInt64 m) fun m4092 =>
    (fX11_digest_56 k37 fu) l0 l1 (l2 + (1 : Int32)) m4092
    else none
    else none
theorem vX11_digest_56 {E : ml_E} (hL : ml_eL E = 3) {rv : Int64} {rm : ml_M} (hr : ∀ (pc pc' : Nat) (lv : List (Nat × ml_X)), ml_d cX11_digest pc .lreturn 1 pc' → True → ml_V E "LostRoomModel" cX11_digest 6 false rm pc lv [ml_l rv]) {k37 : Nat → Int32 → ml_M → Option (Int64 × ml_M)} (hk37 : ∀ (l0 : Nat) (l1 : Int32) (m : ml_M), k37 l0 l1 m = some (rv, rm) → ml_V E "LostRoomModel" cX11_digest 6 false m 37 [(0, ml_r l0), (1, ml_i l1)] []) : ∀ (fu : Nat) (l0 : Nat) (l1 : Int32) (l2 : Int32) (m : ml_M), fX11_digest_56 k37 fu l0 l1 l2 m = some (rv, rm) → ml_V E "LostRoomModel" cX11_digest 6 false m 56 [(0, ml_r l0), (1, ml_i l1), (2, ml_i l2)] [] := by
  intro fu
  induction fu with
  | zero => intro l0 l1 l2 m h; exact ml_none h
  | succ fu ih =>
    intro l0 l1 l2 m h
    have hk56 := ih
    unfold fX11_digest_56 at h
    exact ml_iload_n dX11_digest_56 2 rfl <| ml_aload_n dX11_digest_57 0 rfl <| ml_ck_of h fun hc4086 h => ml_getR dX11_digest_58 wb_64 hc4086 <| ml_lx (mk := ml_r) h fun a4087 h => ml_iload_n dX11_digest_61 1 rfl <| ml_ck_of h fun hi4088 h => ml_iald dX11_digest_62 hi4088 <| ml_icmp_ge dX11_digest_63 h (fun _ h => ml_V.sub [0, 1] rfl (vX11_digest_83 hL hr hk37 _ _ _ h)) (fun _ h => ml_aload_n dX11_digest_66 0 rfl <| ml_aload_n dX11_digest_67 0 rfl <| ml_iload_n dX11_digest_68 1 rfl <| ml_iload_n dX11_digest_69 2 rfl <| ml_b1_of h fun r4090 hv4089 h => ml_callV dX11_digest_70 wm_154 wb_109 hc4086 (sX11_rowAt hv4089) rfl (Nat.le_of_ble_eq_true rfl) (Nat.le_of_ble_eq_true rfl) rfl <| ml_i2l dX11_digest_73 <| ml_b1_of h fun m4092 hv4091 h => ml_callV dX11_digest_74 wm_847 wb_504 hc4086 (sX11_mix hv4091) rfl (Nat.le_of_ble_eq_true rfl) (Nat.le_of_ble_eq_true rfl) rfl <| ml_iinc (lv' := [(2, ml_i (l2 + (1 : Int32))), (0, ml_r l0), (1, ml_i l1)]) dX11_digest_77 2 rfl (congrArg (l2 + ·) kc_i1) (ml_hn hL rfl) rfl <| ml_goto dX11_digest_80 <| ml_V.sub [1, 2, 0] rfl (hk56 _ _ _ _ h))
def fX11_digest_136 (k91 : Nat → Int32 → ml_M → Option (Int64 × ml_M)) (l0 : Nat) (l1 : Int32) (m : ml_M) : Option (Int64 × ml_M) :=
    k91 l0 (l1 + (1 : Int32)) m
theorem vX11_digest_136 {E : ml_E} (hL : ml_eL E = 3) {rv : Int64} {rm : ml_M} (hr : ∀ (pc pc' : Nat) (lv : List (Nat × ml_X)), ml_d cX11_digest pc .lreturn 1 pc' → True → ml_V E "LostRoomModel" cX11_digest 6 false rm pc lv [ml_l rv]) {k91 : Nat → Int32 → ml_M → Option (Int64 × ml_M)} (hk91 : ∀ (l0 : Nat) (l1 : Int32) (m : ml_M), k91 l0 l1 m = some (rv, rm) → ml_V E "LostRoomModel" cX11_digest 6 false m 91 [(0, ml_r l0), (1, ml_i l1)] []) : ∀ (l0 : Nat) (l1 : Int32) (m : ml_M), fX11_digest_136 k91 l0 l1 m = some (rv, rm) → ml_V E "LostRoomModel" cX11_digest 6 false m 136 [(0, ml_r l0), (1, ml_i l1)] [] := by
  intro l0 l1 m h
  unfold fX11_digest_136 at h
  exact ml_iinc (lv' := [(1, ml_i (l1 + (1 : Int32))), (0, ml_r l0)]) dX11_digest_136 1 rfl (congrArg (l1 + ·) kc_i1) (ml_hn hL rfl) rfl <| ml_goto dX11_digest_139 <| ml_V.sub [1, 0] rfl (hk91 _ _ _ h)
def fX11_digest_109 (k91 : Nat → Int32 → ml_M → Option (Int64 × ml_M)) : Nat → Nat → Int32 → Int32 → ml_M → Option (Int64 × ml_M)
  | 0, _, _, _, _ => none
  | fu + 1, l0, l1, l2, m =>
    if (ml_K m l0).1 = 11 then
    ml_let (ml_R m l0 7) fun a4094 =>
    if ml_in m a4094 20 l1 then
    if (ml_I m a4094 l1.toNatClampNeg) ≤ l2 then
    fX11_digest_136 k91 l0 l1 m
    else
    ml_b1 (fX11_byteAt l0 l1 l2 m) fun r4097 =>
    ml_b1 (fX11_mix l0 r4097.toInt64 m) fun m4099 =>
    (fX11_digest_109 k91 fu) l0 l1 (l2 + (1 : Int32)) m4099
    else none
    else none
theorem vX11_digest_109 {E : ml_E} (hL : ml_eL E = 3) {rv : Int64} {rm : ml_M} (hr : ∀ (pc pc' : Nat) (lv : List (Nat × ml_X)), ml_d cX11_digest pc .lreturn 1 pc' → True → ml_V E "LostRoomModel" cX11_digest 6 false rm pc lv [ml_l rv]) {k91 : Nat → Int32 → ml_M → Option (Int64 × ml_M)} (hk91 : ∀ (l0 : Nat) (l1 : Int32) (m : ml_M), k91 l0 l1 m = some (rv, rm) → ml_V E "LostRoomModel" cX11_digest 6 false m 91 [(0, ml_r l0), (1, ml_i l1)] []) : ∀ (fu : Nat) (l0 : Nat) (l1 : Int32) (l2 : Int32) (m : ml_M), fX11_digest_109 k91 fu l0 l1 l2 m = some (rv, rm) → ml_V E "LostRoomModel" cX11_digest 6 false m 109 [(0, ml_r l0), (1, ml_i l1), (2, ml_i l2)] [] := by
  intro fu
  induction fu with
  | zero => intro l0 l1 l2 m h; exact ml_none h
  | succ fu ih =>
    intro l0 l1 l2 m h
    have hk109 := ih
    unfold fX11_digest_109 at h
    exact ml_iload_n dX11_digest_109 2 rfl <| ml_aload_n dX11_digest_110 0 rfl <| ml_ck_of h fun hc4093 h => ml_getR dX11_digest_111 wb_63 hc4093 <| ml_lx (mk := ml_r) h fun a4094 h => ml_iload_n dX11_digest_114 1 rfl <| ml_ck_of h fun hi4095 h => ml_iald dX11_digest_115 hi4095 <| ml_icmp_ge dX11_digest_116 h (fun _ h => ml_V.sub [0, 1] rfl (vX11_digest_136 hL hr hk91 _ _ _ h)) (fun _ h => ml_aload_n dX11_digest_119 0 rfl <| ml_aload_n dX11_digest_120 0 rfl <| ml_iload_n dX11_digest_121 1 rfl <| ml_iload_n dX11_digest_122 2 rfl <| ml_b1_of h fun r4097 hv4096 h => ml_callV dX11_digest_123 wm_236 wb_160 hc4093 (sX11_byteAt hv4096) rfl (Nat.le_of_ble_eq_true rfl) (Nat.le_of_ble_eq_true rfl) rfl <| ml_i2l dX11_digest_126 <| ml_b1_of h fun m4099 hv4098 h => ml_callV dX11_digest_127 wm_847 wb_504 hc4093 (sX11_mix hv4098) rfl (Nat.le_of_ble_eq_true rfl) (Nat.le_of_ble_eq_true rfl) rfl <| ml_iinc (lv' := [(2, ml_i (l2 + (1 : Int32))), (0, ml_r l0), (1, ml_i l1)]) dX11_digest_130 2 rfl (congrArg (l2 + ·) kc_i1) (ml_hn hL rfl) rfl <| ml_goto dX11_digest_133 <| ml_V.sub [1, 2, 0] rfl (hk109 _ _ _ _ h))
def fX11_digest_142 (l0 : Nat) (m : ml_M) : Option (Int64 × ml_M) :=
    if (ml_K m l0).1 = 11 then
    some ((ml_J m l0 48), m)
    else none
theorem vX11_digest_142 {E : ml_E} (hL : ml_eL E = 3) {rv : Int64} {rm : ml_M} (hr : ∀ (pc pc' : Nat) (lv : List (Nat × ml_X)), ml_d cX11_digest pc .lreturn 1 pc' → True → ml_V E "LostRoomModel" cX11_digest 6 false rm pc lv [ml_l rv]) : ∀ (l0 : Nat) (m : ml_M), fX11_digest_142 l0 m = some (rv, rm) → ml_V E "LostRoomModel" cX11_digest 6 false m 142 [(0, ml_r l0)] [] := by
  intro l0 m h
  unfold fX11_digest_142 at h
  exact ml_aload_n dX11_digest_142 0 rfl <| ml_ck_of h fun hc4100 h => ml_getJ dX11_digest_143 wb_502 hc4100 <| ml_rI (mk := ml_l) hr dX11_digest_146 (fun _ => trivial) h
def fX11_digest_91 : Nat → Nat → Int32 → ml_M → Option (Int64 × ml_M)
  | 0, _, _, _ => none
  | fu + 1, l0, l1, m =>
    if (4 : Int32) ≤ l1 then
    fX11_digest_142 l0 m
    else
    if (ml_K m l0).1 = 11 then
    ml_let (ml_R m l0 7) fun a4102 =>
    if ml_in m a4102 20 l1 then
    ml_b1 (fX11_mix l0 ((ml_I m a4102 l1.toNatClampNeg).toInt64) m) fun m4105 =>
    fX11_digest_109 (fX11_digest_91 fu) ml_fu l0 l1 (0 : Int32) m4105
    else none
    else none
theorem vX11_digest_91 {E : ml_E} (hL : ml_eL E = 3) {rv : Int64} {rm : ml_M} (hr : ∀ (pc pc' : Nat) (lv : List (Nat × ml_X)), ml_d cX11_digest pc .lreturn 1 pc' → True → ml_V E "LostRoomModel" cX11_digest 6 false rm pc lv [ml_l rv]) : ∀ (fu : Nat) (l0 : Nat) (l1 : Int32) (m : ml_M), fX11_digest_91 fu l0 l1 m = some (rv, rm) → ml_V E "LostRoomModel" cX11_digest 6 false m 91 [(0, ml_r l0), (1, ml_i l1)] [] := by
  intro fu
  induction fu with
  | zero => intro l0 l1 m h; exact ml_none h
  | succ fu ih =>
    intro l0 l1 m h
    have hk91 := ih
    unfold fX11_digest_91 at h
    exact ml_iload_n dX11_digest_91 1 rfl <| ml_iconst dX11_digest_92 kc_i4 <| ml_icmp_ge dX11_digest_93 h (fun _ h => ml_V.sub [0] rfl (vX11_digest_142 hL hr  _ _ h)) (fun _ h => ml_aload_n dX11_digest_96 0 rfl <| ml_aload_n dX11_digest_97 0 rfl <| ml_ck_of h fun hc4101 h => ml_getR dX11_digest_98 wb_63 hc4101 <| ml_lx (mk := ml_r) h fun a4102 h => ml_iload_n dX11_digest_101 1 rfl <| ml_ck_of h fun hi4103 h => ml_iald dX11_digest_102 hi4103 <| ml_i2l dX11_digest_103 <| ml_b1_of h fun m4105 hv4104 h => ml_callV dX11_digest_104 wm_847 wb_504 hc4101 (sX11_mix hv4104) rfl (Nat.le_of_ble_eq_true rfl) (Nat.le_of_ble_eq_true rfl) rfl <| ml_iconst dX11_digest_107 kc_i0 <| ml_istore_n (lv' := [(2, ml_i (0 : Int32)), (0, ml_r l0), (1, ml_i l1)]) dX11_digest_108 (ml_hn hL rfl) rfl <| ml_V.sub [1, 2, 0] rfl (vX11_digest_109 hL hr hk91 ml_fu _ _ _ _ h))
def fX11_digest_89 (l0 : Nat) (m : ml_M) : Option (Int64 × ml_M) :=
    fX11_digest_91 ml_fu l0 (0 : Int32) m
theorem vX11_digest_89 {E : ml_E} (hL : ml_eL E = 3) {rv : Int64} {rm : ml_M} (hr : ∀ (pc pc' : Nat) (lv : List (Nat × ml_X)), ml_d cX11_digest pc .lreturn 1 pc' → True → ml_V E "LostRoomModel" cX11_digest 6 false rm pc lv [ml_l rv]) : ∀ (l0 : Nat) (m : ml_M), fX11_digest_89 l0 m = some (rv, rm) → ml_V E "LostRoomModel" cX11_digest 6 false m 89 [(0, ml_r l0)] [] := by
  intro l0 m h
  unfold fX11_digest_89 at h
  exact ml_iconst dX11_digest_89 kc_i0 <| ml_istore_n (lv' := [(1, ml_i (0 : Int32)), (0, ml_r l0)]) dX11_digest_90 (ml_hn hL rfl) rfl <| ml_V.sub [1, 0] rfl (vX11_digest_91 hL hr  ml_fu _ _ _ h)
def fX11_digest_37 : Nat → Nat → Int32 → ml_M → Option (Int64 × ml_M)
  | 0, _, _, _ => none
  | fu + 1, l0, l1, m =>
    if (6 : Int32) ≤ l1 then
    fX11_digest_89 l0 m
    else
    if (ml_K m l0).1 = 11 then
    ml_let (ml_R m l0 4) fun a4107 =>
    if ml_in m a4107 20 l1 then
    ml_b1 (fX11_mix l0 ((ml_I m a4107 l1.toNatClampNeg).toInt64) m) fun m4110 =>
    fX11_digest_56 (fX11_digest_37 fu) ml_fu l0 l1 (0 : Int32) m4110
    else none
    else none
theorem vX11_digest_37 {E : ml_E} (hL : ml_eL E = 3) {rv : Int64} {rm : ml_M} (hr : ∀ (pc pc' : Nat) (lv : List (Nat × ml_X)), ml_d cX11_digest pc .lreturn 1 pc' → True → ml_V E "LostRoomModel" cX11_digest 6 false rm pc lv [ml_l rv]) : ∀ (fu : Nat) (l0 : Nat) (l1 : Int32) (m : ml_M), fX11_digest_37 fu l0 l1 m = some (rv, rm) → ml_V E "LostRoomModel" cX11_digest 6 false m 37 [(0, ml_r l0), (1, ml_i l1)] [] := by
  intro fu
  induction fu with
  | zero => intro l0 l1 m h; exact ml_none h
  | succ fu ih =>
    intro l0 l1 m h
    have hk37 := ih
    unfold fX11_digest_37 at h
    exact ml_iload_n dX11_digest_37 1 rfl <| ml_bipush dX11_digest_38 kc_b6 <| ml_icmp_ge dX11_digest_40 h (fun _ h => ml_V.sub [0] rfl (vX11_digest_89 hL hr  _ _ h)) (fun _ h => ml_aload_n dX11_digest_43 0 rfl <| ml_aload_n dX11_digest_44 0 rfl <| ml_ck_of h fun hc4106 h => ml_getR dX11_digest_45 wb_64 hc4106 <| ml_lx (mk := ml_r) h fun a4107 h => ml_iload_n dX11_digest_48 1 rfl <| ml_ck_of h fun hi4108 h => ml_iald dX11_digest_49 hi4108 <| ml_i2l dX11_digest_50 <| ml_b1_of h fun m4110 hv4109 h => ml_callV dX11_digest_51 wm_847 wb_504 hc4106 (sX11_mix hv4109) rfl (Nat.le_of_ble_eq_true rfl) (Nat.le_of_ble_eq_true rfl) rfl <| ml_iconst dX11_digest_54 kc_i0 <| ml_istore_n (lv' := [(2, ml_i (0 : Int32)), (0, ml_r l0), (1, ml_i l1)]) dX11_digest_55 (ml_hn hL rfl) rfl <| ml_V.sub [1, 2, 0] rfl (vX11_digest_56 hL hr hk37 ml_fu _ _ _ _ h))
def fX11_digest_31 (l0 : Nat) (m : ml_M) : Option (Int64 × ml_M) :=
    if (ml_K m l0).1 = 11 then
    ml_b1 (fX11_mixRoom l0 m) fun m4113 =>
    fX11_digest_37 ml_fu l0 (0 : Int32) m4113
    else none
theorem vX11_digest_31 {E : ml_E} (hL : ml_eL E = 3) {rv : Int64} {rm : ml_M} (hr : ∀ (pc pc' : Nat) (lv : List (Nat × ml_X)), ml_d cX11_digest pc .lreturn 1 pc' → True → ml_V E "LostRoomModel" cX11_digest 6 false rm pc lv [ml_l rv]) : ∀ (l0 : Nat) (m : ml_M), fX11_digest_31 l0 m = some (rv, rm) → ml_V E "LostRoomModel" cX11_digest 6 false m 31 [(0, ml_r l0)] [] := by
  intro l0 m h
  unfold fX11_digest_31 at h
  exact ml_aload_n dX11_digest_31 0 rfl <| ml_ck_of h fun hc4112 h => ml_b1_of h fun m4113 hv4111 h => ml_callV dX11_digest_32 wm_851 wb_505 hc4112 (sX11_mixRoom hv4111) rfl (Nat.le_of_ble_eq_true rfl) (Nat.le_of_ble_eq_true rfl) rfl <| ml_iconst dX11_digest_35 kc_i0 <| ml_istore_n (lv' := [(1, ml_i (0 : Int32)), (0, ml_r l0)]) dX11_digest_36 (ml_hn hL rfl) rfl <| ml_V.sub [1, 0] rfl (vX11_digest_37 hL hr  ml_fu _ _ _ h)
def fX11_digest_9 : Nat → Nat → Int32 → ml_M → Option (Int64 × ml_M)
  | 0, _, _, _ => none
  | fu + 1, l0, l1, m =>
    if (9 : Int32) ≤ l1 then
    fX11_digest_31 l0 m
    else
    if (ml_K m l0).1 = 11 then
    ml_b1 (fX11_counted l0 l1 m) fun r4116 =>
    ml_b1 (fX11_mix l0 r4116.toInt64 m) fun m4118 =>
    (fX11_digest_9 fu) l0 (l1 + (1 : Int32)) m4118
    else none
theorem vX11_digest_9 {E : ml_E} (hL : ml_eL E = 3) {rv : Int64} {rm : ml_M} (hr : ∀ (pc pc' : Nat) (lv : List (Nat × ml_X)), ml_d cX11_digest pc .lreturn 1 pc' → True → ml_V E "LostRoomModel" cX11_digest 6 false rm pc lv [ml_l rv]) : ∀ (fu : Nat) (l0 : Nat) (l1 : Int32) (m : ml_M), fX11_digest_9 fu l0 l1 m = some (rv, rm) → ml_V E "LostRoomModel" cX11_digest 6 false m 9 [(0, ml_r l0), (1, ml_i l1)] [] := by
  intro fu
  induction fu with
  | zero => intro l0 l1 m h; exact ml_none h
  | succ fu ih =>
    intro l0 l1 m h
    have hk9 := ih
    unfold fX11_digest_9 at h
    exact ml_iload_n dX11_digest_9 1 rfl <| ml_bipush dX11_digest_10 kc_b9 <| ml_icmp_ge dX11_digest_12 h (fun _ h => ml_V.sub [0] rfl (vX11_digest_31 hL hr  _ _ h)) (fun _ h => ml_aload_n dX11_digest_15 0 rfl <| ml_aload_n dX11_digest_16 0 rfl <| ml_iload_n dX11_digest_17 1 rfl <| ml_ck_of h fun hc4115 h => ml_b1_of h fun r4116 hv4114 h => ml_callV dX11_digest_18 wm_812 wb_489 hc4115 (sX11_counted hv4114) rfl (Nat.le_of_ble_eq_true rfl) (Nat.le_of_ble_eq_true rfl) rfl <| ml_i2l dX11_digest_21 <| ml_b1_of h fun m4118 hv4117 h => ml_callV dX11_digest_22 wm_847 wb_504 hc4115 (sX11_mix hv4117) rfl (Nat.le_of_ble_eq_true rfl) (Nat.le_of_ble_eq_true rfl) rfl <| ml_iinc (lv' := [(1, ml_i (l1 + (1 : Int32))), (0, ml_r l0)]) dX11_digest_25 1 rfl (congrArg (l1 + ·) kc_i1) (ml_hn hL rfl) rfl <| ml_goto dX11_digest_28 <| ml_V.sub [1, 0] rfl (hk9 _ _ _ h))
def fX11_digest (l0 : Nat) (m : ml_M) : Option (Int64 × ml_M) :=
    if (ml_K m l0).1 = 11 then
    ml_let (ml_sJ m l0 48 (17 : Int64)) fun m4120 =>
    fX11_digest_9 ml_fu l0 (0 : Int32) m4120
    else none
theorem wX11_digest_0 {E : ml_E} (hL : ml_eL E = 3) {rv : Int64} {rm : ml_M} (hr : ∀ (pc pc' : Nat) (lv : List (Nat × ml_X)), ml_d cX11_digest pc .lreturn 1 pc' → True → ml_V E "LostRoomModel" cX11_digest 6 false rm pc lv [ml_l rv]) : ∀ (l0 : Nat) (m : ml_M), fX11_digest l0 m = some (rv, rm) → ml_V E "LostRoomModel" cX11_digest 6 false m 0 [(0, ml_r l0)] [] := by
  intro l0 m h
  unfold fX11_digest at h
  exact ml_aload_n dX11_digest_0 0 rfl <| ml_ldc2 dX11_digest_1 wm_852 <| ml_ck_of h fun hc4119 h => ml_putJ dX11_digest_4 wb_503 hc4119 <| ml_lt (m := m) rfl h fun m4120 em4121 h => ml_iconst dX11_digest_7 kc_i0 <| ml_istore_n (lv' := [(1, ml_i (0 : Int32)), (0, ml_r l0)]) dX11_digest_8 (ml_hn hL rfl) rfl <| ml_V.sub [1, 0] rfl (vX11_digest_9 hL hr  ml_fu _ _ _ h)
theorem sX11_digest {l0 : Nat} {m : ml_M} {rv : Int64} {rm : ml_M} (h : fX11_digest l0 m = some (rv, rm)) : ml_Sn yX11_digest cX11_digest 3 (some .long) 6 [ml_r l0] m (some (ml_l rv)) rm :=
  ml_Sn_of (P := True) (ini := false) (by decide +kernel) (Nat.le_of_ble_eq_true rfl) (fun h => by cases h) (fun _ => ml_RkJ rv) fun E hL hr => wX11_digest_0 hL hr _ _ h

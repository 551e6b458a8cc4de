/-! printed by wip/whole/emit.py out of the claim's own listing -/
theorem dX10_fits_0 : ml_d cX10_fits 0 (.lconst 1) 1 1 := ⟨by decide +kernel, rfl⟩
theorem dX10_fits_1 : ml_d cX10_fits 1 (.lstore_n 1) 1 2 := ⟨by decide +kernel, rfl⟩
theorem dX10_fits_2 : ml_d cX10_fits 2 (.iconst 0) 1 3 := ⟨by decide +kernel, rfl⟩
theorem dX10_fits_3 : ml_d cX10_fits 3 (.istore_n 3) 1 4 := ⟨by decide +kernel, rfl⟩
theorem dX10_fits_4 : ml_d cX10_fits 4 (.iload_n 3) 1 5 := ⟨by decide +kernel, rfl⟩
theorem dX10_fits_5 : ml_d cX10_fits 5 (.aload_n 0) 1 6 := ⟨by decide +kernel, rfl⟩
theorem dX10_fits_6 : ml_d cX10_fits 6 (.getfield 118) 3 9 := ⟨by decide +kernel, rfl⟩
theorem dX10_fits_9 : ml_j cX10_fits 9 (.if_icmp .ge) 34 12 := ⟨25, by decide +kernel, by decide, rfl⟩
theorem dX10_fits_12 : ml_d cX10_fits 12 (.lload_n 1) 1 13 := ⟨by decide +kernel, rfl⟩
theorem dX10_fits_13 : ml_d cX10_fits 13 (.aload_n 0) 1 14 := ⟨by decide +kernel, rfl⟩
theorem dX10_fits_14 : ml_d cX10_fits 14 (.getfield 36) 3 17 := ⟨by decide +kernel, rfl⟩
theorem dX10_fits_17 : ml_d cX10_fits 17 (.iload_n 3) 1 18 := ⟨by decide +kernel, rfl⟩
theorem dX10_fits_18 : ml_d cX10_fits 18 (.aaload) 1 19 := ⟨by decide +kernel, rfl⟩
theorem dX10_fits_19 : ml_d cX10_fits 19 (.getfield 169) 3 22 := ⟨by decide +kernel, rfl⟩
theorem dX10_fits_22 : ml_d cX10_fits 22 (.invokestatic 196) 3 25 := ⟨by decide +kernel, rfl⟩
theorem dX10_fits_25 : ml_d cX10_fits 25 (.i2l) 1 26 := ⟨by decide +kernel, rfl⟩
theorem dX10_fits_26 : ml_d cX10_fits 26 (.lmul) 1 27 := ⟨by decide +kernel, rfl⟩
theorem dX10_fits_27 : ml_d cX10_fits 27 (.lstore_n 1) 1 28 := ⟨by decide +kernel, rfl⟩
theorem dX10_fits_28 : ml_d cX10_fits 28 (.iinc 3 1) 3 31 := ⟨by decide +kernel, rfl⟩
theorem dX10_fits_31 : ml_j cX10_fits 31 .goto 4 34 := ⟨(-27), by decide +kernel, by decide, rfl⟩
theorem dX10_fits_34 : ml_d cX10_fits 34 (.aload_n 0) 1 35 := ⟨by decide +kernel, rfl⟩
theorem dX10_fits_35 : ml_d cX10_fits 35 (.lload_n 1) 1 36 := ⟨by decide +kernel, rfl⟩
theorem dX10_fits_36 : ml_d cX10_fits 36 (.putfield 206) 3 39 := ⟨by decide +kernel, rfl⟩
theorem dX10_fits_39 : ml_d cX10_fits 39 (.lload_n 1) 1 40 := ⟨by decide +kernel, rfl⟩
theorem dX10_fits_40 : ml_d cX10_fits 40 (.lconst 0) 1 41 := ⟨by decide +kernel, rfl⟩
theorem dX10_fits_41 : ml_d cX10_fits 41 (.lcmp) 1 42 := ⟨by decide +kernel, rfl⟩
theorem dX10_fits_42 : ml_j cX10_fits 42 (.ifCond .ne) 49 45 := ⟨7, by decide +kernel, by decide, rfl⟩
theorem dX10_fits_45 : ml_d cX10_fits 45 (.iconst 0) 1 46 := ⟨by decide +kernel, rfl⟩
theorem dX10_fits_46 : ml_j cX10_fits 46 .goto 50 49 := ⟨4, by decide +kernel, by decide, rfl⟩
theorem dX10_fits_49 : ml_d cX10_fits 49 (.iconst 1) 1 50 := ⟨by decide +kernel, rfl⟩
theorem dX10_fits_50 : ml_d cX10_fits 50 (.ireturn) 1 51 := ⟨by decide +kernel, rfl⟩
def fX10_fits_34 (l0 : Nat) (l1 : Int64) (m : ml_M) : Option (Int32 × ml_M) :=
    if (ml_K m l0).1 = 10 then
    ml_let (ml_sJ m l0 16 l1) fun m1901 =>
    if (lg_cmp l1 (0 : Int64)) = 0 then
    some ((0 : Int32), m1901)
    else
    some ((1 : Int32), m1901)
    else none
theorem vX10_fits_34 {E : ml_E} (hL : ml_eL E = 4) {rv : Int32} {rm : ml_M} (hr : ∀ (pc pc' : Nat) (lv : List (Nat × ml_X)), ml_d cX10_fits pc .ireturn 1 pc' → True → ml_V E "LostRoom" cX10_fits 3 false rm pc lv [ml_i rv]) : ∀ (l0 : Nat) (l1 : Int64) (m : ml_M), fX10_fits_34 l0 l1 m = some (rv, rm) → ml_V E "LostRoom" cX10_fits 3 false m 34 [(0, ml_r l0), (1, ml_l l1)] [] := by
  intro l0 l1 m h
  unfold fX10_fits_34 at h
  exact ml_aload_n dX10_fits_34 0 rfl <| ml_lload_n dX10_fits_35 1 rfl <| ml_ck_of h fun hc1900 h => ml_putJ dX10_fits_36 wb_290 hc1900 <| ml_lt (m := m) rfl h fun m1901 em1902 h => ml_lload_n dX10_fits_39 1 rfl <| ml_lconst dX10_fits_40 rfl <| ml_lcmp dX10_fits_41 <| ml_if_ne dX10_fits_42 h (fun _ h => ml_iconst dX10_fits_49 kc_i1 <| ml_rI (mk := ml_i) hr dX10_fits_50 (fun _ => trivial) h) (fun _ h => ml_iconst dX10_fits_45 kc_i0 <| ml_goto dX10_fits_46 <| ml_rI (mk := ml_i) hr dX10_fits_50 (fun _ => trivial) h)
def fX10_fits_4 : Nat → Nat → Int64 → Int32 → ml_M → Option (Int32 × ml_M)
  | 0, _, _, _, _ => none
  | fu + 1, l0, l1, l3, m =>
    if (ml_K m l0).1 = 10 then
    if (ml_I m l0 5) ≤ l3 then
    fX10_fits_34 l0 l1 m
    else
    ml_let (ml_R m l0 4) fun a1904 =>
    if ml_in m a1904 29 l3 then
    ml_let (ml_R m a1904 l3.toNatClampNeg) fun a1906 =>
    if (ml_K m a1906).1 = 8 then
    ml_b1 (fJ6_bitCount_0f7a4 (ml_I m a1906 5) m) fun r1909 =>
    ml_let (l1 * r1909.toInt64) fun x1910 =>
    (fX10_fits_4 fu) l0 x1910 (l3 + (1 : Int32)) m
    else none
    else none
    else none
theorem vX10_fits_4 {E : ml_E} (hL : ml_eL E = 4) {rv : Int32} {rm : ml_M} (hr : ∀ (pc pc' : Nat) (lv : List (Nat × ml_X)), ml_d cX10_fits pc .ireturn 1 pc' → True → ml_V E "LostRoom" cX10_fits 3 false rm pc lv [ml_i rv]) : ∀ (fu : Nat) (l0 : Nat) (l1 : Int64) (l3 : Int32) (m : ml_M), fX10_fits_4 fu l0 l1 l3 m = some (rv, rm) → ml_V E "LostRoom" cX10_fits 3 false m 4 [(0, ml_r l0), (1, ml_l l1), (3, ml_i l3)] [] := by
  intro fu
  induction fu with
  | zero => intro l0 l1 l3 m h; exact ml_none h
  | succ fu ih =>
    intro l0 l1 l3 m h
    have hk4 := ih
    unfold fX10_fits_4 at h
    exact ml_iload_n dX10_fits_4 2 rfl <| ml_aload_n dX10_fits_5 0 rfl <| ml_ck_of h fun hc1903 h => ml_getI dX10_fits_6 wb_217 hc1903 <| ml_icmp_ge dX10_fits_9 h (fun _ h => ml_V.sub [0, 1] rfl (vX10_fits_34 hL hr  _ _ _ h)) (fun _ h => ml_lload_n dX10_fits_12 1 rfl <| ml_aload_n dX10_fits_13 0 rfl <| ml_getR dX10_fits_14 wb_218 hc1903 <| ml_lx (mk := ml_r) h fun a1904 h => ml_iload_n dX10_fits_17 2 rfl <| ml_ck_of h fun hi1905 h => ml_aald (kd := 29) dX10_fits_18 (by decide) hi1905 <| ml_lx (mk := ml_r) h fun a1906 h => ml_ck_of h fun hc1907 h => ml_getI dX10_fits_19 wb_281 hc1907 <| ml_b1_of h fun r1909 hv1908 h => ml_callS dX10_fits_22 wm_459 wb_287 (sJ6_bitCount_0f7a4 hv1908) rfl (Nat.le_of_ble_eq_true rfl) (Nat.le_of_ble_eq_true rfl) rfl <| ml_i2l dX10_fits_25 <| ml_lmul dX10_fits_26 <| ml_lx (mk := ml_l) h fun x1910 h => ml_lstore_n (lv' := [(1, ml_l x1910), (0, ml_r l0), (3, ml_i l3)]) dX10_fits_27 (ml_hn hL rfl) rfl <| ml_iinc (lv' := [(3, ml_i (l3 + (1 : Int32))), (1, ml_l x1910), (0, ml_r l0)]) dX10_fits_28 2 rfl (congrArg (l3 + ·) kc_i1) (ml_hn hL rfl) rfl <| ml_goto dX10_fits_31 <| ml_V.sub [2, 1, 0] rfl (hk4 _ _ _ _ h))
def fX10_fits (l0 : Nat) (m : ml_M) : Option (Int32 × ml_M) :=
    fX10_fits_4 ml_fu l0 (1 : Int64) (0 : Int32) m
theorem wX10_fits_0 {E : ml_E} (hL : ml_eL E = 4) {rv : Int32} {rm : ml_M} (hr : ∀ (pc pc' : Nat) (lv : List (Nat × ml_X)), ml_d cX10_fits pc .ireturn 1 pc' → True → ml_V E "LostRoom" cX10_fits 3 false rm pc lv [ml_i rv]) : ∀ (l0 : Nat) (m : ml_M), fX10_fits l0 m = some (rv, rm) → ml_V E "LostRoom" cX10_fits 3 false m 0 [(0, ml_r l0)] [] := by
  intro l0 m h
  unfold fX10_fits at h
  exact ml_lconst dX10_fits_0 rfl <| ml_lstore_n (lv' := [(1, ml_l (1 : Int64)), (0, ml_r l0)]) dX10_fits_1 (ml_hn hL rfl) rfl <| ml_iconst dX10_fits_2 kc_i0 <| ml_istore_n (lv' := [(3, ml_i (0 : Int32)), (1, ml_l (1 : Int64)), (0, ml_r l0)]) dX10_fits_3 (ml_hn hL rfl) rfl <| ml_V.sub [2, 1, 0] rfl (vX10_fits_4 hL hr  ml_fu _ _ _ _ h)
theorem sX10_fits {l0 : Nat} {m : ml_M} {rv : Int32} {rm : ml_M} (h : fX10_fits l0 m = some (rv, rm)) : ml_Sn yX10_fits cX10_fits 4 (some .int) 3 [ml_r l0] m (some (ml_i rv)) rm :=
  ml_Sn_of (P := True) (ini := false) (by decide +kernel) (Nat.le_of_ble_eq_true rfl) (fun h => by cases h) (fun _ => ml_RkI rv) fun E hL hr => wX10_fits_0 hL hr _ _ h
theorem dX11_fits_0 : ml_d cX11_fits 0 (.aload_n 0) 1 1 := ⟨by decide +kernel, rfl⟩
theorem dX11_fits_1 : ml_d cX11_fits 1 (.lconst 1) 1 2 := ⟨by decide +kernel, rfl⟩
theorem dX11_fits_2 : ml_d cX11_fits 2 (.putfield 107) 3 5 := ⟨by decide +kernel, rfl⟩
theorem dX11_fits_5 : ml_d cX11_fits 5 (.iconst 0) 1 6 := ⟨by decide +kernel, rfl⟩
theorem dX11_fits_6 : ml_d cX11_fits 6 (.istore_n 1) 1 7 := ⟨by decide +kernel, rfl⟩
theorem dX11_fits_7 : ml_d cX11_fits 7 (.iload_n 1) 1 8 := ⟨by decide +kernel, rfl⟩
theorem dX11_fits_8 : ml_d cX11_fits 8 (.aload_n 0) 1 9 := ⟨by decide +kernel, rfl⟩
theorem dX11_fits_9 : ml_d cX11_fits 9 (.getfield 181) 3 12 := ⟨by decide +kernel, rfl⟩
theorem dX11_fits_12 : ml_j cX11_fits 12 (.if_icmp .ge) 39 15 := ⟨27, by decide +kernel, by decide, rfl⟩
theorem dX11_fits_15 : ml_d cX11_fits 15 (.aload_n 0) 1 16 := ⟨by decide +kernel, rfl⟩
theorem dX11_fits_16 : ml_d cX11_fits 16 (.dup) 1 17 := ⟨by decide +kernel, rfl⟩
theorem dX11_fits_17 : ml_d cX11_fits 17 (.getfield 107) 3 20 := ⟨by decide +kernel, rfl⟩
theorem dX11_fits_20 : ml_d cX11_fits 20 (.aload_n 0) 1 21 := ⟨by decide +kernel, rfl⟩
theorem dX11_fits_21 : ml_d cX11_fits 21 (.iload_n 1) 1 22 := ⟨by decide +kernel, rfl⟩
theorem dX11_fits_22 : ml_d cX11_fits 22 (.invokevirtual 245) 3 25 := ⟨by decide +kernel, rfl⟩
theorem dX11_fits_25 : ml_d cX11_fits 25 (.invokestatic 251) 3 28 := ⟨by decide +kernel, rfl⟩
theorem dX11_fits_28 : ml_d cX11_fits 28 (.i2l) 1 29 := ⟨by decide +kernel, rfl⟩
theorem dX11_fits_29 : ml_d cX11_fits 29 (.lmul) 1 30 := ⟨by decide +kernel, rfl⟩
theorem dX11_fits_30 : ml_d cX11_fits 30 (.putfield 107) 3 33 := ⟨by decide +kernel, rfl⟩
theorem dX11_fits_33 : ml_d cX11_fits 33 (.iinc 1 1) 3 36 := ⟨by decide +kernel, rfl⟩
theorem dX11_fits_36 : ml_j cX11_fits 36 .goto 7 39 := ⟨(-29), by decide +kernel, by decide, rfl⟩
theorem dX11_fits_39 : ml_d cX11_fits 39 (.aload_n 0) 1 40 := ⟨by decide +kernel, rfl⟩
theorem dX11_fits_40 : ml_d cX11_fits 40 (.getfield 107) 3 43 := ⟨by decide +kernel, rfl⟩
theorem dX11_fits_43 : ml_d cX11_fits 43 (.lconst 0) 1 44 := ⟨by decide +kernel, rfl⟩
theorem dX11_fits_44 : ml_d cX11_fits 44 (.lcmp) 1 45 := ⟨by decide +kernel, rfl⟩
theorem dX11_fits_45 : ml_j cX11_fits 45 (.ifCond .le) 52 48 := ⟨7, by decide +kernel, by decide, rfl⟩
theorem dX11_fits_48 : ml_d cX11_fits 48 (.iconst 1) 1 49 := ⟨by decide +kernel, rfl⟩
theorem dX11_fits_49 : ml_j cX11_fits 49 .goto 53 52 := ⟨4, by decide +kernel, by decide, rfl⟩
theorem dX11_fits_52 : ml_d cX11_fits 52 (.iconst 0) 1 53 := ⟨by decide +kernel, rfl⟩
theorem dX11_fits_53 : ml_d cX11_fits 53 (.ireturn) 1 54 := ⟨by decide +kernel, rfl⟩
def fX11_fits_39 (l0 : Nat) (m : ml_M) : Option (Int32 × ml_M) :=
    if (ml_K m l0).1 = 11 then
    if (lg_cmp (ml_J m l0 3) (0 : Int64)) ≤ 0 then
    some ((0 : Int32), m)
    else
    some ((1 : Int32), m)
    else none
theorem vX11_fits_39 {E : ml_E} (hL : ml_eL E = 2) {rv : Int32} {rm : ml_M} (hr : ∀ (pc pc' : Nat) (lv : List (Nat × ml_X)), ml_d cX11_fits pc .ireturn 1 pc' → True → ml_V E "LostRoomModel" cX11_fits 5 false rm pc lv [ml_i rv]) : ∀ (l0 : Nat) (m : ml_M), fX11_fits_39 l0 m = some (rv, rm) → ml_V E "LostRoomModel" cX11_fits 5 false m 39 [(0, ml_r l0)] [] := by
  intro l0 m h
  unfold fX11_fits_39 at h
  exact ml_aload_n dX11_fits_39 0 rfl <| ml_ck_of h fun hc1911 h => ml_getJ dX11_fits_40 wb_291 hc1911 <| ml_lconst dX11_fits_43 rfl <| ml_lcmp dX11_fits_44 <| ml_if_le dX11_fits_45 h (fun _ h => ml_iconst dX11_fits_52 kc_i0 <| ml_rI (mk := ml_i) hr dX11_fits_53 (fun _ => trivial) h) (fun _ h => ml_iconst dX11_fits_48 kc_i1 <| ml_goto dX11_fits_49 <| ml_rI (mk := ml_i) hr dX11_fits_53 (fun _ => trivial) h)
def fX11_fits_7 : Nat → Nat → Int32 → ml_M → Option (Int32 × ml_M)
  | 0, _, _, _ => none
  | fu + 1, l0, l1, m =>
    if (ml_K m l0).1 = 11 then
    if (ml_I m l0 24) ≤ l1 then
    fX11_fits_39 l0 m
    else
    ml_b1 (fX11_mayOf l0 l1 m) fun r1914 =>
    ml_b1 (fX11_bits r1914 m) fun r1916 =>
    ml_let (ml_sJ m l0 3 ((ml_J m l0 3) * r1916.toInt64)) fun m1917 =>
    (fX11_fits_7 fu) l0 (l1 + (1 : Int32)) m1917
    else none
theorem vX11_fits_7 {E : ml_E} (hL : ml_eL E = 2) {rv : Int32} {rm : ml_M} (hr : ∀ (pc pc' : Nat) (lv : List (Nat × ml_X)), ml_d cX11_fits pc .ireturn 1 pc' → True → ml_V E "LostRoomModel" cX11_fits 5 false rm pc lv [ml_i rv]) : ∀ (fu : Nat) (l0 : Nat) (l1 : Int32) (m : ml_M), fX11_fits_7 fu l0 l1 m = some (rv, rm) → ml_V E "LostRoomModel" cX11_fits 5 false m 7 [(0, ml_r l0), (1, ml_i l1)] [] := by
  intro fu
  induction fu with
  | zero => intro l0 l1 m h; exact ml_none h
  | succ fu ih =>
    intro l0 l1 m h
    have hk7 := ih
    unfold fX11_fits_7 at h
    exact ml_iload_n dX11_fits_7 1 rfl <| ml_aload_n dX11_fits_8 0 rfl <| ml_ck_of h fun hc1912 h => ml_getI dX11_fits_9 wb_228 hc1912 <| ml_icmp_ge dX11_fits_12 h (fun _ h => ml_V.sub [0] rfl (vX11_fits_39 hL hr  _ _ h)) (fun _ h => ml_aload_n dX11_fits_15 0 rfl <| ml_dup dX11_fits_16 rfl <| ml_getJ dX11_fits_17 wb_291 hc1912 <| ml_aload_n dX11_fits_20 0 rfl <| ml_iload_n dX11_fits_21 1 rfl <| ml_b1_of h fun r1914 hv1913 h => ml_callV dX11_fits_22 wm_451 wb_285 hc1912 (sX11_mayOf hv1913) rfl (Nat.le_of_ble_eq_true rfl) (Nat.le_of_ble_eq_true rfl) rfl <| ml_b1_of h fun r1916 hv1915 h => ml_callS dX11_fits_25 wm_462 wb_288 (sX11_bits hv1915) rfl (Nat.le_of_ble_eq_true rfl) (Nat.le_of_ble_eq_true rfl) rfl <| ml_i2l dX11_fits_28 <| ml_lmul dX11_fits_29 <| ml_putJ dX11_fits_30 wb_292 hc1912 <| ml_lt (m := m) rfl h fun m1917 em1918 h => ml_iinc (lv' := [(1, ml_i (l1 + (1 : Int32))), (0, ml_r l0)]) dX11_fits_33 1 rfl (congrArg (l1 + ·) kc_i1) (ml_hn hL rfl) rfl <| ml_goto dX11_fits_36 <| ml_V.sub [1, 0] rfl (hk7 _ _ _ h))
def fX11_fits (l0 : Nat) (m : ml_M) : Option (Int32 × ml_M) :=
    if (ml_K m l0).1 = 11 then
    ml_let (ml_sJ m l0 3 (1 : Int64)) fun m1920 =>
    fX11_fits_7 ml_fu l0 (0 : Int32) m1920
    else none
theorem wX11_fits_0 {E : ml_E} (hL : ml_eL E = 2) {rv : Int32} {rm : ml_M} (hr : ∀ (pc pc' : Nat) (lv : List (Nat × ml_X)), ml_d cX11_fits pc .ireturn 1 pc' → True → ml_V E "LostRoomModel" cX11_fits 5 false rm pc lv [ml_i rv]) : ∀ (l0 : Nat) (m : ml_M), fX11_fits l0 m = some (rv, rm) → ml_V E "LostRoomModel" cX11_fits 5 false m 0 [(0, ml_r l0)] [] := by
  intro l0 m h
  unfold fX11_fits at h
  exact ml_aload_n dX11_fits_0 0 rfl <| ml_lconst dX11_fits_1 rfl <| ml_ck_of h fun hc1919 h => ml_putJ dX11_fits_2 wb_292 hc1919 <| ml_lt (m := m) rfl h fun m1920 em1921 h => ml_iconst dX11_fits_5 kc_i0 <| ml_istore_n (lv' := [(1, ml_i (0 : Int32)), (0, ml_r l0)]) dX11_fits_6 (ml_hn hL rfl) rfl <| ml_V.sub [1, 0] rfl (vX11_fits_7 hL hr  ml_fu _ _ _ h)
theorem sX11_fits {l0 : Nat} {m : ml_M} {rv : Int32} {rm : ml_M} (h : fX11_fits l0 m = some (rv, rm)) : ml_Sn yX11_fits cX11_fits 2 (some .int) 5 [ml_r l0] m (some (ml_i rv)) rm :=
  ml_Sn_of (P := True) (ini := false) (by decide +kernel) (Nat.le_of_ble_eq_true rfl) (fun h => by cases h) (fun _ => ml_RkI rv) fun E hL hr => wX11_fits_0 hL hr _ _ h
theorem dX10_turns_0 : ml_d cX10_turns 0 (.iconst 0) 1 1 := ⟨by decide +kernel, rfl⟩
theorem dX10_turns_1 : ml_d cX10_turns 1 (.istore_n 3) 1 2 := ⟨by decide +kernel, rfl⟩
theorem dX10_turns_2 : ml_d cX10_turns 2 (.iconst 1) 1 3 := ⟨by decide +kernel, rfl⟩
theorem dX10_turns_3 : ml_d cX10_turns 3 (.istore 4) 2 5 := ⟨by decide +kernel, rfl⟩
theorem dX10_turns_5 : ml_d cX10_turns 5 (.iload 4) 2 7 := ⟨by decide +kernel, rfl⟩
theorem dX10_turns_7 : ml_d cX10_turns 7 (.sipush 1000) 3 10 := ⟨by decide +kernel, rfl⟩
theorem dX10_turns_10 : ml_j cX10_turns 10 (.if_icmp .gt) 56 13 := ⟨46, by decide +kernel, by decide, rfl⟩
theorem dX10_turns_13 : ml_d cX10_turns 13 (.iload_n 1) 1 14 := ⟨by decide +kernel, rfl⟩
theorem dX10_turns_14 : ml_d cX10_turns 14 (.iload 4) 2 16 := ⟨by decide +kernel, rfl⟩
theorem dX10_turns_16 : ml_d cX10_turns 16 (.idiv) 1 17 := ⟨by decide +kernel, rfl⟩
theorem dX10_turns_17 : ml_d cX10_turns 17 (.bipush 10) 2 19 := ⟨by decide +kernel, rfl⟩
theorem dX10_turns_19 : ml_d cX10_turns 19 (.irem) 1 20 := ⟨by decide +kernel, rfl⟩
theorem dX10_turns_20 : ml_d cX10_turns 20 (.iload_n 2) 1 21 := ⟨by decide +kernel, rfl⟩
theorem dX10_turns_21 : ml_d cX10_turns 21 (.iload 4) 2 23 := ⟨by decide +kernel, rfl⟩
theorem dX10_turns_23 : ml_d cX10_turns 23 (.idiv) 1 24 := ⟨by decide +kernel, rfl⟩
theorem dX10_turns_24 : ml_d cX10_turns 24 (.bipush 10) 2 26 := ⟨by decide +kernel, rfl⟩
theorem dX10_turns_26 : ml_d cX10_turns 26 (.irem) 1 27 := ⟨by decide +kernel, rfl⟩
theorem dX10_turns_27 : ml_d cX10_turns 27 (.isub) 1 28 := ⟨by decide +kernel, rfl⟩
theorem dX10_turns_28 : ml_d cX10_turns 28 (.invokestatic 405) 3 31 := ⟨by decide +kernel, rfl⟩
theorem dX10_turns_31 : ml_d cX10_turns 31 (.istore 5) 2 33 := ⟨by decide +kernel, rfl⟩
theorem dX10_turns_33 : ml_d cX10_turns 33 (.iload 5) 2 35 := ⟨by decide +kernel, rfl⟩
theorem dX10_turns_35 : ml_d cX10_turns 35 (.iconst 1) 1 36 := ⟨by decide +kernel, rfl⟩
theorem dX10_turns_36 : ml_j cX10_turns 36 (.if_icmp .le) 41 39 := ⟨5, by decide +kernel, by decide, rfl⟩
theorem dX10_turns_39 : ml_d cX10_turns 39 (.iconst 0) 1 40 := ⟨by decide +kernel, rfl⟩
theorem dX10_turns_40 : ml_d cX10_turns 40 (.ireturn) 1 41 := ⟨by decide +kernel, rfl⟩
theorem dX10_turns_41 : ml_d cX10_turns 41 (.iload_n 3) 1 42 := ⟨by decide +kernel, rfl⟩
theorem dX10_turns_42 : ml_d cX10_turns 42 (.iload 5) 2 44 := ⟨by decide +kernel, rfl⟩
theorem dX10_turns_44 : ml_d cX10_turns 44 (.iadd) 1 45 := ⟨by decide +kernel, rfl⟩
theorem dX10_turns_45 : ml_d cX10_turns 45 (.istore_n 3) 1 46 := ⟨by decide +kernel, rfl⟩
theorem dX10_turns_46 : ml_d cX10_turns 46 (.iload 4) 2 48 := ⟨by decide +kernel, rfl⟩
theorem dX10_turns_48 : ml_d cX10_turns 48 (.bipush 10) 2 50 := ⟨by decide +kernel, rfl⟩
theorem dX10_turns_50 : ml_d cX10_turns 50 (.imul) 1 51 := ⟨by decide +kernel, rfl⟩
theorem dX10_turns_51 : ml_d cX10_turns 51 (.istore 4) 2 53 := ⟨by decide +kernel, rfl⟩
theorem dX10_turns_53 : ml_j cX10_turns 53 .goto 5 56 := ⟨(-48), by decide +kernel, by decide, rfl⟩
theorem dX10_turns_56 : ml_d cX10_turns 56 (.iload_n 3) 1 57 := ⟨by decide +kernel, rfl⟩
theorem dX10_turns_57 : ml_d cX10_turns 57 (.aload_n 0) 1 58 := ⟨by decide +kernel, rfl⟩
theorem dX10_turns_58 : ml_d cX10_turns 58 (.getfield 30) 3 61 := ⟨by decide +kernel, rfl⟩
theorem dX10_turns_61 : ml_j cX10_turns 61 (.if_icmp .gt) 68 64 := ⟨7, by decide +kernel, by decide, rfl⟩
theorem dX10_turns_64 : ml_d cX10_turns 64 (.iconst 1) 1 65 := ⟨by decide +kernel, rfl⟩
theorem dX10_turns_65 : ml_j cX10_turns 65 .goto 69 68 := ⟨4, by decide +kernel, by decide, rfl⟩
theorem dX10_turns_68 : ml_d cX10_turns 68 (.iconst 0) 1 69 := ⟨by decide +kernel, rfl⟩
theorem dX10_turns_69 : ml_d cX10_turns 69 (.ireturn) 1 70 := ⟨by decide +kernel, rfl⟩
def fX10_turns_56 (l0 : Nat) (l3 : Int32) (m : ml_M) : Option Int32 :=
    if (ml_K m l0).1 = 10 then
    if (ml_I m l0 3) < l3 then
    some (0 : Int32)
    else
    some (1 : Int32)
    else none
theorem vX10_turns_56 {E : ml_E} (hL : ml_eL E = 6) {rv : Int32} {m : ml_M} (hr : ∀ (pc pc' : Nat) (lv : List (Nat × ml_X)), ml_d cX10_turns pc .ireturn 1 pc' → (rv = 0 ∨ rv = 1) → ml_V E "LostRoom" cX10_turns 2 false m pc lv [ml_i rv]) : ∀ (l0 : Nat) (l3 : Int32), fX10_turns_56 l0 l3 m = some rv → ml_V E "LostRoom" cX10_turns 2 false m 56 [(0, ml_r l0), (3, ml_i l3)] [] := by
  intro l0 l3 h
  unfold fX10_turns_56 at h
  exact ml_iload_n dX10_turns_56 1 rfl <| ml_aload_n dX10_turns_57 0 rfl <| ml_ck_of h fun hc1922 h => ml_getI dX10_turns_58 wb_202 hc1922 <| ml_icmp_gt dX10_turns_61 h (fun _ h => ml_iconst dX10_turns_68 kc_i0 <| ml_rp (mk := ml_i) hr dX10_turns_69 (fun e => Or.inl e.symm) h) (fun _ h => ml_iconst dX10_turns_64 kc_i1 <| ml_goto dX10_turns_65 <| ml_rp (mk := ml_i) hr dX10_turns_69 (fun e => Or.inr e.symm) h)
def fX10_turns_5 : Nat → Nat → Int32 → Int32 → Int32 → Int32 → ml_M → Option Int32
  | 0, _, _, _, _, _, _ => none
  | fu + 1, l0, l1, l2, l3, l4, m =>
    if (1000 : Int32) < l4 then
    fX10_turns_56 l0 l3 m
    else
    if ¬ l4 = 0 then
    if ¬ l4 = 0 then
    ml_let (if 0 ≤ (((l1 / l4) - (l1 / l4) / (10 : Int32) * (10 : Int32)) - ((l2 / l4) - (l2 / l4) / (10 : Int32) * (10 : Int32))) then (((l1 / l4) - (l1 / l4) / (10 : Int32) * (10 : Int32)) - ((l2 / l4) - (l2 / l4) / (10 : Int32) * (10 : Int32))) else 0 - (((l1 / l4) - (l1 / l4) / (10 : Int32) * (10 : Int32)) - ((l2 / l4) - (l2 / l4) / (10 : Int32) * (10 : Int32)))) fun x1925 =>
    if x1925 ≤ (1 : Int32) then
    ml_let (l3 + x1925) fun x1926 =>
    ml_let (l4 * (10 : Int32)) fun x1927 =>
    (fX10_turns_5 fu) l0 l1 l2 x1926 x1927 m
    else
    some (0 : Int32)
    else none
    else none
theorem vX10_turns_5 {E : ml_E} (hL : ml_eL E = 6) {rv : Int32} {m : ml_M} (hr : ∀ (pc pc' : Nat) (lv : List (Nat × ml_X)), ml_d cX10_turns pc .ireturn 1 pc' → (rv = 0 ∨ rv = 1) → ml_V E "LostRoom" cX10_turns 2 false m pc lv [ml_i rv]) : ∀ (fu : Nat) (l0 : Nat) (l1 : Int32) (l2 : Int32) (l3 : Int32) (l4 : Int32), fX10_turns_5 fu l0 l1 l2 l3 l4 m = some rv → ml_V E "LostRoom" cX10_turns 2 false m 5 [(0, ml_r l0), (1, ml_i l1), (2, ml_i l2), (3, ml_i l3), (4, ml_i l4)] [] := by
  intro fu
  induction fu with
  | zero => intro l0 l1 l2 l3 l4 h; exact ml_none h
  | succ fu ih =>
    intro l0 l1 l2 l3 l4 h
    have hk5 := ih
    unfold fX10_turns_5 at h
    exact ml_iload dX10_turns_5 4 rfl <| ml_sipush dX10_turns_7 kc_s1000 <| ml_icmp_gt dX10_turns_10 h (fun _ h => ml_V.sub [0, 3] rfl (vX10_turns_56 hL hr  _ _ h)) (fun _ h => ml_iload_n dX10_turns_13 1 rfl <| ml_iload dX10_turns_14 4 rfl <| ml_ck_of h fun hz1923 h => ml_idiv dX10_turns_16 hz1923 <| ml_bipush dX10_turns_17 kc_b10 <| ml_irem dX10_turns_19 (by decide) <| ml_iload_n dX10_turns_20 2 rfl <| ml_iload dX10_turns_21 4 rfl <| ml_ck_of h fun hz1924 h => ml_idiv dX10_turns_23 hz1924 <| ml_bipush dX10_turns_24 kc_b10 <| ml_irem dX10_turns_26 (by decide) <| ml_isub dX10_turns_27 <| ml_mabs dX10_turns_28 wb_293 (Nat.le_of_ble_eq_true rfl) (Nat.le_of_ble_eq_true rfl) <| ml_lx (mk := ml_i) h fun x1925 h => ml_istore (lv' := [(5, ml_i x1925), (0, ml_r l0), (1, ml_i l1), (2, ml_i l2), (3, ml_i l3), (4, ml_i l4)]) dX10_turns_31 (ml_hn hL rfl) rfl <| ml_iload dX10_turns_33 0 rfl <| ml_iconst dX10_turns_35 kc_i1 <| ml_icmp_le dX10_turns_36 h (fun _ h => ml_iload_n dX10_turns_41 4 rfl <| ml_iload dX10_turns_42 0 rfl <| ml_iadd dX10_turns_44 <| ml_lx (mk := ml_i) h fun x1926 h => ml_istore_n (lv' := [(3, ml_i x1926), (5, ml_i x1925), (0, ml_r l0), (1, ml_i l1), (2, ml_i l2), (4, ml_i l4)]) dX10_turns_45 (ml_hn hL rfl) rfl <| ml_iload dX10_turns_46 5 rfl <| ml_bipush dX10_turns_48 kc_b10 <| ml_imul dX10_turns_50 <| ml_lx (mk := ml_i) h fun x1927 h => ml_istore (lv' := [(4, ml_i x1927), (3, ml_i x1926), (5, ml_i x1925), (0, ml_r l0), (1, ml_i l1), (2, ml_i l2)]) dX10_turns_51 (ml_hn hL rfl) rfl <| ml_goto dX10_turns_53 <| ml_V.sub [3, 4, 5, 1, 0] rfl (hk5 _ _ _ _ _ h)) (fun _ h => ml_iconst dX10_turns_39 kc_i0 <| ml_rp (mk := ml_i) hr dX10_turns_40 (fun e => Or.inl e.symm) h))
def fX10_turns (l0 : Nat) (l1 : Int32) (l2 : Int32) (m : ml_M) : Option Int32 :=
    fX10_turns_5 ml_fu l0 l1 l2 (0 : Int32) (1 : Int32) m
theorem wX10_turns_0 {E : ml_E} (hL : ml_eL E = 6) {rv : Int32} {m : ml_M} (hr : ∀ (pc pc' : Nat) (lv : List (Nat × ml_X)), ml_d cX10_turns pc .ireturn 1 pc' → (rv = 0 ∨ rv = 1) → ml_V E "LostRoom" cX10_turns 2 false m pc lv [ml_i rv]) : ∀ (l0 : Nat) (l1 : Int32) (l2 : Int32), fX10_turns l0 l1 l2 m = some rv → ml_V E "LostRoom" cX10_turns 2 false m 0 [(0, ml_r l0), (1, ml_i l1), (2, ml_i l2)] [] := by
  intro l0 l1 l2 h
  unfold fX10_turns at h
  exact ml_iconst dX10_turns_0 kc_i0 <| ml_istore_n (lv' := [(3, ml_i (0 : Int32)), (0, ml_r l0), (1, ml_i l1), (2, ml_i l2)]) dX10_turns_1 (ml_hn hL rfl) rfl <| ml_iconst dX10_turns_2 kc_i1 <| ml_istore (lv' := [(4, ml_i (1 : Int32)), (3, ml_i (0 : Int32)), (0, ml_r l0), (1, ml_i l1), (2, ml_i l2)]) dX10_turns_3 (ml_hn hL rfl) rfl <| ml_V.sub [2, 3, 4, 1, 0] rfl (vX10_turns_5 hL hr  ml_fu _ _ _ _ _ h)
theorem sX10_turns {l0 : Nat} {l1 : Int32} {l2 : Int32} {m : ml_M} {rv : Int32} (h : fX10_turns l0 l1 l2 m = some rv) : ml_Sn yX10_turns cX10_turns 6 (some .boolean) 2 [ml_r l0, ml_i l1, ml_i l2] m (some (ml_i rv)) m :=
  ml_Sn_of (P := (rv = 0 ∨ rv = 1)) (ini := false) (by decide +kernel) (Nat.le_of_ble_eq_true rfl) (fun h => by cases h) (fun hz => ml_RkZ rv hz) fun E hL hr => wX10_turns_0 hL hr _ _ _ h
theorem dX10_opened_0 : ml_d cX10_opened 0 (.iconst 0) 1 1 := ⟨by decide +kernel, rfl⟩
theorem dX10_opened_1 : ml_d cX10_opened 1 (.istore_n 2) 1 2 := ⟨by decide +kernel, rfl⟩
theorem dX10_opened_2 : ml_d cX10_opened 2 (.iconst 0) 1 3 := ⟨by decide +kernel, rfl⟩
theorem dX10_opened_3 : ml_d cX10_opened 3 (.istore_n 3) 1 4 := ⟨by decide +kernel, rfl⟩
theorem dX10_opened_4 : ml_d cX10_opened 4 (.iload_n 3) 1 5 := ⟨by decide +kernel, rfl⟩
theorem dX10_opened_5 : ml_d cX10_opened 5 (.aload_n 0) 1 6 := ⟨by decide +kernel, rfl⟩
theorem dX10_opened_6 : ml_d cX10_opened 6 (.getfield 26) 3 9 := ⟨by decide +kernel, rfl⟩
theorem dX10_opened_9 : ml_d cX10_opened 9 (.getfield 135) 3 12 := ⟨by decide +kernel, rfl⟩
theorem dX10_opened_12 : ml_j cX10_opened 12 (.if_icmp .ge) 50 15 := ⟨38, by decide +kernel, by decide, rfl⟩
theorem dX10_opened_15 : ml_d cX10_opened 15 (.aload_n 0) 1 16 := ⟨by decide +kernel, rfl⟩
theorem dX10_opened_16 : ml_d cX10_opened 16 (.aload_n 1) 1 17 := ⟨by decide +kernel, rfl⟩
theorem dX10_opened_17 : ml_d cX10_opened 17 (.getfield 399) 3 20 := ⟨by decide +kernel, rfl⟩
theorem dX10_opened_20 : ml_d cX10_opened 20 (.aload_n 0) 1 21 := ⟨by decide +kernel, rfl⟩
theorem dX10_opened_21 : ml_d cX10_opened 21 (.getfield 26) 3 24 := ⟨by decide +kernel, rfl⟩
theorem dX10_opened_24 : ml_d cX10_opened 24 (.getfield 219) 3 27 := ⟨by decide +kernel, rfl⟩
theorem dX10_opened_27 : ml_d cX10_opened 27 (.iload_n 3) 1 28 := ⟨by decide +kernel, rfl⟩
theorem dX10_opened_28 : ml_d cX10_opened 28 (.aaload) 1 29 := ⟨by decide +kernel, rfl⟩
theorem dX10_opened_29 : ml_d cX10_opened 29 (.getfield 381) 3 32 := ⟨by decide +kernel, rfl⟩
theorem dX10_opened_32 : ml_d cX10_opened 32 (.invokevirtual 402) 3 35 := ⟨by decide +kernel, rfl⟩
theorem dX10_opened_35 : ml_j cX10_opened 35 (.ifCond .eq) 44 38 := ⟨9, by decide +kernel, by decide, rfl⟩
theorem dX10_opened_38 : ml_d cX10_opened 38 (.iload_n 2) 1 39 := ⟨by decide +kernel, rfl⟩
theorem dX10_opened_39 : ml_d cX10_opened 39 (.iconst 1) 1 40 := ⟨by decide +kernel, rfl⟩
theorem dX10_opened_40 : ml_d cX10_opened 40 (.iload_n 3) 1 41 := ⟨by decide +kernel, rfl⟩
theorem dX10_opened_41 : ml_d cX10_opened 41 (.ishl) 1 42 := ⟨by decide +kernel, rfl⟩
theorem dX10_opened_42 : ml_d cX10_opened 42 (.ior) 1 43 := ⟨by decide +kernel, rfl⟩
theorem dX10_opened_43 : ml_d cX10_opened 43 (.istore_n 2) 1 44 := ⟨by decide +kernel, rfl⟩
theorem dX10_opened_44 : ml_d cX10_opened 44 (.iinc 3 1) 3 47 := ⟨by decide +kernel, rfl⟩
theorem dX10_opened_47 : ml_j cX10_opened 47 .goto 4 50 := ⟨(-43), by decide +kernel, by decide, rfl⟩
theorem dX10_opened_50 : ml_d cX10_opened 50 (.iload_n 2) 1 51 := ⟨by decide +kernel, rfl⟩
theorem dX10_opened_51 : ml_d cX10_opened 51 (.ireturn) 1 52 := ⟨by decide +kernel, rfl⟩
def fX10_opened_44 (k4 : Nat → Nat → Int32 → Int32 → ml_M → Option Int32) (l0 : Nat) (l1 : Nat) (l2 : Int32) (l3 : Int32) (m : ml_M) : Option Int32 :=
    k4 l0 l1 l2 (l3 + (1 : Int32)) m
theorem vX10_opened_44 {E : ml_E} (hL : ml_eL E = 4) {rv : Int32} {m : ml_M} (hr : ∀ (pc pc' : Nat) (lv : List (Nat × ml_X)), ml_d cX10_opened pc .ireturn 1 pc' → True → ml_V E "LostRoom" cX10_opened 3 false m pc lv [ml_i rv]) {k4 : Nat → Nat → Int32 → Int32 → ml_M → Option Int32} (hk4 : ∀ (l0 : Nat) (l1 : Nat) (l2 : Int32) (l3 : Int32), k4 l0 l1 l2 l3 m = some rv → ml_V E "LostRoom" cX10_opened 3 false m 4 [(0, ml_r l0), (1, ml_r l1), (2, ml_i l2), (3, ml_i l3)] []) : ∀ (l0 : Nat) (l1 : Nat) (l2 : Int32) (l3 : Int32), fX10_opened_44 k4 l0 l1 l2 l3 m = some rv → ml_V E "LostRoom" cX10_opened 3 false m 44 [(0, ml_r l0), (1, ml_r l1), (2, ml_i l2), (3, ml_i l3)] [] := by
  intro l0 l1 l2 l3 h
  unfold fX10_opened_44 at h
  exact ml_iinc (lv' := [(3, ml_i (l3 + (1 : Int32))), (0, ml_r l0), (1, ml_r l1), (2, ml_i l2)]) dX10_opened_44 3 rfl (congrArg (l3 + ·) kc_i1) (ml_hn hL rfl) rfl <| ml_goto dX10_opened_47 <| ml_V.sub [1, 2, 3, 0] rfl (hk4 _ _ _ _ h)
def fX10_opened_4 : Nat → Nat → Nat → Int32 → Int32 → ml_M → Option Int32
  | 0, _, _, _, _, _ => none
  | fu + 1, l0, l1, l2, l3, m =>
    if (ml_K m l0).1 = 10 then
    ml_let (ml_R m l0 2) fun a1929 =>
    if (ml_K m a1929).1 = 1 then
    if (ml_I m a1929 3) ≤ l3 then
    some l2
    else
    if (ml_K m l1).1 = 8 then
    ml_let (ml_R m l0 2) fun a1932 =>
    if (ml_K m a1932).1 = 1 then
    ml_let (ml_R m a1932 1) fun a1934 =>
    if ml_in m a1934 30 l3 then
    ml_let (ml_R m a1934 l3.toNatClampNeg) fun a1936 =>
    if (ml_K m a1936).1 = 9 then
    ml_b1 (fX10_turns l0 (ml_I m l1 3) (ml_I m a1936 0) m) fun r1939 =>
    if r1939 = 0 then
    fX10_opened_44 (fX10_opened_4 fu) l0 l1 l2 l3 m
    else
    ml_let (l2 ||| ((1 : Int32) <<< (l3 &&& 31))) fun x1940 =>
    fX10_opened_44 (fX10_opened_4 fu) l0 l1 x1940 l3 m
    else none
    else none
    else none
    else none
    else none
    else none
theorem vX10_opened_4 {E : ml_E} (hL : ml_eL E = 4) {rv : Int32} {m : ml_M} (hr : ∀ (pc pc' : Nat) (lv : List (Nat × ml_X)), ml_d cX10_opened pc .ireturn 1 pc' → True → ml_V E "LostRoom" cX10_opened 3 false m pc lv [ml_i rv]) : ∀ (fu : Nat) (l0 : Nat) (l1 : Nat) (l2 : Int32) (l3 : Int32), fX10_opened_4 fu l0 l1 l2 l3 m = some rv → ml_V E "LostRoom" cX10_opened 3 false m 4 [(0, ml_r l0), (1, ml_r l1), (2, ml_i l2), (3, ml_i l3)] [] := by
  intro fu
  induction fu with
  | zero => intro l0 l1 l2 l3 h; exact ml_none h
  | succ fu ih =>
    intro l0 l1 l2 l3 h
    have hk4 := ih
    unfold fX10_opened_4 at h
    exact ml_iload_n dX10_opened_4 3 rfl <| ml_aload_n dX10_opened_5 0 rfl <| ml_ck_of h fun hc1928 h => ml_getR dX10_opened_6 wb_189 hc1928 <| ml_lx (mk := ml_r) h fun a1929 h => ml_ck_of h fun hc1930 h => ml_getI dX10_opened_9 wb_190 hc1930 <| ml_icmp_ge dX10_opened_12 h (fun _ h => ml_iload_n dX10_opened_50 2 rfl <| ml_rp (mk := ml_i) hr dX10_opened_51 (fun _ => trivial) h) (fun _ h => ml_aload_n dX10_opened_15 0 rfl <| ml_aload_n dX10_opened_16 1 rfl <| ml_ck_of h fun hc1931 h => ml_getI dX10_opened_17 wb_294 hc1931 <| ml_aload_n dX10_opened_20 0 rfl <| ml_getR dX10_opened_21 wb_189 hc1928 <| ml_lx (mk := ml_r) h fun a1932 h => ml_ck_of h fun hc1933 h => ml_getR dX10_opened_24 wb_220 hc1933 <| ml_lx (mk := ml_r) h fun a1934 h => ml_iload_n dX10_opened_27 3 rfl <| ml_ck_of h fun hi1935 h => ml_aald (kd := 30) dX10_opened_28 (by decide) hi1935 <| ml_lx (mk := ml_r) h fun a1936 h => ml_ck_of h fun hc1937 h => ml_getI dX10_opened_29 wb_221 hc1937 <| ml_b1_of h fun r1939 hv1938 h => ml_callV dX10_opened_32 wm_474 wb_295 hc1928 (sX10_turns hv1938) rfl (Nat.le_of_ble_eq_true rfl) (Nat.le_of_ble_eq_true rfl) rfl <| ml_if_eq dX10_opened_35 h (fun _ h => ml_V.sub [0, 1, 2, 3] rfl (vX10_opened_44 hL hr hk4 _ _ _ _ h)) (fun _ h => ml_iload_n dX10_opened_38 2 rfl <| ml_iconst dX10_opened_39 kc_i1 <| ml_iload_n dX10_opened_40 3 rfl <| ml_ishl dX10_opened_41 <| ml_ior dX10_opened_42 <| ml_lx (mk := ml_i) h fun x1940 h => ml_istore_n (lv' := [(2, ml_i x1940), (0, ml_r l0), (1, ml_r l1), (3, ml_i l3)]) dX10_opened_43 (ml_hn hL rfl) rfl <| ml_V.sub [1, 2, 0, 3] rfl (vX10_opened_44 hL hr hk4 _ _ _ _ h)))
def fX10_opened (l0 : Nat) (l1 : Nat) (m : ml_M) : Option Int32 :=
    fX10_opened_4 ml_fu l0 l1 (0 : Int32) (0 : Int32) m
theorem wX10_opened_0 {E : ml_E} (hL : ml_eL E = 4) {rv : Int32} {m : ml_M} (hr : ∀ (pc pc' : Nat) (lv : List (Nat × ml_X)), ml_d cX10_opened pc .ireturn 1 pc' → True → ml_V E "LostRoom" cX10_opened 3 false m pc lv [ml_i rv]) : ∀ (l0 : Nat) (l1 : Nat), fX10_opened l0 l1 m = some rv → ml_V E "LostRoom" cX10_opened 3 false m 0 [(0, ml_r l0), (1, ml_r l1)] [] := by
  intro l0 l1 h
  unfold fX10_opened at h
  exact ml_iconst dX10_opened_0 kc_i0 <| ml_istore_n (lv' := [(2, ml_i (0 : Int32)), (0, ml_r l0), (1, ml_r l1)]) dX10_opened_1 (ml_hn hL rfl) rfl <| ml_iconst dX10_opened_2 kc_i0 <| ml_istore_n (lv' := [(3, ml_i (0 : Int32)), (2, ml_i (0 : Int32)), (0, ml_r l0), (1, ml_r l1)]) dX10_opened_3 (ml_hn hL rfl) rfl <| ml_V.sub [2, 3, 1, 0] rfl (vX10_opened_4 hL hr  ml_fu _ _ _ _ h)
theorem sX10_opened {l0 : Nat} {l1 : Nat} {m : ml_M} {rv : Int32} (h : fX10_opened l0 l1 m = some rv) : ml_Sn yX10_opened cX10_opened 4 (some .int) 3 [ml_r l0, ml_r l1] m (some (ml_i rv)) m :=
  ml_Sn_of (P := True) (ini := false) (by decide +kernel) (Nat.le_of_ble_eq_true rfl) (fun h => by cases h) (fun _ => ml_RkI rv) fun E hL hr => wX10_opened_0 hL hr _ _ h
theorem dX10_opens_0 : ml_d cX10_opens 0 (.aload_n 0) 1 1 := ⟨by decide +kernel, rfl⟩
theorem dX10_opens_1 : ml_d cX10_opens 1 (.iload_n 1) 1 2 := ⟨by decide +kernel, rfl⟩
theorem dX10_opens_2 : ml_d cX10_opens 2 (.invokevirtual 172) 3 5 := ⟨by decide +kernel, rfl⟩
theorem dX10_opens_5 : ml_j cX10_opens 5 (.ifCond .ne) 10 8 := ⟨5, by decide +kernel, by decide, rfl⟩
theorem dX10_opens_8 : ml_d cX10_opens 8 (.iconst (-1)) 1 9 := ⟨by decide +kernel, rfl⟩
theorem dX10_opens_9 : ml_d cX10_opens 9 (.ireturn) 1 10 := ⟨by decide +kernel, rfl⟩
theorem dX10_opens_10 : ml_d cX10_opens 10 (.aload_n 0) 1 11 := ⟨by decide +kernel, rfl⟩
theorem dX10_opens_11 : ml_d cX10_opens 11 (.getfield 36) 3 14 := ⟨by decide +kernel, rfl⟩
theorem dX10_opens_14 : ml_d cX10_opens 14 (.iload_n 1) 1 15 := ⟨by decide +kernel, rfl⟩
theorem dX10_opens_15 : ml_d cX10_opens 15 (.aaload) 1 16 := ⟨by decide +kernel, rfl⟩
theorem dX10_opens_16 : ml_d cX10_opens 16 (.getfield 210) 3 19 := ⟨by decide +kernel, rfl⟩
theorem dX10_opens_19 : ml_d cX10_opens 19 (.iconst 5) 1 20 := ⟨by decide +kernel, rfl⟩
theorem dX10_opens_20 : ml_j cX10_opens 20 (.if_icmp .ne) 36 23 := ⟨16, by decide +kernel, by decide, rfl⟩
theorem dX10_opens_23 : ml_d cX10_opens 23 (.aload_n 0) 1 24 := ⟨by decide +kernel, rfl⟩
theorem dX10_opens_24 : ml_d cX10_opens 24 (.aload_n 0) 1 25 := ⟨by decide +kernel, rfl⟩
theorem dX10_opens_25 : ml_d cX10_opens 25 (.getfield 36) 3 28 := ⟨by decide +kernel, rfl⟩
theorem dX10_opens_28 : ml_d cX10_opens 28 (.iload_n 1) 1 29 := ⟨by decide +kernel, rfl⟩
theorem dX10_opens_29 : ml_d cX10_opens 29 (.aaload) 1 30 := ⟨by decide +kernel, rfl⟩
theorem dX10_opens_30 : ml_d cX10_opens 30 (.invokevirtual 213) 3 33 := ⟨by decide +kernel, rfl⟩
theorem dX10_opens_33 : ml_j cX10_opens 33 .goto 41 36 := ⟨8, by decide +kernel, by decide, rfl⟩
theorem dX10_opens_36 : ml_d cX10_opens 36 (.aload_n 0) 1 37 := ⟨by decide +kernel, rfl⟩
theorem dX10_opens_37 : ml_d cX10_opens 37 (.iconst 3) 1 38 := ⟨by decide +kernel, rfl⟩
theorem dX10_opens_38 : ml_d cX10_opens 38 (.invokevirtual 86) 3 41 := ⟨by decide +kernel, rfl⟩
theorem dX10_opens_41 : ml_d cX10_opens 41 (.ireturn) 1 42 := ⟨by decide +kernel, rfl⟩
def fX10_opens (l0 : Nat) (l1 : Int32) (m : ml_M) : Option (Int32 × ml_M) :=
    if (ml_K m l0).1 = 10 then
    ml_b1 (fX10_isThing l0 l1 m) fun r1943 =>
    if r1943 = 0 then
    some ((-1 : Int32), m)
    else
    ml_let (ml_R m l0 4) fun a1944 =>
    if ml_in m a1944 29 l1 then
    ml_let (ml_R m a1944 l1.toNatClampNeg) fun a1946 =>
    if (ml_K m a1946).1 = 8 then
    if (ml_I m a1946 0) = (5 : Int32) then
    ml_let (ml_R m l0 4) fun a1951 =>
    if ml_in m a1951 29 l1 then
    ml_let (ml_R m a1951 l1.toNatClampNeg) fun a1953 =>
    ml_b1 (fX10_opened l0 a1953 m) fun r1955 =>
    some (r1955, m)
    else none
    else
    ml_b2 (fX10_found l0 (3 : Int32) m) fun r1949 m1950 =>
    some (r1949, m1950)
    else none
    else none
    else none
theorem wX10_opens_0 {E : ml_E} (hL : ml_eL E = 2) {rv : Int32} {rm : ml_M} (hr : ∀ (pc pc' : Nat) (lv : List (Nat × ml_X)), ml_d cX10_opens pc .ireturn 1 pc' → True → ml_V E "LostRoom" cX10_opens 4 false rm pc lv [ml_i rv]) : ∀ (l0 : Nat) (l1 : Int32) (m : ml_M), fX10_opens l0 l1 m = some (rv, rm) → ml_V E "LostRoom" cX10_opens 4 false m 0 [(0, ml_r l0), (1, ml_i l1)] [] := by
  intro l0 l1 m h
  unfold fX10_opens at h
  exact ml_aload_n dX10_opens_0 0 rfl <| ml_iload_n dX10_opens_1 1 rfl <| ml_ck_of h fun hc1942 h => ml_b1_of h fun r1943 hv1941 h => ml_callV dX10_opens_2 wm_394 wb_266 hc1942 (sX10_isThing hv1941) rfl (Nat.le_of_ble_eq_true rfl) (Nat.le_of_ble_eq_true rfl) rfl <| ml_if_ne dX10_opens_5 h (fun _ h => ml_aload_n dX10_opens_10 0 rfl <| ml_getR dX10_opens_11 wb_218 hc1942 <| ml_lx (mk := ml_r) h fun a1944 h => ml_iload_n dX10_opens_14 1 rfl <| ml_ck_of h fun hi1945 h => ml_aald (kd := 29) dX10_opens_15 (by decide) hi1945 <| ml_lx (mk := ml_r) h fun a1946 h => ml_ck_of h fun hc1947 h => ml_getI dX10_opens_16 wb_268 hc1947 <| ml_iconst dX10_opens_19 kc_i5 <| ml_icmp_ne dX10_opens_20 h (fun _ h => ml_aload_n dX10_opens_36 0 rfl <| ml_iconst dX10_opens_37 kc_i3 <| ml_b2_of h fun r1949 m1950 hv1948 h => ml_callV dX10_opens_38 wm_132 wb_99 hc1942 (sX10_found hv1948) rfl (Nat.le_of_ble_eq_true rfl) (Nat.le_of_ble_eq_true rfl) rfl <| ml_rI (mk := ml_i) hr dX10_opens_41 (fun _ => trivial) h) (fun _ h => ml_aload_n dX10_opens_23 0 rfl <| ml_aload_n dX10_opens_24 0 rfl <| ml_getR dX10_opens_25 wb_218 hc1942 <| ml_lx (mk := ml_r) h fun a1951 h => ml_iload_n dX10_opens_28 1 rfl <| ml_ck_of h fun hi1952 h => ml_aald (kd := 29) dX10_opens_29 (by decide) hi1952 <| ml_lx (mk := ml_r) h fun a1953 h => ml_b1_of h fun r1955 hv1954 h => ml_callV dX10_opens_30 wm_478 wb_296 hc1942 (sX10_opened hv1954) rfl (Nat.le_of_ble_eq_true rfl) (Nat.le_of_ble_eq_true rfl) rfl <| ml_goto dX10_opens_33 <| ml_rI (mk := ml_i) hr dX10_opens_41 (fun _ => trivial) h)) (fun _ h => ml_iconst dX10_opens_8 kc_im1 <| ml_rI (mk := ml_i) hr dX10_opens_9 (fun _ => trivial) h)
theorem sX10_opens {l0 : Nat} {l1 : Int32} {m : ml_M} {rv : Int32} {rm : ml_M} (h : fX10_opens l0 l1 m = some (rv, rm)) : ml_Sn yX10_opens cX10_opens 2 (some .int) 4 [ml_r l0, ml_i l1] m (some (ml_i rv)) rm :=
  ml_Sn_of (P := True) (ini := false) (by decide +kernel) (Nat.le_of_ble_eq_true rfl) (fun h => by cases h) (fun _ => ml_RkI rv) fun E hL hr => wX10_opens_0 hL hr _ _ _ h
theorem dX11_doesOpen_0 : ml_d cX11_doesOpen 0 (.iconst 0) 1 1 := ⟨by decide +kernel, rfl⟩
theorem dX11_doesOpen_1 : ml_d cX11_doesOpen 1 (.istore_n 3) 1 2 := ⟨by decide +kernel, rfl⟩
theorem dX11_doesOpen_2 : ml_d cX11_doesOpen 2 (.iconst 1) 1 3 := ⟨by decide +kernel, rfl⟩
theorem dX11_doesOpen_3 : ml_d cX11_doesOpen 3 (.istore 4) 2 5 := ⟨by decide +kernel, rfl⟩
theorem dX11_doesOpen_5 : ml_d cX11_doesOpen 5 (.iload_n 1) 1 6 := ⟨by decide +kernel, rfl⟩
theorem dX11_doesOpen_6 : ml_d cX11_doesOpen 6 (.istore 5) 2 8 := ⟨by decide +kernel, rfl⟩
theorem dX11_doesOpen_8 : ml_d cX11_doesOpen 8 (.iload_n 2) 1 9 := ⟨by decide +kernel, rfl⟩
theorem dX11_doesOpen_9 : ml_d cX11_doesOpen 9 (.istore 6) 2 11 := ⟨by decide +kernel, rfl⟩
theorem dX11_doesOpen_11 : ml_d cX11_doesOpen 11 (.iconst 0) 1 12 := ⟨by decide +kernel, rfl⟩
theorem dX11_doesOpen_12 : ml_d cX11_doesOpen 12 (.istore 7) 2 14 := ⟨by decide +kernel, rfl⟩
theorem dX11_doesOpen_14 : ml_d cX11_doesOpen 14 (.iload 7) 2 16 := ⟨by decide +kernel, rfl⟩
theorem dX11_doesOpen_16 : ml_d cX11_doesOpen 16 (.iconst 4) 1 17 := ⟨by decide +kernel, rfl⟩
theorem dX11_doesOpen_17 : ml_j cX11_doesOpen 17 (.if_icmp .ge) 78 20 := ⟨61, by decide +kernel, by decide, rfl⟩
theorem dX11_doesOpen_20 : ml_d cX11_doesOpen 20 (.iload 5) 2 22 := ⟨by decide +kernel, rfl⟩
theorem dX11_doesOpen_22 : ml_d cX11_doesOpen 22 (.bipush 10) 2 24 := ⟨by decide +kernel, rfl⟩
theorem dX11_doesOpen_24 : ml_d cX11_doesOpen 24 (.irem) 1 25 := ⟨by decide +kernel, rfl⟩
theorem dX11_doesOpen_25 : ml_d cX11_doesOpen 25 (.iload 6) 2 27 := ⟨by decide +kernel, rfl⟩
theorem dX11_doesOpen_27 : ml_d cX11_doesOpen 27 (.bipush 10) 2 29 := ⟨by decide +kernel, rfl⟩
theorem dX11_doesOpen_29 : ml_d cX11_doesOpen 29 (.irem) 1 30 := ⟨by decide +kernel, rfl⟩
theorem dX11_doesOpen_30 : ml_d cX11_doesOpen 30 (.invokestatic 239) 3 33 := ⟨by decide +kernel, rfl⟩
theorem dX11_doesOpen_33 : ml_d cX11_doesOpen 33 (.istore 8) 2 35 := ⟨by decide +kernel, rfl⟩
theorem dX11_doesOpen_35 : ml_d cX11_doesOpen 35 (.iload 4) 2 37 := ⟨by decide +kernel, rfl⟩
theorem dX11_doesOpen_37 : ml_j cX11_doesOpen 37 (.ifCond .eq) 50 40 := ⟨13, by decide +kernel, by decide, rfl⟩
theorem dX11_doesOpen_40 : ml_d cX11_doesOpen 40 (.iload 8) 2 42 := ⟨by decide +kernel, rfl⟩
theorem dX11_doesOpen_42 : ml_d cX11_doesOpen 42 (.iconst 1) 1 43 := ⟨by decide +kernel, rfl⟩
theorem dX11_doesOpen_43 : ml_j cX11_doesOpen 43 (.if_icmp .gt) 50 46 := ⟨7, by decide +kernel, by decide, rfl⟩
theorem dX11_doesOpen_46 : ml_d cX11_doesOpen 46 (.iconst 1) 1 47 := ⟨by decide +kernel, rfl⟩
theorem dX11_doesOpen_47 : ml_j cX11_doesOpen 47 .goto 51 50 := ⟨4, by decide +kernel, by decide, rfl⟩
theorem dX11_doesOpen_50 : ml_d cX11_doesOpen 50 (.iconst 0) 1 51 := ⟨by decide +kernel, rfl⟩
theorem dX11_doesOpen_51 : ml_d cX11_doesOpen 51 (.istore 4) 2 53 := ⟨by decide +kernel, rfl⟩
theorem dX11_doesOpen_53 : ml_d cX11_doesOpen 53 (.iload_n 3) 1 54 := ⟨by decide +kernel, rfl⟩
theorem dX11_doesOpen_54 : ml_d cX11_doesOpen 54 (.iload 8) 2 56 := ⟨by decide +kernel, rfl⟩
theorem dX11_doesOpen_56 : ml_d cX11_doesOpen 56 (.iadd) 1 57 := ⟨by decide +kernel, rfl⟩
theorem dX11_doesOpen_57 : ml_d cX11_doesOpen 57 (.istore_n 3) 1 58 := ⟨by decide +kernel, rfl⟩
theorem dX11_doesOpen_58 : ml_d cX11_doesOpen 58 (.iload 5) 2 60 := ⟨by decide +kernel, rfl⟩
theorem dX11_doesOpen_60 : ml_d cX11_doesOpen 60 (.bipush 10) 2 62 := ⟨by decide +kernel, rfl⟩
theorem dX11_doesOpen_62 : ml_d cX11_doesOpen 62 (.idiv) 1 63 := ⟨by decide +kernel, rfl⟩
theorem dX11_doesOpen_63 : ml_d cX11_doesOpen 63 (.istore 5) 2 65 := ⟨by decide +kernel, rfl⟩
theorem dX11_doesOpen_65 : ml_d cX11_doesOpen 65 (.iload 6) 2 67 := ⟨by decide +kernel, rfl⟩
theorem dX11_doesOpen_67 : ml_d cX11_doesOpen 67 (.bipush 10) 2 69 := ⟨by decide +kernel, rfl⟩
theorem dX11_doesOpen_69 : ml_d cX11_doesOpen 69 (.idiv) 1 70 := ⟨by decide +kernel, rfl⟩
theorem dX11_doesOpen_70 : ml_d cX11_doesOpen 70 (.istore 6) 2 72 := ⟨by decide +kernel, rfl⟩
theorem dX11_doesOpen_72 : ml_d cX11_doesOpen 72 (.iinc 7 1) 3 75 := ⟨by decide +kernel, rfl⟩
theorem dX11_doesOpen_75 : ml_j cX11_doesOpen 75 .goto 14 78 := ⟨(-61), by decide +kernel, by decide, rfl⟩
theorem dX11_doesOpen_78 : ml_d cX11_doesOpen 78 (.iload 4) 2 80 := ⟨by decide +kernel, rfl⟩
theorem dX11_doesOpen_80 : ml_j cX11_doesOpen 80 (.ifCond .eq) 95 83 := ⟨15, by decide +kernel, by decide, rfl⟩
theorem dX11_doesOpen_83 : ml_d cX11_doesOpen 83 (.iload_n 3) 1 84 := ⟨by decide +kernel, rfl⟩
theorem dX11_doesOpen_84 : ml_d cX11_doesOpen 84 (.aload_n 0) 1 85 := ⟨by decide +kernel, rfl⟩
theorem dX11_doesOpen_85 : ml_d cX11_doesOpen 85 (.getfield 93) 3 88 := ⟨by decide +kernel, rfl⟩
theorem dX11_doesOpen_88 : ml_j cX11_doesOpen 88 (.if_icmp .gt) 95 91 := ⟨7, by decide +kernel, by decide, rfl⟩
theorem dX11_doesOpen_91 : ml_d cX11_doesOpen 91 (.iconst 1) 1 92 := ⟨by decide +kernel, rfl⟩
theorem dX11_doesOpen_92 : ml_j cX11_doesOpen 92 .goto 96 95 := ⟨4, by decide +kernel, by decide, rfl⟩
theorem dX11_doesOpen_95 : ml_d cX11_doesOpen 95 (.iconst 0) 1 96 := ⟨by decide +kernel, rfl⟩
theorem dX11_doesOpen_96 : ml_d cX11_doesOpen 96 (.ireturn) 1 97 := ⟨by decide +kernel, rfl⟩
def fX11_doesOpen_51 (k14 : Nat → Int32 → Int32 → Int32 → Int32 → Int32 → ml_M → Option Int32) (l0 : Nat) (l3 : Int32) (l5 : Int32) (l6 : Int32) (l7 : Int32) (l8 : Int32) (t0 : Int32) (m : ml_M) : Option Int32 :=
    ml_let (l3 + l8) fun x1956 =>
    ml_let (l5 / (10 : Int32)) fun x1957 =>
    ml_let (l6 / (10 : Int32)) fun x1958 =>
    k14 l0 x1956 t0 x1957 x1958 (l7 + (1 : Int32)) m
theorem vX11_doesOpen_51 {E : ml_E} (hL : ml_eL E = 9) {rv : Int32} {m : ml_M} (hr : ∀ (pc pc' : Nat) (lv : List (Nat × ml_X)), ml_d cX11_doesOpen pc .ireturn 1 pc' → (rv = 0 ∨ rv = 1) → ml_V E "LostRoomModel" cX11_doesOpen 3 false m pc lv [ml_i rv]) {k14 : Nat → Int32 → Int32 → Int32 → Int32 → Int32 → ml_M → Option Int32} (hk14 : ∀ (l0 : Nat) (l3 : Int32) (l4 : Int32) (l5 : Int32) (l6 : Int32) (l7 : Int32), k14 l0 l3 l4 l5 l6 l7 m = some rv → ml_V E "LostRoomModel" cX11_doesOpen 3 false m 14 [(0, ml_r l0), (3, ml_i l3), (4, ml_i l4), (5, ml_i l5), (6, ml_i l6), (7, ml_i l7)] []) : ∀ (l0 : Nat) (l3 : Int32) (l5 : Int32) (l6 : Int32) (l7 : Int32) (l8 : Int32) (t0 : Int32), fX11_doesOpen_51 k14 l0 l3 l5 l6 l7 l8 t0 m = some rv → ml_V E "LostRoomModel" cX11_doesOpen 3 false m 51 [(0, ml_r l0), (3, ml_i l3), (5, ml_i l5), (6, ml_i l6), (7, ml_i l7), (8, ml_i l8)] [ml_i t0] := by
  intro l0 l3 l5 l6 l7 l8 t0 h
  unfold fX11_doesOpen_51 at h
  exact ml_istore (lv' := [(4, ml_i t0), (0, ml_r l0), (3, ml_i l3), (5, ml_i l5), (6, ml_i l6), (7, ml_i l7), (8, ml_i l8)]) dX11_doesOpen_51 (ml_hn hL rfl) rfl <| ml_iload_n dX11_doesOpen_53 2 rfl <| ml_iload dX11_doesOpen_54 6 rfl <| ml_iadd dX11_doesOpen_56 <| ml_lx (mk := ml_i) h fun x1956 h => ml_istore_n (lv' := [(3, ml_i x1956), (4, ml_i t0), (0, ml_r l0), (5, ml_i l5), (6, ml_i l6), (7, ml_i l7), (8, ml_i l8)]) dX11_doesOpen_57 (ml_hn hL rfl) rfl <| ml_iload dX11_doesOpen_58 3 rfl <| ml_bipush dX11_doesOpen_60 kc_b10 <| ml_idiv dX11_doesOpen_62 (by decide) <| ml_lx (mk := ml_i) h fun x1957 h => ml_istore (lv' := [(5, ml_i x1957), (3, ml_i x1956), (4, ml_i t0), (0, ml_r l0), (6, ml_i l6), (7, ml_i l7), (8, ml_i l8)]) dX11_doesOpen_63 (ml_hn hL rfl) rfl <| ml_iload dX11_doesOpen_65 4 rfl <| ml_bipush dX11_doesOpen_67 kc_b10 <| ml_idiv dX11_doesOpen_69 (by decide) <| ml_lx (mk := ml_i) h fun x1958 h => ml_istore (lv' := [(6, ml_i x1958), (5, ml_i x1957), (3, ml_i x1956), (4, ml_i t0), (0, ml_r l0), (7, ml_i l7), (8, ml_i l8)]) dX11_doesOpen_70 (ml_hn hL rfl) rfl <| ml_iinc (lv' := [(7, ml_i (l7 + (1 : Int32))), (6, ml_i x1958), (5, ml_i x1957), (3, ml_i x1956), (4, ml_i t0), (0, ml_r l0), (8, ml_i l8)]) dX11_doesOpen_72 5 rfl (congrArg (l7 + ·) kc_i1) (ml_hn hL rfl) rfl <| ml_goto dX11_doesOpen_75 <| ml_V.sub [5, 3, 4, 2, 1, 0] rfl (hk14 _ _ _ _ _ _ h)
def fX11_doesOpen_50 (k14 : Nat → Int32 → Int32 → Int32 → Int32 → Int32 → ml_M → Option Int32) (l0 : Nat) (l3 : Int32) (l5 : Int32) (l6 : Int32) (l7 : Int32) (l8 : Int32) (m : ml_M) : Option Int32 :=
    fX11_doesOpen_51 k14 l0 l3 l5 l6 l7 l8 (0 : Int32) m
theorem vX11_doesOpen_50 {E : ml_E} (hL : ml_eL E = 9) {rv : Int32} {m : ml_M} (hr : ∀ (pc pc' : Nat) (lv : List (Nat × ml_X)), ml_d cX11_doesOpen pc .ireturn 1 pc' → (rv = 0 ∨ rv = 1) → ml_V E "LostRoomModel" cX11_doesOpen 3 false m pc lv [ml_i rv]) {k14 : Nat → Int32 → Int32 → Int32 → Int32 → Int32 → ml_M → Option Int32} (hk14 : ∀ (l0 : Nat) (l3 : Int32) (l4 : Int32) (l5 : Int32) (l6 : Int32) (l7 : Int32), k14 l0 l3 l4 l5 l6 l7 m = some rv → ml_V E "LostRoomModel" cX11_doesOpen 3 false m 14 [(0, ml_r l0), (3, ml_i l3), (4, ml_i l4), (5, ml_i l5), (6, ml_i l6), (7, ml_i l7)] []) : ∀ (l0 : Nat) (l3 : Int32) (l5 : Int32) (l6 : Int32) (l7 : Int32) (l8 : Int32), fX11_doesOpen_50 k14 l0 l3 l5 l6 l7 l8 m = some rv → ml_V E "LostRoomModel" cX11_doesOpen 3 false m 50 [(0, ml_r l0), (3, ml_i l3), (5, ml_i l5), (6, ml_i l6), (7, ml_i l7), (8, ml_i l8)] [] := by
  intro l0 l3 l5 l6 l7 l8 h
  unfold fX11_doesOpen_50 at h
  exact ml_iconst dX11_doesOpen_50 kc_i0 <| ml_V.sub [0, 1, 2, 3, 4, 5] rfl (vX11_doesOpen_51 hL hr hk14 _ _ _ _ _ _ _ h)
def fX11_doesOpen_78 (l0 : Nat) (l3 : Int32) (l4 : Int32) (m : ml_M) : Option Int32 :=
    if l4 = 0 then
    some (0 : Int32)
    else
    if (ml_K m l0).1 = 11 then
    if (ml_I m l0 23) < l3 then
    some (0 : Int32)
    else
    some (1 : Int32)
    else none
theorem vX11_doesOpen_78 {E : ml_E} (hL : ml_eL E = 9) {rv : Int32} {m : ml_M} (hr : ∀ (pc pc' : Nat) (lv : List (Nat × ml_X)), ml_d cX11_doesOpen pc .ireturn 1 pc' → (rv = 0 ∨ rv = 1) → ml_V E "LostRoomModel" cX11_doesOpen 3 false m pc lv [ml_i rv]) : ∀ (l0 : Nat) (l3 : Int32) (l4 : Int32), fX11_doesOpen_78 l0 l3 l4 m = some rv → ml_V E "LostRoomModel" cX11_doesOpen 3 false m 78 [(0, ml_r l0), (3, ml_i l3), (4, ml_i l4)] [] := by
  intro l0 l3 l4 h
  unfold fX11_doesOpen_78 at h
  exact ml_iload dX11_doesOpen_78 2 rfl <| ml_if_eq dX11_doesOpen_80 h (fun _ h => ml_iconst dX11_doesOpen_95 kc_i0 <| ml_rp (mk := ml_i) hr dX11_doesOpen_96 (fun e => Or.inl e.symm) h) (fun _ h => ml_iload_n dX11_doesOpen_83 1 rfl <| ml_aload_n dX11_doesOpen_84 0 rfl <| ml_ck_of h fun hc1959 h => ml_getI dX11_doesOpen_85 wb_204 hc1959 <| ml_icmp_gt dX11_doesOpen_88 h (fun _ h => ml_iconst dX11_doesOpen_95 kc_i0 <| ml_rp (mk := ml_i) hr dX11_doesOpen_96 (fun e => Or.inl e.symm) h) (fun _ h => ml_iconst dX11_doesOpen_91 kc_i1 <| ml_goto dX11_doesOpen_92 <| ml_rp (mk := ml_i) hr dX11_doesOpen_96 (fun e => Or.inr e.symm) h))
def fX11_doesOpen_14 : Nat → Nat → Int32 → Int32 → Int32 → Int32 → Int32 → ml_M → Option Int32
  | 0, _, _, _, _, _, _, _ => none
  | fu + 1, l0, l3, l4, l5, l6, l7, m =>
    if (4 : Int32) ≤ l7 then
    fX11_doesOpen_78 l0 l3 l4 m
    else
    ml_b1 (fX11_off (l5 - l5 / (10 : Int32) * (10 : Int32)) (l6 - l6 / (10 : Int32) * (10 : Int32)) m) fun r1961 =>
    if l4 = 0 then
    fX11_doesOpen_50 (fX11_doesOpen_14 fu) l0 l3 l5 l6 l7 r1961 m
    else
    if (1 : Int32) < r1961 then
    fX11_doesOpen_50 (fX11_doesOpen_14 fu) l0 l3 l5 l6 l7 r1961 m
    else
    fX11_doesOpen_51 (fX11_doesOpen_14 fu) l0 l3 l5 l6 l7 r1961 (1 : Int32) m
theorem vX11_doesOpen_14 {E : ml_E} (hL : ml_eL E = 9) {rv : Int32} {m : ml_M} (hr : ∀ (pc pc' : Nat) (lv : List (Nat × ml_X)), ml_d cX11_doesOpen pc .ireturn 1 pc' → (rv = 0 ∨ rv = 1) → ml_V E "LostRoomModel" cX11_doesOpen 3 false m pc lv [ml_i rv]) : ∀ (fu : Nat) (l0 : Nat) (l3 : Int32) (l4 : Int32) (l5 : Int32) (l6 : Int32) (l7 : Int32), fX11_doesOpen_14 fu l0 l3 l4 l5 l6 l7 m = some rv → ml_V E "LostRoomModel" cX11_doesOpen 3 false m 14 [(0, ml_r l0), (3, ml_i l3), (4, ml_i l4), (5, ml_i l5), (6, ml_i l6), (7, ml_i l7)] [] := by
  intro fu
  induction fu with
  | zero => intro l0 l3 l4 l5 l6 l7 h; exact ml_none h
  | succ fu ih =>
    intro l0 l3 l4 l5 l6 l7 h
    have hk14 := ih
    unfold fX11_doesOpen_14 at h
    exact ml_iload dX11_doesOpen_14 5 rfl <| ml_iconst dX11_doesOpen_16 kc_i4 <| ml_icmp_ge dX11_doesOpen_17 h (fun _ h => ml_V.sub [0, 1, 2] rfl (vX11_doesOpen_78 hL hr  _ _ _ h)) (fun _ h => ml_iload dX11_doesOpen_20 3 rfl <| ml_bipush dX11_doesOpen_22 kc_b10 <| ml_irem dX11_doesOpen_24 (by decide) <| ml_iload dX11_doesOpen_25 4 rfl <| ml_bipush dX11_doesOpen_27 kc_b10 <| ml_irem dX11_doesOpen_29 (by decide) <| ml_b1_of h fun r1961 hv1960 h => ml_callS dX11_doesOpen_30 wm_443 wb_283 (sX11_off hv1960) rfl (Nat.le_of_ble_eq_true rfl) (Nat.le_of_ble_eq_true rfl) rfl <| ml_istore (lv' := [(8, ml_i r1961), (0, ml_r l0), (3, ml_i l3), (4, ml_i l4), (5, ml_i l5), (6, ml_i l6), (7, ml_i l7)]) dX11_doesOpen_33 (ml_hn hL rfl) rfl <| ml_iload dX11_doesOpen_35 3 rfl <| ml_if_eq dX11_doesOpen_37 h (fun _ h => ml_V.sub [1, 2, 4, 5, 6, 0] rfl (vX11_doesOpen_50 hL hr hk14 _ _ _ _ _ _ h)) (fun _ h => ml_iload dX11_doesOpen_40 0 rfl <| ml_iconst dX11_doesOpen_42 kc_i1 <| ml_icmp_gt dX11_doesOpen_43 h (fun _ h => ml_V.sub [1, 2, 4, 5, 6, 0] rfl (vX11_doesOpen_50 hL hr hk14 _ _ _ _ _ _ h)) (fun _ h => ml_iconst dX11_doesOpen_46 kc_i1 <| ml_goto dX11_doesOpen_47 <| ml_V.sub [1, 2, 4, 5, 6, 0] rfl (vX11_doesOpen_51 hL hr hk14 _ _ _ _ _ _ _ h))))
def fX11_doesOpen (l0 : Nat) (l1 : Int32) (l2 : Int32) (m : ml_M) : Option Int32 :=
    fX11_doesOpen_14 ml_fu l0 (0 : Int32) (1 : Int32) l1 l2 (0 : Int32) m
theorem wX11_doesOpen_0 {E : ml_E} (hL : ml_eL E = 9) {rv : Int32} {m : ml_M} (hr : ∀ (pc pc' : Nat) (lv : List (Nat × ml_X)), ml_d cX11_doesOpen pc .ireturn 1 pc' → (rv = 0 ∨ rv = 1) → ml_V E "LostRoomModel" cX11_doesOpen 3 false m pc lv [ml_i rv]) : ∀ (l0 : Nat) (l1 : Int32) (l2 : Int32), fX11_doesOpen l0 l1 l2 m = some rv → ml_V E "LostRoomModel" cX11_doesOpen 3 false m 0 [(0, ml_r l0), (1, ml_i l1), (2, ml_i l2)] [] := by
  intro l0 l1 l2 h
  unfold fX11_doesOpen at h
  exact ml_iconst dX11_doesOpen_0 kc_i0 <| ml_istore_n (lv' := [(3, ml_i (0 : Int32)), (0, ml_r l0), (1, ml_i l1), (2, ml_i l2)]) dX11_doesOpen_1 (ml_hn hL rfl) rfl <| ml_iconst dX11_doesOpen_2 kc_i1 <| ml_istore (lv' := [(4, ml_i (1 : Int32)), (3, ml_i (0 : Int32)), (0, ml_r l0), (1, ml_i l1), (2, ml_i l2)]) dX11_doesOpen_3 (ml_hn hL rfl) rfl <| ml_iload_n dX11_doesOpen_5 3 rfl <| ml_istore (lv' := [(5, ml_i l1), (4, ml_i (1 : Int32)), (3, ml_i (0 : Int32)), (0, ml_r l0), (1, ml_i l1), (2, ml_i l2)]) dX11_doesOpen_6 (ml_hn hL rfl) rfl <| ml_iload_n dX11_doesOpen_8 5 rfl <| ml_istore (lv' := [(6, ml_i l2), (5, ml_i l1), (4, ml_i (1 : Int32)), (3, ml_i (0 : Int32)), (0, ml_r l0), (1, ml_i l1), (2, ml_i l2)]) dX11_doesOpen_9 (ml_hn hL rfl) rfl <| ml_iconst dX11_doesOpen_11 kc_i0 <| ml_istore (lv' := [(7, ml_i (0 : Int32)), (6, ml_i l2), (5, ml_i l1), (4, ml_i (1 : Int32)), (3, ml_i (0 : Int32)), (0, ml_r l0), (1, ml_i l1), (2, ml_i l2)]) dX11_doesOpen_12 (ml_hn hL rfl) rfl <| ml_V.sub [5, 4, 3, 2, 1, 0] rfl (vX11_doesOpen_14 hL hr  ml_fu _ _ _ _ _ _ h)
theorem sX11_doesOpen {l0 : Nat} {l1 : Int32} {l2 : Int32} {m : ml_M} {rv : Int32} (h : fX11_doesOpen l0 l1 l2 m = some rv) : ml_Sn yX11_doesOpen cX11_doesOpen 9 (some .boolean) 3 [ml_r l0, ml_i l1, ml_i l2] m (some (ml_i rv)) m :=
  ml_Sn_of (P := (rv = 0 ∨ rv = 1)) (ini := false) (by decide +kernel) (Nat.le_of_ble_eq_true rfl) (fun h => by cases h) (fun hz => ml_RkZ rv hz) fun E hL hr => wX11_doesOpen_0 hL hr _ _ _ h
theorem dX11_opensOf_0 : ml_d cX11_opensOf 0 (.iconst 0) 1 1 := ⟨by decide +kernel, rfl⟩
theorem dX11_opensOf_1 : ml_d cX11_opensOf 1 (.istore_n 2) 1 2 := ⟨by decide +kernel, rfl⟩
theorem dX11_opensOf_2 : ml_d cX11_opensOf 2 (.iconst 0) 1 3 := ⟨by decide +kernel, rfl⟩
theorem dX11_opensOf_3 : ml_d cX11_opensOf 3 (.istore_n 3) 1 4 := ⟨by decide +kernel, rfl⟩
theorem dX11_opensOf_4 : ml_d cX11_opensOf 4 (.iload_n 3) 1 5 := ⟨by decide +kernel, rfl⟩
theorem dX11_opensOf_5 : ml_d cX11_opensOf 5 (.aload_n 0) 1 6 := ⟨by decide +kernel, rfl⟩
theorem dX11_opensOf_6 : ml_d cX11_opensOf 6 (.getfield 175) 3 9 := ⟨by decide +kernel, rfl⟩
theorem dX11_opensOf_9 : ml_j cX11_opensOf 9 (.if_icmp .ge) 48 12 := ⟨39, by decide +kernel, by decide, rfl⟩
theorem dX11_opensOf_12 : ml_d cX11_opensOf 12 (.iload_n 2) 1 13 := ⟨by decide +kernel, rfl⟩
theorem dX11_opensOf_13 : ml_d cX11_opensOf 13 (.aload_n 0) 1 14 := ⟨by decide +kernel, rfl⟩
theorem dX11_opensOf_14 : ml_d cX11_opensOf 14 (.aload_n 0) 1 15 := ⟨by decide +kernel, rfl⟩
theorem dX11_opensOf_15 : ml_d cX11_opensOf 15 (.iload_n 1) 1 16 := ⟨by decide +kernel, rfl⟩
theorem dX11_opensOf_16 : ml_d cX11_opensOf 16 (.invokevirtual 226) 3 19 := ⟨by decide +kernel, rfl⟩
theorem dX11_opensOf_19 : ml_d cX11_opensOf 19 (.aload_n 0) 1 20 := ⟨by decide +kernel, rfl⟩
theorem dX11_opensOf_20 : ml_d cX11_opensOf 20 (.getfield 32) 3 23 := ⟨by decide +kernel, rfl⟩
theorem dX11_opensOf_23 : ml_d cX11_opensOf 23 (.iconst 2) 1 24 := ⟨by decide +kernel, rfl⟩
theorem dX11_opensOf_24 : ml_d cX11_opensOf 24 (.iload_n 3) 1 25 := ⟨by decide +kernel, rfl⟩
theorem dX11_opensOf_25 : ml_d cX11_opensOf 25 (.imul) 1 26 := ⟨by decide +kernel, rfl⟩
theorem dX11_opensOf_26 : ml_d cX11_opensOf 26 (.iaload) 1 27 := ⟨by decide +kernel, rfl⟩
theorem dX11_opensOf_27 : ml_d cX11_opensOf 27 (.invokevirtual 254) 3 30 := ⟨by decide +kernel, rfl⟩
theorem dX11_opensOf_30 : ml_j cX11_opensOf 30 (.ifCond .eq) 39 33 := ⟨9, by decide +kernel, by decide, rfl⟩
theorem dX11_opensOf_33 : ml_d cX11_opensOf 33 (.iconst 1) 1 34 := ⟨by decide +kernel, rfl⟩
theorem dX11_opensOf_34 : ml_d cX11_opensOf 34 (.iload_n 3) 1 35 := ⟨by decide +kernel, rfl⟩
theorem dX11_opensOf_35 : ml_d cX11_opensOf 35 (.ishl) 1 36 := ⟨by decide +kernel, rfl⟩
theorem dX11_opensOf_36 : ml_j cX11_opensOf 36 .goto 40 39 := ⟨4, by decide +kernel, by decide, rfl⟩
theorem dX11_opensOf_39 : ml_d cX11_opensOf 39 (.iconst 0) 1 40 := ⟨by decide +kernel, rfl⟩
theorem dX11_opensOf_40 : ml_d cX11_opensOf 40 (.ior) 1 41 := ⟨by decide +kernel, rfl⟩
theorem dX11_opensOf_41 : ml_d cX11_opensOf 41 (.istore_n 2) 1 42 := ⟨by decide +kernel, rfl⟩
theorem dX11_opensOf_42 : ml_d cX11_opensOf 42 (.iinc 3 1) 3 45 := ⟨by decide +kernel, rfl⟩
theorem dX11_opensOf_45 : ml_j cX11_opensOf 45 .goto 4 48 := ⟨(-41), by decide +kernel, by decide, rfl⟩
theorem dX11_opensOf_48 : ml_d cX11_opensOf 48 (.iload_n 2) 1 49 := ⟨by decide +kernel, rfl⟩
theorem dX11_opensOf_49 : ml_d cX11_opensOf 49 (.ireturn) 1 50 := ⟨by decide +kernel, rfl⟩
def fX11_opensOf_40 (k4 : Nat → Int32 → Int32 → Int32 → ml_M → Option Int32) (l0 : Nat) (l1 : Int32) (l3 : Int32) (t0 : Int32) (t1 : Int32) (m : ml_M) : Option Int32 :=
    ml_let (t1 ||| t0) fun x1962 =>
    k4 l0 l1 x1962 (l3 + (1 : Int32)) m
theorem vX11_opensOf_40 {E : ml_E} (hL : ml_eL E = 4) {rv : Int32} {m : ml_M} (hr : ∀ (pc pc' : Nat) (lv : List (Nat × ml_X)), ml_d cX11_opensOf pc .ireturn 1 pc' → True → ml_V E "LostRoomModel" cX11_opensOf 4 false m pc lv [ml_i rv]) {k4 : Nat → Int32 → Int32 → Int32 → ml_M → Option Int32} (hk4 : ∀ (l0 : Nat) (l1 : Int32) (l2 : Int32) (l3 : Int32), k4 l0 l1 l2 l3 m = some rv → ml_V E "LostRoomModel" cX11_opensOf 4 false m 4 [(0, ml_r l0), (1, ml_i l1), (2, ml_i l2), (3, ml_i l3)] []) : ∀ (l0 : Nat) (l1 : Int32) (l3 : Int32) (t0 : Int32) (t1 : Int32), fX11_opensOf_40 k4 l0 l1 l3 t0 t1 m = some rv → ml_V E "LostRoomModel" cX11_opensOf 4 false m 40 [(0, ml_r l0), (1, ml_i l1), (3, ml_i l3)] [ml_i t0, ml_i t1] := by
  intro l0 l1 l3 t0 t1 h
  unfold fX11_opensOf_40 at h
  exact ml_ior dX11_opensOf_40 <| ml_lx (mk := ml_i) h fun x1962 h => ml_istore_n (lv' := [(2, ml_i x1962), (0, ml_r l0), (1, ml_i l1), (3, ml_i l3)]) dX11_opensOf_41 (ml_hn hL rfl) rfl <| ml_iinc (lv' := [(3, ml_i (l3 + (1 : Int32))), (2, ml_i x1962), (0, ml_r l0), (1, ml_i l1)]) dX11_opensOf_42 3 rfl (congrArg (l3 + ·) kc_i1) (ml_hn hL rfl) rfl <| ml_goto dX11_opensOf_45 <| ml_V.sub [2, 3, 1, 0] rfl (hk4 _ _ _ _ h)
def fX11_opensOf_4 : Nat → Nat → Int32 → Int32 → Int32 → ml_M → Option Int32
  | 0, _, _, _, _, _ => none
  | fu + 1, l0, l1, l2, l3, m =>
    if (ml_K m l0).1 = 11 then
    if (ml_I m l0 10) ≤ l3 then
    some l2
    else
    ml_b1 (fX11_x l0 l1 m) fun r1965 =>
    ml_let (ml_R m l0 13) fun a1966 =>
    if ml_in m a1966 20 ((2 : Int32) * l3) then
    ml_b1 (fX11_doesOpen l0 r1965 (ml_I m a1966 ((2 : Int32) * l3).toNatClampNeg) m) fun r1969 =>
    if r1969 = 0 then
    fX11_opensOf_40 (fX11_opensOf_4 fu) l0 l1 l3 (0 : Int32) l2 m
    else
    fX11_opensOf_40 (fX11_opensOf_4 fu) l0 l1 l3 ((1 : Int32) <<< (l3 &&& 31)) l2 m
    else none
    else none
theorem vX11_opensOf_4 {E : ml_E} (hL : ml_eL E = 4) {rv : Int32} {m : ml_M} (hr : ∀ (pc pc' : Nat) (lv : List (Nat × ml_X)), ml_d cX11_opensOf pc .ireturn 1 pc' → True → ml_V E "LostRoomModel" cX11_opensOf 4 false m pc lv [ml_i rv]) : ∀ (fu : Nat) (l0 : Nat) (l1 : Int32) (l2 : Int32) (l3 : Int32), fX11_opensOf_4 fu l0 l1 l2 l3 m = some rv → ml_V E "LostRoomModel" cX11_opensOf 4 false m 4 [(0, ml_r l0), (1, ml_i l1), (2, ml_i l2), (3, ml_i l3)] [] := by
  intro fu
  induction fu with
  | zero => intro l0 l1 l2 l3 h; exact ml_none h
  | succ fu ih =>
    intro l0 l1 l2 l3 h
    have hk4 := ih
    unfold fX11_opensOf_4 at h
    exact ml_iload_n dX11_opensOf_4 3 rfl <| ml_aload_n dX11_opensOf_5 0 rfl <| ml_ck_of h fun hc1963 h => ml_getI dX11_opensOf_6 wb_196 hc1963 <| ml_icmp_ge dX11_opensOf_9 h (fun _ h => ml_iload_n dX11_opensOf_48 2 rfl <| ml_rp (mk := ml_i) hr dX11_opensOf_49 (fun _ => trivial) h) (fun _ h => ml_iload_n dX11_opensOf_12 2 rfl <| ml_aload_n dX11_opensOf_13 0 rfl <| ml_aload_n dX11_opensOf_14 0 rfl <| ml_iload_n dX11_opensOf_15 1 rfl <| ml_b1_of h fun r1965 hv1964 h => ml_callV dX11_opensOf_16 wm_424 wb_277 hc1963 (sX11_x hv1964) rfl (Nat.le_of_ble_eq_true rfl) (Nat.le_of_ble_eq_true rfl) rfl <| ml_aload_n dX11_opensOf_19 0 rfl <| ml_getR dX11_opensOf_20 wb_198 hc1963 <| ml_lx (mk := ml_r) h fun a1966 h => ml_iconst dX11_opensOf_23 kc_i2 <| ml_iload_n dX11_opensOf_24 3 rfl <| ml_imul dX11_opensOf_25 <| ml_ck_of h fun hi1967 h => ml_iald dX11_opensOf_26 hi1967 <| ml_b1_of h fun r1969 hv1968 h => ml_callV dX11_opensOf_27 wm_482 wb_297 hc1963 (sX11_doesOpen hv1968) rfl (Nat.le_of_ble_eq_true rfl) (Nat.le_of_ble_eq_true rfl) rfl <| ml_if_eq dX11_opensOf_30 h (fun _ h => ml_iconst dX11_opensOf_39 kc_i0 <| ml_V.sub [0, 1, 3] rfl (vX11_opensOf_40 hL hr hk4 _ _ _ _ _ h)) (fun _ h => ml_iconst dX11_opensOf_33 kc_i1 <| ml_iload_n dX11_opensOf_34 3 rfl <| ml_ishl dX11_opensOf_35 <| ml_goto dX11_opensOf_36 <| ml_V.sub [0, 1, 3] rfl (vX11_opensOf_40 hL hr hk4 _ _ _ _ _ h)))
def fX11_opensOf (l0 : Nat) (l1 : Int32) (m : ml_M) : Option Int32 :=
    fX11_opensOf_4 ml_fu l0 l1 (0 : Int32) (0 : Int32) m
theorem wX11_opensOf_0 {E : ml_E} (hL : ml_eL E = 4) {rv : Int32} {m : ml_M} (hr : ∀ (pc pc' : Nat) (lv : List (Nat × ml_X)), ml_d cX11_opensOf pc .ireturn 1 pc' → True → ml_V E "LostRoomModel" cX11_opensOf 4 false m pc lv [ml_i rv]) : ∀ (l0 : Nat) (l1 : Int32), fX11_opensOf l0 l1 m = some rv → ml_V E "LostRoomModel" cX11_opensOf 4 false m 0 [(0, ml_r l0), (1, ml_i l1)] [] := by
  intro l0 l1 h
  unfold fX11_opensOf at h
  exact ml_iconst dX11_opensOf_0 kc_i0 <| ml_istore_n (lv' := [(2, ml_i (0 : Int32)), (0, ml_r l0), (1, ml_i l1)]) dX11_opensOf_1 (ml_hn hL rfl) rfl <| ml_iconst dX11_opensOf_2 kc_i0 <| ml_istore_n (lv' := [(3, ml_i (0 : Int32)), (2, ml_i (0 : Int32)), (0, ml_r l0), (1, ml_i l1)]) dX11_opensOf_3 (ml_hn hL rfl) rfl <| ml_V.sub [2, 3, 1, 0] rfl (vX11_opensOf_4 hL hr  ml_fu _ _ _ _ h)
theorem sX11_opensOf {l0 : Nat} {l1 : Int32} {m : ml_M} {rv : Int32} (h : fX11_opensOf l0 l1 m = some rv) : ml_Sn yX11_opensOf cX11_opensOf 4 (some .int) 4 [ml_r l0, ml_i l1] m (some (ml_i rv)) m :=
  ml_Sn_of (P := True) (ini := false) (by decide +kernel) (Nat.le_of_ble_eq_true rfl) (fun h => by cases h) (fun _ => ml_RkI rv) fun E hL hr => wX11_opensOf_0 hL hr _ _ h
theorem dX11_opens_0 : ml_d cX11_opens 0 (.aload_n 0) 1 1 := ⟨by decide +kernel, rfl⟩
theorem dX11_opens_1 : ml_d cX11_opens 1 (.iload_n 1) 1 2 := ⟨by decide +kernel, rfl⟩
theorem dX11_opens_2 : ml_d cX11_opens 2 (.invokevirtual 217) 3 5 := ⟨by decide +kernel, rfl⟩
theorem dX11_opens_5 : ml_j cX11_opens 5 (.ifCond .ne) 10 8 := ⟨5, by decide +kernel, by decide, rfl⟩
theorem dX11_opens_8 : ml_d cX11_opens 8 (.iconst (-1)) 1 9 := ⟨by decide +kernel, rfl⟩
theorem dX11_opens_9 : ml_d cX11_opens 9 (.ireturn) 1 10 := ⟨by decide +kernel, rfl⟩
theorem dX11_opens_10 : ml_d cX11_opens 10 (.aload_n 0) 1 11 := ⟨by decide +kernel, rfl⟩
theorem dX11_opens_11 : ml_d cX11_opens 11 (.iload_n 1) 1 12 := ⟨by decide +kernel, rfl⟩
theorem dX11_opens_12 : ml_d cX11_opens 12 (.invokevirtual 220) 3 15 := ⟨by decide +kernel, rfl⟩
theorem dX11_opens_15 : ml_d cX11_opens 15 (.iconst 5) 1 16 := ⟨by decide +kernel, rfl⟩
theorem dX11_opens_16 : ml_j cX11_opens 16 (.if_icmp .ne) 27 19 := ⟨11, by decide +kernel, by decide, rfl⟩
theorem dX11_opens_19 : ml_d cX11_opens 19 (.aload_n 0) 1 20 := ⟨by decide +kernel, rfl⟩
theorem dX11_opens_20 : ml_d cX11_opens 20 (.iload_n 1) 1 21 := ⟨by decide +kernel, rfl⟩
theorem dX11_opens_21 : ml_d cX11_opens 21 (.invokevirtual 257) 3 24 := ⟨by decide +kernel, rfl⟩
theorem dX11_opens_24 : ml_j cX11_opens 24 .goto 32 27 := ⟨8, by decide +kernel, by decide, rfl⟩
theorem dX11_opens_27 : ml_d cX11_opens 27 (.aload_n 0) 1 28 := ⟨by decide +kernel, rfl⟩
theorem dX11_opens_28 : ml_d cX11_opens 28 (.iconst 3) 1 29 := ⟨by decide +kernel, rfl⟩
theorem dX11_opens_29 : ml_d cX11_opens 29 (.invokevirtual 115) 3 32 := ⟨by decide +kernel, rfl⟩
theorem dX11_opens_32 : ml_d cX11_opens 32 (.ireturn) 1 33 := ⟨by decide +kernel, rfl⟩
def fX11_opens (l0 : Nat) (l1 : Int32) (m : ml_M) : Option (Int32 × ml_M) :=
    if (ml_K m l0).1 = 11 then
    ml_b1 (fX11_isThing l0 l1 m) fun r1972 =>
    if r1972 = 0 then
    some ((-1 : Int32), m)
    else
    ml_b1 (fX11_kind l0 l1 m) fun r1974 =>
    if r1974 = (5 : Int32) then
    ml_b1 (fX11_opensOf l0 l1 m) fun r1979 =>
    some (r1979, m)
    else
    ml_b2 (fX11_meets l0 (3 : Int32) m) fun r1976 m1977 =>
    some (r1976, m1977)
    else none
theorem wX11_opens_0 {E : ml_E} (hL : ml_eL E = 2) {rv : Int32} {rm : ml_M} (hr : ∀ (pc pc' : Nat) (lv : List (Nat × ml_X)), ml_d cX11_opens pc .ireturn 1 pc' → True → ml_V E "LostRoomModel" cX11_opens 5 false rm pc lv [ml_i rv]) : ∀ (l0 : Nat) (l1 : Int32) (m : ml_M), fX11_opens l0 l1 m = some (rv, rm) → ml_V E "LostRoomModel" cX11_opens 5 false m 0 [(0, ml_r l0), (1, ml_i l1)] [] := by
  intro l0 l1 m h
  unfold fX11_opens at h
  exact ml_aload_n dX11_opens_0 0 rfl <| ml_iload_n dX11_opens_1 1 rfl <| ml_ck_of h fun hc1971 h => ml_b1_of h fun r1972 hv1970 h => ml_callV dX11_opens_2 wm_398 wb_267 hc1971 (sX11_isThing hv1970) rfl (Nat.le_of_ble_eq_true rfl) (Nat.le_of_ble_eq_true rfl) rfl <| ml_if_ne dX11_opens_5 h (fun _ h => ml_aload_n dX11_opens_10 0 rfl <| ml_iload_n dX11_opens_11 1 rfl <| ml_b1_of h fun r1974 hv1973 h => ml_callV dX11_opens_12 wm_420 wb_276 hc1971 (sX11_kind hv1973) rfl (Nat.le_of_ble_eq_true rfl) (Nat.le_of_ble_eq_true rfl) rfl <| ml_iconst dX11_opens_15 kc_i5 <| ml_icmp_ne dX11_opens_16 h (fun _ h => ml_aload_n dX11_opens_27 0 rfl <| ml_iconst dX11_opens_28 kc_i3 <| ml_b2_of h fun r1976 m1977 hv1975 h => ml_callV dX11_opens_29 wm_144 wb_105 hc1971 (sX11_meets hv1975) rfl (Nat.le_of_ble_eq_true rfl) (Nat.le_of_ble_eq_true rfl) rfl <| ml_rI (mk := ml_i) hr dX11_opens_32 (fun _ => trivial) h) (fun _ h => ml_aload_n dX11_opens_19 0 rfl <| ml_iload_n dX11_opens_20 1 rfl <| ml_b1_of h fun r1979 hv1978 h => ml_callV dX11_opens_21 wm_486 wb_298 hc1971 (sX11_opensOf hv1978) rfl (Nat.le_of_ble_eq_true rfl) (Nat.le_of_ble_eq_true rfl) rfl <| ml_goto dX11_opens_24 <| ml_rI (mk := ml_i) hr dX11_opens_32 (fun _ => trivial) h)) (fun _ h => ml_iconst dX11_opens_8 kc_im1 <| ml_rI (mk := ml_i) hr dX11_opens_9 (fun _ => trivial) h)
theorem sX11_opens {l0 : Nat} {l1 : Int32} {m : ml_M} {rv : Int32} {rm : ml_M} (h : fX11_opens l0 l1 m = some (rv, rm)) : ml_Sn yX11_opens cX11_opens 2 (some .int) 5 [ml_r l0, ml_i l1] m (some (ml_i rv)) rm :=
  ml_Sn_of (P := True) (ini := false) (by decide +kernel) (Nat.le_of_ble_eq_true rfl) (fun h => by cases h) (fun _ => ml_RkI rv) fun E hL hr => wX11_opens_0 hL hr _ _ _ h
theorem dX10_has_0 : ml_d cX10_has 0 (.iload_n 0) 1 1 := ⟨by decide +kernel, rfl⟩
theorem dX10_has_1 : ml_d cX10_has 1 (.iload_n 1) 1 2 := ⟨by decide +kernel, rfl⟩
theorem dX10_has_2 : ml_d cX10_has 2 (.ishr) 1 3 := ⟨by decide +kernel, rfl⟩
theorem dX10_has_3 : ml_d cX10_has 3 (.iconst 1) 1 4 := ⟨by decide +kernel, rfl⟩
theorem dX10_has_4 : ml_d cX10_has 4 (.iand) 1 5 := ⟨by decide +kernel, rfl⟩
theorem dX10_has_5 : ml_j cX10_has 5 (.ifCond .eq) 12 8 := ⟨7, by decide +kernel, by decide, rfl⟩
theorem dX10_has_8 : ml_d cX10_has 8 (.iconst 1) 1 9 := ⟨by decide +kernel, rfl⟩
theorem dX10_has_9 : ml_j cX10_has 9 .goto 13 12 := ⟨4, by decide +kernel, by decide, rfl⟩
theorem dX10_has_12 : ml_d cX10_has 12 (.iconst 0) 1 13 := ⟨by decide +kernel, rfl⟩
theorem dX10_has_13 : ml_d cX10_has 13 (.ireturn) 1 14 := ⟨by decide +kernel, rfl⟩
def fX10_has (l0 : Int32) (l1 : Int32) (m : ml_M) : Option Int32 :=
    if ((l0 >>> (l1 &&& 31)) &&& (1 : Int32)) = 0 then
    some (0 : Int32)
    else
    some (1 : Int32)
theorem wX10_has_0 {E : ml_E} (hL : ml_eL E = 2) {rv : Int32} {m : ml_M} (hr : ∀ (pc pc' : Nat) (lv : List (Nat × ml_X)), ml_d cX10_has pc .ireturn 1 pc' → (rv = 0 ∨ rv = 1) → ml_V E "LostRoom" cX10_has 2 false m pc lv [ml_i rv]) : ∀ (l0 : Int32) (l1 : Int32), fX10_has l0 l1 m = some rv → ml_V E "LostRoom" cX10_has 2 false m 0 [(0, ml_i l0), (1, ml_i l1)] [] := by
  intro l0 l1 h
  unfold fX10_has at h
  exact ml_iload_n dX10_has_0 0 rfl <| ml_iload_n dX10_has_1 1 rfl <| ml_ishr dX10_has_2 <| ml_iconst dX10_has_3 kc_i1 <| ml_iand dX10_has_4 <| ml_if_eq dX10_has_5 h (fun _ h => ml_iconst dX10_has_12 kc_i0 <| ml_rp (mk := ml_i) hr dX10_has_13 (fun e => Or.inl e.symm) h) (fun _ h => ml_iconst dX10_has_8 kc_i1 <| ml_goto dX10_has_9 <| ml_rp (mk := ml_i) hr dX10_has_13 (fun e => Or.inr e.symm) h)
theorem sX10_has {l0 : Int32} {l1 : Int32} {m : ml_M} {rv : Int32} (h : fX10_has l0 l1 m = some rv) : ml_Sn yX10_has cX10_has 2 (some .boolean) 2 [ml_i l0, ml_i l1] m (some (ml_i rv)) m :=
  ml_Sn_of (P := (rv = 0 ∨ rv = 1)) (ini := false) (by decide +kernel) (Nat.le_of_ble_eq_true rfl) (fun h => by cases h) (fun hz => ml_RkZ rv hz) fun E hL hr => wX10_has_0 hL hr _ _ h
theorem dX10_strange_0 : ml_d cX10_strange 0 (.iconst 0) 1 1 := ⟨by decide +kernel, rfl⟩
theorem dX10_strange_1 : ml_d cX10_strange 1 (.istore_n 1) 1 2 := ⟨by decide +kernel, rfl⟩
theorem dX10_strange_2 : ml_d cX10_strange 2 (.bipush (-9)) 2 4 := ⟨by decide +kernel, rfl⟩
theorem dX10_strange_4 : ml_d cX10_strange 4 (.istore_n 2) 1 5 := ⟨by decide +kernel, rfl⟩
theorem dX10_strange_5 : ml_d cX10_strange 5 (.iconst 0) 1 6 := ⟨by decide +kernel, rfl⟩
theorem dX10_strange_6 : ml_d cX10_strange 6 (.istore_n 3) 1 7 := ⟨by decide +kernel, rfl⟩
theorem dX10_strange_7 : ml_d cX10_strange 7 (.iload_n 3) 1 8 := ⟨by decide +kernel, rfl⟩
theorem dX10_strange_8 : ml_d cX10_strange 8 (.aload_n 0) 1 9 := ⟨by decide +kernel, rfl⟩
theorem dX10_strange_9 : ml_d cX10_strange 9 (.getfield 118) 3 12 := ⟨by decide +kernel, rfl⟩
theorem dX10_strange_12 : ml_j cX10_strange 12 (.if_icmp .ge) 89 15 := ⟨77, by decide +kernel, by decide, rfl⟩
theorem dX10_strange_15 : ml_d cX10_strange 15 (.aload_n 0) 1 16 := ⟨by decide +kernel, rfl⟩
theorem dX10_strange_16 : ml_d cX10_strange 16 (.getfield 36) 3 19 := ⟨by decide +kernel, rfl⟩
theorem dX10_strange_19 : ml_d cX10_strange 19 (.iload_n 3) 1 20 := ⟨by decide +kernel, rfl⟩
theorem dX10_strange_20 : ml_d cX10_strange 20 (.aaload) 1 21 := ⟨by decide +kernel, rfl⟩
theorem dX10_strange_21 : ml_d cX10_strange 21 (.astore 4) 2 23 := ⟨by decide +kernel, rfl⟩
theorem dX10_strange_23 : ml_d cX10_strange 23 (.aload 4) 2 25 := ⟨by decide +kernel, rfl⟩
theorem dX10_strange_25 : ml_d cX10_strange 25 (.getfield 210) 3 28 := ⟨by decide +kernel, rfl⟩
theorem dX10_strange_28 : ml_d cX10_strange 28 (.iconst 5) 1 29 := ⟨by decide +kernel, rfl⟩
theorem dX10_strange_29 : ml_j cX10_strange 29 (.if_icmp .ne) 83 32 := ⟨54, by decide +kernel, by decide, rfl⟩
theorem dX10_strange_32 : ml_d cX10_strange 32 (.aload 4) 2 34 := ⟨by decide +kernel, rfl⟩
theorem dX10_strange_34 : ml_d cX10_strange 34 (.getfield 175) 3 37 := ⟨by decide +kernel, rfl⟩
theorem dX10_strange_37 : ml_d cX10_strange 37 (.bipush (-9)) 2 39 := ⟨by decide +kernel, rfl⟩
theorem dX10_strange_39 : ml_j cX10_strange 39 (.if_icmp .ne) 45 42 := ⟨6, by decide +kernel, by decide, rfl⟩
theorem dX10_strange_42 : ml_j cX10_strange 42 .goto 83 45 := ⟨41, by decide +kernel, by decide, rfl⟩
theorem dX10_strange_45 : ml_d cX10_strange 45 (.aload_n 0) 1 46 := ⟨by decide +kernel, rfl⟩
theorem dX10_strange_46 : ml_d cX10_strange 46 (.aload 4) 2 48 := ⟨by decide +kernel, rfl⟩
theorem dX10_strange_48 : ml_d cX10_strange 48 (.invokevirtual 213) 3 51 := ⟨by decide +kernel, rfl⟩
theorem dX10_strange_51 : ml_d cX10_strange 51 (.istore 5) 2 53 := ⟨by decide +kernel, rfl⟩
theorem dX10_strange_53 : ml_d cX10_strange 53 (.iload 5) 2 55 := ⟨by decide +kernel, rfl⟩
theorem dX10_strange_55 : ml_j cX10_strange 55 (.ifCond .eq) 83 58 := ⟨28, by decide +kernel, by decide, rfl⟩
theorem dX10_strange_58 : ml_d cX10_strange 58 (.iload 5) 2 60 := ⟨by decide +kernel, rfl⟩
theorem dX10_strange_60 : ml_d cX10_strange 60 (.aload 4) 2 62 := ⟨by decide +kernel, rfl⟩
theorem dX10_strange_62 : ml_d cX10_strange 62 (.getfield 175) 3 65 := ⟨by decide +kernel, rfl⟩
theorem dX10_strange_65 : ml_d cX10_strange 65 (.invokestatic 216) 3 68 := ⟨by decide +kernel, rfl⟩
theorem dX10_strange_68 : ml_j cX10_strange 68 (.ifCond .eq) 74 71 := ⟨6, by decide +kernel, by decide, rfl⟩
theorem dX10_strange_71 : ml_j cX10_strange 71 .goto 83 74 := ⟨12, by decide +kernel, by decide, rfl⟩
theorem dX10_strange_74 : ml_d cX10_strange 74 (.iload_n 1) 1 75 := ⟨by decide +kernel, rfl⟩
theorem dX10_strange_75 : ml_j cX10_strange 75 (.ifCond .ne) 80 78 := ⟨5, by decide +kernel, by decide, rfl⟩
theorem dX10_strange_78 : ml_d cX10_strange 78 (.iload_n 3) 1 79 := ⟨by decide +kernel, rfl⟩
theorem dX10_strange_79 : ml_d cX10_strange 79 (.istore_n 2) 1 80 := ⟨by decide +kernel, rfl⟩
theorem dX10_strange_80 : ml_d cX10_strange 80 (.iinc 1 1) 3 83 := ⟨by decide +kernel, rfl⟩
theorem dX10_strange_83 : ml_d cX10_strange 83 (.iinc 3 1) 3 86 := ⟨by decide +kernel, rfl⟩
theorem dX10_strange_86 : ml_j cX10_strange 86 .goto 7 89 := ⟨(-79), by decide +kernel, by decide, rfl⟩
theorem dX10_strange_89 : ml_d cX10_strange 89 (.aload_n 0) 1 90 := ⟨by decide +kernel, rfl⟩
theorem dX10_strange_90 : ml_d cX10_strange 90 (.iload_n 2) 1 91 := ⟨by decide +kernel, rfl⟩
theorem dX10_strange_91 : ml_d cX10_strange 91 (.putfield 203) 3 94 := ⟨by decide +kernel, rfl⟩
theorem dX10_strange_94 : ml_d cX10_strange 94 (.iload_n 1) 1 95 := ⟨by decide +kernel, rfl⟩
theorem dX10_strange_95 : ml_d cX10_strange 95 (.ireturn) 1 96 := ⟨by decide +kernel, rfl⟩
def fX10_strange_83 (k7 : Nat → Int32 → Int32 → Int32 → ml_M → Option (Int32 × ml_M)) (l0 : Nat) (l1 : Int32) (l2 : Int32) (l3 : Int32) (m : ml_M) : Option (Int32 × ml_M) :=
    k7 l0 l1 l2 (l3 + (1 : Int32)) m
theorem vX10_strange_83 {E : ml_E} (hL : ml_eL E = 6) {rv : Int32} {rm : ml_M} (hr : ∀ (pc pc' : Nat) (lv : List (Nat × ml_X)), ml_d cX10_strange pc .ireturn 1 pc' → True → ml_V E "LostRoom" cX10_strange 4 false rm pc lv [ml_i rv]) {k7 : Nat → Int32 → Int32 → Int32 → ml_M → Option (Int32 × ml_M)} (hk7 : ∀ (l0 : Nat) (l1 : Int32) (l2 : Int32) (l3 : Int32) (m : ml_M), k7 l0 l1 l2 l3 m = some (rv, rm) → ml_V E "LostRoom" cX10_strange 4 false m 7 [(0, ml_r l0), (1, ml_i l1), (2, ml_i l2), (3, ml_i l3)] []) : ∀ (l0 : Nat) (l1 : Int32) (l2 : Int32) (l3 : Int32) (m : ml_M), fX10_strange_83 k7 l0 l1 l2 l3 m = some (rv, rm) → ml_V E "LostRoom" cX10_strange 4 false m 83 [(0, ml_r l0), (1, ml_i l1), (2, ml_i l2), (3, ml_i l3)] [] := by
  intro l0 l1 l2 l3 m h
  unfold fX10_strange_83 at h
  exact ml_iinc (lv' := [(3, ml_i (l3 + (1 : Int32))), (0, ml_r l0), (1, ml_i l1), (2, ml_i l2)]) dX10_strange_83 3 rfl (congrArg (l3 + ·) kc_i1) (ml_hn hL rfl) rfl <| ml_goto dX10_strange_86 <| ml_V.sub [1, 2, 3, 0] rfl (hk7 _ _ _ _ _ h)
def fX10_strange_80 (k7 : Nat → Int32 → Int32 → Int32 → ml_M → Option (Int32 × ml_M)) (l0 : Nat) (l1 : Int32) (l2 : Int32) (l3 : Int32) (m : ml_M) : Option (Int32 × ml_M) :=
    fX10_strange_83 k7 l0 (l1 + (1 : Int32)) l2 l3 m
theorem vX10_strange_80 {E : ml_E} (hL : ml_eL E = 6) {rv : Int32} {rm : ml_M} (hr : ∀ (pc pc' : Nat) (lv : List (Nat × ml_X)), ml_d cX10_strange pc .ireturn 1 pc' → True → ml_V E "LostRoom" cX10_strange 4 false rm pc lv [ml_i rv]) {k7 : Nat → Int32 → Int32 → Int32 → ml_M → Option (Int32 × ml_M)} (hk7 : ∀ (l0 : Nat) (l1 : Int32) (l2 : Int32) (l3 : Int32) (m : ml_M), k7 l0 l1 l2 l3 m = some (rv, rm) → ml_V E "LostRoom" cX10_strange 4 false m 7 [(0, ml_r l0), (1, ml_i l1), (2, ml_i l2), (3, ml_i l3)] []) : ∀ (l0 : Nat) (l1 : Int32) (l2 : Int32) (l3 : Int32) (m : ml_M), fX10_strange_80 k7 l0 l1 l2 l3 m = some (rv, rm) → ml_V E "LostRoom" cX10_strange 4 false m 80 [(0, ml_r l0), (1, ml_i l1), (2, ml_i l2), (3, ml_i l3)] [] := by
  intro l0 l1 l2 l3 m h
  unfold fX10_strange_80 at h
  exact ml_iinc (lv' := [(1, ml_i (l1 + (1 : Int32))), (0, ml_r l0), (2, ml_i l2), (3, ml_i l3)]) dX10_strange_80 1 rfl (congrArg (l1 + ·) kc_i1) (ml_hn hL rfl) rfl <| ml_V.sub [1, 0, 2, 3] rfl (vX10_strange_83 hL hr hk7 _ _ _ _ _ h)
def fX10_strange_89 (l0 : Nat) (l1 : Int32) (l2 : Int32) (m : ml_M) : Option (Int32 × ml_M) :=
    if (ml_K m l0).1 = 10 then
    ml_let (ml_sI m l0 15 l2) fun m1981 =>
    some (l1, m1981)
    else none
theorem vX10_strange_89 {E : ml_E} (hL : ml_eL E = 6) {rv : Int32} {rm : ml_M} (hr : ∀ (pc pc' : Nat) (lv : List (Nat × ml_X)), ml_d cX10_strange pc .ireturn 1 pc' → True → ml_V E "LostRoom" cX10_strange 4 false rm pc lv [ml_i rv]) : ∀ (l0 : Nat) (l1 : Int32) (l2 : Int32) (m : ml_M), fX10_strange_89 l0 l1 l2 m = some (rv, rm) → ml_V E "LostRoom" cX10_strange 4 false m 89 [(0, ml_r l0), (1, ml_i l1), (2, ml_i l2)] [] := by
  intro l0 l1 l2 m h
  unfold fX10_strange_89 at h
  exact ml_aload_n dX10_strange_89 0 rfl <| ml_iload_n dX10_strange_90 2 rfl <| ml_ck_of h fun hc1980 h => ml_putI dX10_strange_91 wb_106 hc1980 <| ml_lt (m := m) rfl h fun m1981 em1982 h => ml_iload_n dX10_strange_94 1 rfl <| ml_rI (mk := ml_i) hr dX10_strange_95 (fun _ => trivial) h
def fX10_strange_7 : Nat → Nat → Int32 → Int32 → Int32 → ml_M → Option (Int32 × ml_M)
  | 0, _, _, _, _, _ => none
  | fu + 1, l0, l1, l2, l3, m =>
    if (ml_K m l0).1 = 10 then
    if (ml_I m l0 5) ≤ l3 then
    fX10_strange_89 l0 l1 l2 m
    else
    ml_let (ml_R m l0 4) fun a1984 =>
    if ml_in m a1984 29 l3 then
    ml_let (ml_R m a1984 l3.toNatClampNeg) fun a1986 =>
    if (ml_K m a1986).1 = 8 then
    if (ml_I m a1986 0) = (5 : Int32) then
    if (ml_I m a1986 6) = (-9 : Int32) then
    fX10_strange_83 (fX10_strange_7 fu) l0 l1 l2 l3 m
    else
    ml_b1 (fX10_opened l0 a1986 m) fun r1989 =>
    if r1989 = 0 then
    fX10_strange_83 (fX10_strange_7 fu) l0 l1 l2 l3 m
    else
    ml_b1 (fX10_has r1989 (ml_I m a1986 6) m) fun r1991 =>
    if r1991 = 0 then
    if l1 = 0 then
    fX10_strange_80 (fX10_strange_7 fu) l0 l1 l3 l3 m
    else
    fX10_strange_80 (fX10_strange_7 fu) l0 l1 l2 l3 m
    else
    fX10_strange_83 (fX10_strange_7 fu) l0 l1 l2 l3 m
    else
    fX10_strange_83 (fX10_strange_7 fu) l0 l1 l2 l3 m
    else none
    else none
    else none
theorem vX10_strange_7 {E : ml_E} (hL : ml_eL E = 6) {rv : Int32} {rm : ml_M} (hr : ∀ (pc pc' : Nat) (lv : List (Nat × ml_X)), ml_d cX10_strange pc .ireturn 1 pc' → True → ml_V E "LostRoom" cX10_strange 4 false rm pc lv [ml_i rv]) : ∀ (fu : Nat) (l0 : Nat) (l1 : Int32) (l2 : Int32) (l3 : Int32) (m : ml_M), fX10_strange_7 fu l0 l1 l2 l3 m = some (rv, rm) → ml_V E "LostRoom" cX10_strange 4 false m 7 [(0, ml_r l0), (1, ml_i l1), (2, ml_i l2), (3, ml_i l3)] [] := by
  intro fu
  induction fu with
  | zero => intro l0 l1 l2 l3 m h; exact ml_none h
  | succ fu ih =>
    intro l0 l1 l2 l3 m h
    have hk7 := ih
    unfold fX10_strange_7 at h
    exact ml_iload_n dX10_strange_7 3 rfl <| ml_aload_n dX10_strange_8 0 rfl <| ml_ck_of h fun hc1983 h => ml_getI dX10_strange_9 wb_217 hc1983 <| ml_icmp_ge dX10_strange_12 h (fun _ h => ml_V.sub [0, 1, 2] rfl (vX10_strange_89 hL hr  _ _ _ _ h)) (fun _ h => ml_aload_n dX10_strange_15 0 rfl <| ml_getR dX10_strange_16 wb_218 hc1983 <| ml_lx (mk := ml_r) h fun a1984 h => ml_iload_n dX10_strange_19 3 rfl <| ml_ck_of h fun hi1985 h => ml_aald (kd := 29) dX10_strange_20 (by decide) hi1985 <| ml_lx (mk := ml_r) h fun a1986 h => ml_astore (lv' := [(4, ml_r a1986), (0, ml_r l0), (1, ml_i l1), (2, ml_i l2), (3, ml_i l3)]) dX10_strange_21 (ml_hn hL rfl) rfl <| ml_aload dX10_strange_23 0 rfl <| ml_ck_of h fun hc1987 h => ml_getI dX10_strange_25 wb_268 hc1987 <| ml_iconst dX10_strange_28 kc_i5 <| ml_icmp_ne dX10_strange_29 h (fun _ h => ml_V.sub [1, 2, 3, 4] rfl (vX10_strange_83 hL hr hk7 _ _ _ _ _ h)) (fun _ h => ml_aload dX10_strange_32 0 rfl <| ml_getI dX10_strange_34 wb_219 hc1987 <| ml_bipush dX10_strange_37 kc_bm9 <| ml_icmp_ne dX10_strange_39 h (fun _ h => ml_aload_n dX10_strange_45 1 rfl <| ml_aload dX10_strange_46 0 rfl <| ml_b1_of h fun r1989 hv1988 h => ml_callV dX10_strange_48 wm_478 wb_296 hc1983 (sX10_opened hv1988) rfl (Nat.le_of_ble_eq_true rfl) (Nat.le_of_ble_eq_true rfl) rfl <| ml_istore (lv' := [(5, ml_i r1989), (4, ml_r a1986), (0, ml_r l0), (1, ml_i l1), (2, ml_i l2), (3, ml_i l3)]) dX10_strange_51 (ml_hn hL rfl) rfl <| ml_iload dX10_strange_53 0 rfl <| ml_if_eq dX10_strange_55 h (fun _ h => ml_V.sub [2, 3, 4, 5] rfl (vX10_strange_83 hL hr hk7 _ _ _ _ _ h)) (fun _ h => ml_iload dX10_strange_58 0 rfl <| ml_aload dX10_strange_60 1 rfl <| ml_getI dX10_strange_62 wb_219 hc1987 <| ml_b1_of h fun r1991 hv1990 h => ml_callS dX10_strange_65 wm_489 wb_299 (sX10_has hv1990) rfl (Nat.le_of_ble_eq_true rfl) (Nat.le_of_ble_eq_true rfl) rfl <| ml_if_eq dX10_strange_68 h (fun _ h => ml_iload_n dX10_strange_74 3 rfl <| ml_if_ne dX10_strange_75 h (fun _ h => ml_V.sub [2, 3, 4, 5] rfl (vX10_strange_80 hL hr hk7 _ _ _ _ _ h)) (fun _ h => ml_iload_n dX10_strange_78 5 rfl <| ml_istore_n (lv' := [(2, ml_i l3), (5, ml_i r1989), (4, ml_r a1986), (0, ml_r l0), (1, ml_i l1), (3, ml_i l3)]) dX10_strange_79 (ml_hn hL rfl) rfl <| ml_V.sub [3, 4, 0, 5] rfl (vX10_strange_80 hL hr hk7 _ _ _ _ _ h))) (fun _ h => ml_goto dX10_strange_71 <| ml_V.sub [2, 3, 4, 5] rfl (vX10_strange_83 hL hr hk7 _ _ _ _ _ h)))) (fun _ h => ml_goto dX10_strange_42 <| ml_V.sub [1, 2, 3, 4] rfl (vX10_strange_83 hL hr hk7 _ _ _ _ _ h))))
def fX10_strange (l0 : Nat) (m : ml_M) : Option (Int32 × ml_M) :=
    fX10_strange_7 ml_fu l0 (0 : Int32) (-9 : Int32) (0 : Int32) m
theorem wX10_strange_0 {E : ml_E} (hL : ml_eL E = 6) {rv : Int32} {rm : ml_M} (hr : ∀ (pc pc' : Nat) (lv : List (Nat × ml_X)), ml_d cX10_strange pc .ireturn 1 pc' → True → ml_V E "LostRoom" cX10_strange 4 false rm pc lv [ml_i rv]) : ∀ (l0 : Nat) (m : ml_M), fX10_strange l0 m = some (rv, rm) → ml_V E "LostRoom" cX10_strange 4 false m 0 [(0, ml_r l0)] [] := by
  intro l0 m h
  unfold fX10_strange at h
  exact ml_iconst dX10_strange_0 kc_i0 <| ml_istore_n (lv' := [(1, ml_i (0 : Int32)), (0, ml_r l0)]) dX10_strange_1 (ml_hn hL rfl) rfl <| ml_bipush dX10_strange_2 kc_bm9 <| ml_istore_n (lv' := [(2, ml_i (-9 : Int32)), (1, ml_i (0 : Int32)), (0, ml_r l0)]) dX10_strange_4 (ml_hn hL rfl) rfl <| ml_iconst dX10_strange_5 kc_i0 <| ml_istore_n (lv' := [(3, ml_i (0 : Int32)), (2, ml_i (-9 : Int32)), (1, ml_i (0 : Int32)), (0, ml_r l0)]) dX10_strange_6 (ml_hn hL rfl) rfl <| ml_V.sub [3, 2, 1, 0] rfl (vX10_strange_7 hL hr  ml_fu _ _ _ _ _ h)
theorem sX10_strange {l0 : Nat} {m : ml_M} {rv : Int32} {rm : ml_M} (h : fX10_strange l0 m = some (rv, rm)) : ml_Sn yX10_strange cX10_strange 6 (some .int) 4 [ml_r l0] m (some (ml_i rv)) rm :=
  ml_Sn_of (P := True) (ini := false) (by decide +kernel) (Nat.le_of_ble_eq_true rfl) (fun h => by cases h) (fun _ => ml_RkI rv) fun E hL hr => wX10_strange_0 hL hr _ _ h
theorem dX11_has_0 : ml_d cX11_has 0 (.iload_n 0) 1 1 := ⟨by decide +kernel, rfl⟩
theorem dX11_has_1 : ml_d cX11_has 1 (.iload_n 1) 1 2 := ⟨by decide +kernel, rfl⟩
theorem dX11_has_2 : ml_d cX11_has 2 (.ishr) 1 3 := ⟨by decide +kernel, rfl⟩
theorem dX11_has_3 : ml_d cX11_has 3 (.iconst 1) 1 4 := ⟨by decide +kernel, rfl⟩
theorem dX11_has_4 : ml_d cX11_has 4 (.iand) 1 5 := ⟨by decide +kernel, rfl⟩
theorem dX11_has_5 : ml_d cX11_has 5 (.iconst 1) 1 6 := ⟨by decide +kernel, rfl⟩
theorem dX11_has_6 : ml_j cX11_has 6 (.if_icmp .ne) 13 9 := ⟨7, by decide +kernel, by decide, rfl⟩
theorem dX11_has_9 : ml_d cX11_has 9 (.iconst 1) 1 10 := ⟨by decide +kernel, rfl⟩
theorem dX11_has_10 : ml_j cX11_has 10 .goto 14 13 := ⟨4, by decide +kernel, by decide, rfl⟩
theorem dX11_has_13 : ml_d cX11_has 13 (.iconst 0) 1 14 := ⟨by decide +kernel, rfl⟩
theorem dX11_has_14 : ml_d cX11_has 14 (.ireturn) 1 15 := ⟨by decide +kernel, rfl⟩
def fX11_has (l0 : Int32) (l1 : Int32) (m : ml_M) : Option Int32 :=
    if ((l0 >>> (l1 &&& 31)) &&& (1 : Int32)) = (1 : Int32) then
    some (1 : Int32)
    else
    some (0 : Int32)
theorem wX11_has_0 {E : ml_E} (hL : ml_eL E = 2) {rv : Int32} {m : ml_M} (hr : ∀ (pc pc' : Nat) (lv : List (Nat × ml_X)), ml_d cX11_has pc .ireturn 1 pc' → (rv = 0 ∨ rv = 1) → ml_V E "LostRoomModel" cX11_has 2 false m pc lv [ml_i rv]) : ∀ (l0 : Int32) (l1 : Int32), fX11_has l0 l1 m = some rv → ml_V E "LostRoomModel" cX11_has 2 false m 0 [(0, ml_i l0), (1, ml_i l1)] [] := by
  intro l0 l1 h
  unfold fX11_has at h
  exact ml_iload_n dX11_has_0 0 rfl <| ml_iload_n dX11_has_1 1 rfl <| ml_ishr dX11_has_2 <| ml_iconst dX11_has_3 kc_i1 <| ml_iand dX11_has_4 <| ml_iconst dX11_has_5 kc_i1 <| ml_icmp_ne dX11_has_6 h (fun _ h => ml_iconst dX11_has_13 kc_i0 <| ml_rp (mk := ml_i) hr dX11_has_14 (fun e => Or.inl e.symm) h) (fun _ h => ml_iconst dX11_has_9 kc_i1 <| ml_goto dX11_has_10 <| ml_rp (mk := ml_i) hr dX11_has_14 (fun e => Or.inr e.symm) h)
theorem sX11_has {l0 : Int32} {l1 : Int32} {m : ml_M} {rv : Int32} (h : fX11_has l0 l1 m = some rv) : ml_Sn yX11_has cX11_has 2 (some .boolean) 2 [ml_i l0, ml_i l1] m (some (ml_i rv)) m :=
  ml_Sn_of (P := (rv = 0 ∨ rv = 1)) (ini := false) (by decide +kernel) (Nat.le_of_ble_eq_true rfl) (fun h => by cases h) (fun hz => ml_RkZ rv hz) fun E hL hr => wX11_has_0 hL hr _ _ h
theorem dX11_strange_0 : ml_d cX11_strange 0 (.iconst 0) 1 1 := ⟨by decide +kernel, rfl⟩
theorem dX11_strange_1 : ml_d cX11_strange 1 (.istore_n 1) 1 2 := ⟨by decide +kernel, rfl⟩
theorem dX11_strange_2 : ml_d cX11_strange 2 (.bipush (-9)) 2 4 := ⟨by decide +kernel, rfl⟩
theorem dX11_strange_4 : ml_d cX11_strange 4 (.istore_n 2) 1 5 := ⟨by decide +kernel, rfl⟩
theorem dX11_strange_5 : ml_d cX11_strange 5 (.iconst 0) 1 6 := ⟨by decide +kernel, rfl⟩
theorem dX11_strange_6 : ml_d cX11_strange 6 (.istore_n 3) 1 7 := ⟨by decide +kernel, rfl⟩
theorem dX11_strange_7 : ml_d cX11_strange 7 (.iload_n 3) 1 8 := ⟨by decide +kernel, rfl⟩
theorem dX11_strange_8 : ml_d cX11_strange 8 (.aload_n 0) 1 9 := ⟨by decide +kernel, rfl⟩
theorem dX11_strange_9 : ml_d cX11_strange 9 (.getfield 181) 3 12 := ⟨by decide +kernel, rfl⟩
theorem dX11_strange_12 : ml_j cX11_strange 12 (.if_icmp .ge) 99 15 := ⟨87, by decide +kernel, by decide, rfl⟩
theorem dX11_strange_15 : ml_d cX11_strange 15 (.aload_n 0) 1 16 := ⟨by decide +kernel, rfl⟩
theorem dX11_strange_16 : ml_d cX11_strange 16 (.iload_n 3) 1 17 := ⟨by decide +kernel, rfl⟩
theorem dX11_strange_17 : ml_d cX11_strange 17 (.invokevirtual 220) 3 20 := ⟨by decide +kernel, rfl⟩
theorem dX11_strange_20 : ml_d cX11_strange 20 (.iconst 5) 1 21 := ⟨by decide +kernel, rfl⟩
theorem dX11_strange_21 : ml_j cX11_strange 21 (.if_icmp .ne) 62 24 := ⟨41, by decide +kernel, by decide, rfl⟩
theorem dX11_strange_24 : ml_d cX11_strange 24 (.aload_n 0) 1 25 := ⟨by decide +kernel, rfl⟩
theorem dX11_strange_25 : ml_d cX11_strange 25 (.iload_n 3) 1 26 := ⟨by decide +kernel, rfl⟩
theorem dX11_strange_26 : ml_d cX11_strange 26 (.invokevirtual 205) 3 29 := ⟨by decide +kernel, rfl⟩
theorem dX11_strange_29 : ml_d cX11_strange 29 (.bipush (-9)) 2 31 := ⟨by decide +kernel, rfl⟩
theorem dX11_strange_31 : ml_j cX11_strange 31 (.if_icmp .eq) 62 34 := ⟨31, by decide +kernel, by decide, rfl⟩
theorem dX11_strange_34 : ml_d cX11_strange 34 (.aload_n 0) 1 35 := ⟨by decide +kernel, rfl⟩
theorem dX11_strange_35 : ml_d cX11_strange 35 (.iload_n 3) 1 36 := ⟨by decide +kernel, rfl⟩
theorem dX11_strange_36 : ml_d cX11_strange 36 (.invokevirtual 257) 3 39 := ⟨by decide +kernel, rfl⟩
theorem dX11_strange_39 : ml_j cX11_strange 39 (.ifCond .eq) 62 42 := ⟨23, by decide +kernel, by decide, rfl⟩
theorem dX11_strange_42 : ml_d cX11_strange 42 (.aload_n 0) 1 43 := ⟨by decide +kernel, rfl⟩
theorem dX11_strange_43 : ml_d cX11_strange 43 (.iload_n 3) 1 44 := ⟨by decide +kernel, rfl⟩
theorem dX11_strange_44 : ml_d cX11_strange 44 (.invokevirtual 257) 3 47 := ⟨by decide +kernel, rfl⟩
theorem dX11_strange_47 : ml_d cX11_strange 47 (.aload_n 0) 1 48 := ⟨by decide +kernel, rfl⟩
theorem dX11_strange_48 : ml_d cX11_strange 48 (.iload_n 3) 1 49 := ⟨by decide +kernel, rfl⟩
theorem dX11_strange_49 : ml_d cX11_strange 49 (.invokevirtual 205) 3 52 := ⟨by decide +kernel, rfl⟩
theorem dX11_strange_52 : ml_d cX11_strange 52 (.invokestatic 260) 3 55 := ⟨by decide +kernel, rfl⟩
theorem dX11_strange_55 : ml_j cX11_strange 55 (.ifCond .ne) 62 58 := ⟨7, by decide +kernel, by decide, rfl⟩
theorem dX11_strange_58 : ml_d cX11_strange 58 (.iconst 1) 1 59 := ⟨by decide +kernel, rfl⟩
theorem dX11_strange_59 : ml_j cX11_strange 59 .goto 63 62 := ⟨4, by decide +kernel, by decide, rfl⟩
theorem dX11_strange_62 : ml_d cX11_strange 62 (.iconst 0) 1 63 := ⟨by decide +kernel, rfl⟩
theorem dX11_strange_63 : ml_d cX11_strange 63 (.istore 4) 2 65 := ⟨by decide +kernel, rfl⟩
theorem dX11_strange_65 : ml_d cX11_strange 65 (.iload 4) 2 67 := ⟨by decide +kernel, rfl⟩
theorem dX11_strange_67 : ml_j cX11_strange 67 (.ifCond .eq) 78 70 := ⟨11, by decide +kernel, by decide, rfl⟩
theorem dX11_strange_70 : ml_d cX11_strange 70 (.iload_n 1) 1 71 := ⟨by decide +kernel, rfl⟩
theorem dX11_strange_71 : ml_j cX11_strange 71 (.ifCond .ne) 78 74 := ⟨7, by decide +kernel, by decide, rfl⟩
theorem dX11_strange_74 : ml_d cX11_strange 74 (.iload_n 3) 1 75 := ⟨by decide +kernel, rfl⟩
theorem dX11_strange_75 : ml_j cX11_strange 75 .goto 79 78 := ⟨4, by decide +kernel, by decide, rfl⟩
theorem dX11_strange_78 : ml_d cX11_strange 78 (.iload_n 2) 1 79 := ⟨by decide +kernel, rfl⟩
theorem dX11_strange_79 : ml_d cX11_strange 79 (.istore_n 2) 1 80 := ⟨by decide +kernel, rfl⟩
theorem dX11_strange_80 : ml_d cX11_strange 80 (.iload_n 1) 1 81 := ⟨by decide +kernel, rfl⟩
theorem dX11_strange_81 : ml_d cX11_strange 81 (.iload 4) 2 83 := ⟨by decide +kernel, rfl⟩
theorem dX11_strange_83 : ml_j cX11_strange 83 (.ifCond .eq) 90 86 := ⟨7, by decide +kernel, by decide, rfl⟩
theorem dX11_strange_86 : ml_d cX11_strange 86 (.iconst 1) 1 87 := ⟨by decide +kernel, rfl⟩
theorem dX11_strange_87 : ml_j cX11_strange 87 .goto 91 90 := ⟨4, by decide +kernel, by decide, rfl⟩
theorem dX11_strange_90 : ml_d cX11_strange 90 (.iconst 0) 1 91 := ⟨by decide +kernel, rfl⟩
theorem dX11_strange_91 : ml_d cX11_strange 91 (.iadd) 1 92 := ⟨by decide +kernel, rfl⟩
theorem dX11_strange_92 : ml_d cX11_strange 92 (.istore_n 1) 1 93 := ⟨by decide +kernel, rfl⟩
theorem dX11_strange_93 : ml_d cX11_strange 93 (.iinc 3 1) 3 96 := ⟨by decide +kernel, rfl⟩
theorem dX11_strange_96 : ml_j cX11_strange 96 .goto 7 99 := ⟨(-89), by decide +kernel, by decide, rfl⟩
theorem dX11_strange_99 : ml_d cX11_strange 99 (.aload_n 0) 1 100 := ⟨by decide +kernel, rfl⟩
theorem dX11_strange_100 : ml_d cX11_strange 100 (.iload_n 2) 1 101 := ⟨by decide +kernel, rfl⟩
theorem dX11_strange_101 : ml_d cX11_strange 101 (.iload_n 1) 1 102 := ⟨by decide +kernel, rfl⟩
theorem dX11_strange_102 : ml_d cX11_strange 102 (.invokevirtual 123) 3 105 := ⟨by decide +kernel, rfl⟩
theorem dX11_strange_105 : ml_d cX11_strange 105 (.ireturn) 1 106 := ⟨by decide +kernel, rfl⟩
def fX11_strange_91 (k7 : Nat → Int32 → Int32 → Int32 → ml_M → Option (Int32 × ml_M)) (l0 : Nat) (l2 : Int32) (l3 : Int32) (t0 : Int32) (t1 : Int32) (m : ml_M) : Option (Int32 × ml_M) :=
    ml_let (t1 + t0) fun x1992 =>
    k7 l0 x1992 l2 (l3 + (1 : Int32)) m
theorem vX11_strange_91 {E : ml_E} (hL : ml_eL E = 5) {rv : Int32} {rm : ml_M} (hr : ∀ (pc pc' : Nat) (lv : List (Nat × ml_X)), ml_d cX11_strange pc .ireturn 1 pc' → True → ml_V E "LostRoomModel" cX11_strange 5 false rm pc lv [ml_i rv]) {k7 : Nat → Int32 → Int32 → Int32 → ml_M → Option (Int32 × ml_M)} (hk7 : ∀ (l0 : Nat) (l1 : Int32) (l2 : Int32) (l3 : Int32) (m : ml_M), k7 l0 l1 l2 l3 m = some (rv, rm) → ml_V E "LostRoomModel" cX11_strange 5 false m 7 [(0, ml_r l0), (1, ml_i l1), (2, ml_i l2), (3, ml_i l3)] []) : ∀ (l0 : Nat) (l2 : Int32) (l3 : Int32) (t0 : Int32) (t1 : Int32) (m : ml_M), fX11_strange_91 k7 l0 l2 l3 t0 t1 m = some (rv, rm) → ml_V E "LostRoomModel" cX11_strange 5 false m 91 [(0, ml_r l0), (2, ml_i l2), (3, ml_i l3)] [ml_i t0, ml_i t1] := by
  intro l0 l2 l3 t0 t1 m h
  unfold fX11_strange_91 at h
  exact ml_iadd dX11_strange_91 <| ml_lx (mk := ml_i) h fun x1992 h => ml_istore_n (lv' := [(1, ml_i x1992), (0, ml_r l0), (2, ml_i l2), (3, ml_i l3)]) dX11_strange_92 (ml_hn hL rfl) rfl <| ml_iinc (lv' := [(3, ml_i (l3 + (1 : Int32))), (1, ml_i x1992), (0, ml_r l0), (2, ml_i l2)]) dX11_strange_93 3 rfl (congrArg (l3 + ·) kc_i1) (ml_hn hL rfl) rfl <| ml_goto dX11_strange_96 <| ml_V.sub [2, 1, 3, 0] rfl (hk7 _ _ _ _ _ h)
def fX11_strange_79 (k7 : Nat → Int32 → Int32 → Int32 → ml_M → Option (Int32 × ml_M)) (l0 : Nat) (l1 : Int32) (l3 : Int32) (l4 : Int32) (t0 : Int32) (m : ml_M) : Option (Int32 × ml_M) :=
    if l4 = 0 then
    fX11_strange_91 k7 l0 t0 l3 (0 : Int32) l1 m
    else
    fX11_strange_91 k7 l0 t0 l3 (1 : Int32) l1 m
theorem vX11_strange_79 {E : ml_E} (hL : ml_eL E = 5) {rv : Int32} {rm : ml_M} (hr : ∀ (pc pc' : Nat) (lv : List (Nat × ml_X)), ml_d cX11_strange pc .ireturn 1 pc' → True → ml_V E "LostRoomModel" cX11_strange 5 false rm pc lv [ml_i rv]) {k7 : Nat → Int32 → Int32 → Int32 → ml_M → Option (Int32 × ml_M)} (hk7 : ∀ (l0 : Nat) (l1 : Int32) (l2 : Int32) (l3 : Int32) (m : ml_M), k7 l0 l1 l2 l3 m = some (rv, rm) → ml_V E "LostRoomModel" cX11_strange 5 false m 7 [(0, ml_r l0), (1, ml_i l1), (2, ml_i l2), (3, ml_i l3)] []) : ∀ (l0 : Nat) (l1 : Int32) (l3 : Int32) (l4 : Int32) (t0 : Int32) (m : ml_M), fX11_strange_79 k7 l0 l1 l3 l4 t0 m = some (rv, rm) → ml_V E "LostRoomModel" cX11_strange 5 false m 79 [(0, ml_r l0), (1, ml_i l1), (3, ml_i l3), (4, ml_i l4)] [ml_i t0] := by
  intro l0 l1 l3 l4 t0 m h
  unfold fX11_strange_79 at h
  exact ml_istore_n (lv' := [(2, ml_i t0), (0, ml_r l0), (1, ml_i l1), (3, ml_i l3), (4, ml_i l4)]) dX11_strange_79 (ml_hn hL rfl) rfl <| ml_iload_n dX11_strange_80 2 rfl <| ml_iload dX11_strange_81 4 rfl <| ml_if_eq dX11_strange_83 h (fun _ h => ml_iconst dX11_strange_90 kc_i0 <| ml_V.sub [1, 0, 3] rfl (vX11_strange_91 hL hr hk7 _ _ _ _ _ _ h)) (fun _ h => ml_iconst dX11_strange_86 kc_i1 <| ml_goto dX11_strange_87 <| ml_V.sub [1, 0, 3] rfl (vX11_strange_91 hL hr hk7 _ _ _ _ _ _ h))
def fX11_strange_78 (k7 : Nat → Int32 → Int32 → Int32 → ml_M → Option (Int32 × ml_M)) (l0 : Nat) (l1 : Int32) (l2 : Int32) (l3 : Int32) (l4 : Int32) (m : ml_M) : Option (Int32 × ml_M) :=
    fX11_strange_79 k7 l0 l1 l3 l4 l2 m
theorem vX11_strange_78 {E : ml_E} (hL : ml_eL E = 5) {rv : Int32} {rm : ml_M} (hr : ∀ (pc pc' : Nat) (lv : List (Nat × ml_X)), ml_d cX11_strange pc .ireturn 1 pc' → True → ml_V E "LostRoomModel" cX11_strange 5 false rm pc lv [ml_i rv]) {k7 : Nat → Int32 → Int32 → Int32 → ml_M → Option (Int32 × ml_M)} (hk7 : ∀ (l0 : Nat) (l1 : Int32) (l2 : Int32) (l3 : Int32) (m : ml_M), k7 l0 l1 l2 l3 m = some (rv, rm) → ml_V E "LostRoomModel" cX11_strange 5 false m 7 [(0, ml_r l0), (1, ml_i l1), (2, ml_i l2), (3, ml_i l3)] []) : ∀ (l0 : Nat) (l1 : Int32) (l2 : Int32) (l3 : Int32) (l4 : Int32) (m : ml_M), fX11_strange_78 k7 l0 l1 l2 l3 l4 m = some (rv, rm) → ml_V E "LostRoomModel" cX11_strange 5 false m 78 [(0, ml_r l0), (1, ml_i l1), (2, ml_i l2), (3, ml_i l3), (4, ml_i l4)] [] := by
  intro l0 l1 l2 l3 l4 m h
  unfold fX11_strange_78 at h
  exact ml_iload_n dX11_strange_78 2 rfl <| ml_V.sub [0, 1, 3, 4] rfl (vX11_strange_79 hL hr hk7 _ _ _ _ _ _ h)
def fX11_strange_63 (k7 : Nat → Int32 → Int32 → Int32 → ml_M → Option (Int32 × ml_M)) (l0 : Nat) (l1 : Int32) (l2 : Int32) (l3 : Int32) (t0 : Int32) (m : ml_M) : Option (Int32 × ml_M) :=
    if t0 = 0 then
    fX11_strange_78 k7 l0 l1 l2 l3 t0 m
    else
    if l1 = 0 then
    fX11_strange_79 k7 l0 l1 l3 t0 l3 m
    else
    fX11_strange_78 k7 l0 l1 l2 l3 t0 m
theorem vX11_strange_63 {E : ml_E} (hL : ml_eL E = 5) {rv : Int32} {rm : ml_M} (hr : ∀ (pc pc' : Nat) (lv : List (Nat × ml_X)), ml_d cX11_strange pc .ireturn 1 pc' → True → ml_V E "LostRoomModel" cX11_strange 5 false rm pc lv [ml_i rv]) {k7 : Nat → Int32 → Int32 → Int32 → ml_M → Option (Int32 × ml_M)} (hk7 : ∀ (l0 : Nat) (l1 : Int32) (l2 : Int32) (l3 : Int32) (m : ml_M), k7 l0 l1 l2 l3 m = some (rv, rm) → ml_V E "LostRoomModel" cX11_strange 5 false m 7 [(0, ml_r l0), (1, ml_i l1), (2, ml_i l2), (3, ml_i l3)] []) : ∀ (l0 : Nat) (l1 : Int32) (l2 : Int32) (l3 : Int32) (t0 : Int32) (m : ml_M), fX11_strange_63 k7 l0 l1 l2 l3 t0 m = some (rv, rm) → ml_V E "LostRoomModel" cX11_strange 5 false m 63 [(0, ml_r l0), (1, ml_i l1), (2, ml_i l2), (3, ml_i l3)] [ml_i t0] := by
  intro l0 l1 l2 l3 t0 m h
  unfold fX11_strange_63 at h
  exact ml_istore (lv' := [(4, ml_i t0), (0, ml_r l0), (1, ml_i l1), (2, ml_i l2), (3, ml_i l3)]) dX11_strange_63 (ml_hn hL rfl) rfl <| ml_iload dX11_strange_65 0 rfl <| ml_if_eq dX11_strange_67 h (fun _ h => ml_V.sub [1, 2, 3, 4, 0] rfl (vX11_strange_78 hL hr hk7 _ _ _ _ _ _ h)) (fun _ h => ml_iload_n dX11_strange_70 2 rfl <| ml_if_ne dX11_strange_71 h (fun _ h => ml_V.sub [1, 2, 3, 4, 0] rfl (vX11_strange_78 hL hr hk7 _ _ _ _ _ _ h)) (fun _ h => ml_iload_n dX11_strange_74 4 rfl <| ml_goto dX11_strange_75 <| ml_V.sub [1, 2, 4, 0] rfl (vX11_strange_79 hL hr hk7 _ _ _ _ _ _ h)))
def fX11_strange_62 (k7 : Nat → Int32 → Int32 → Int32 → ml_M → Option (Int32 × ml_M)) (l0 : Nat) (l1 : Int32) (l2 : Int32) (l3 : Int32) (m : ml_M) : Option (Int32 × ml_M) :=
    fX11_strange_63 k7 l0 l1 l2 l3 (0 : Int32) m
theorem vX11_strange_62 {E : ml_E} (hL : ml_eL E = 5) {rv : Int32} {rm : ml_M} (hr : ∀ (pc pc' : Nat) (lv : List (Nat × ml_X)), ml_d cX11_strange pc .ireturn 1 pc' → True → ml_V E "LostRoomModel" cX11_strange 5 false rm pc lv [ml_i rv]) {k7 : Nat → Int32 → Int32 → Int32 → ml_M → Option (Int32 × ml_M)} (hk7 : ∀ (l0 : Nat) (l1 : Int32) (l2 : Int32) (l3 : Int32) (m : ml_M), k7 l0 l1 l2 l3 m = some (rv, rm) → ml_V E "LostRoomModel" cX11_strange 5 false m 7 [(0, ml_r l0), (1, ml_i l1), (2, ml_i l2), (3, ml_i l3)] []) : ∀ (l0 : Nat) (l1 : Int32) (l2 : Int32) (l3 : Int32) (m : ml_M), fX11_strange_62 k7 l0 l1 l2 l3 m = some (rv, rm) → ml_V E "LostRoomModel" cX11_strange 5 false m 62 [(0, ml_r l0), (1, ml_i l1), (2, ml_i l2), (3, ml_i l3)] [] := by
  intro l0 l1 l2 l3 m h
  unfold fX11_strange_62 at h
  exact ml_iconst dX11_strange_62 kc_i0 <| ml_V.sub [0, 1, 2, 3] rfl (vX11_strange_63 hL hr hk7 _ _ _ _ _ _ h)
def fX11_strange_99 (l0 : Nat) (l1 : Int32) (l2 : Int32) (m : ml_M) : Option (Int32 × ml_M) :=
    if (ml_K m l0).1 = 11 then
    ml_b2 (fX11_tells l0 l2 l1 m) fun r1995 m1996 =>
    some (r1995, m1996)
    else none
theorem vX11_strange_99 {E : ml_E} (hL : ml_eL E = 5) {rv : Int32} {rm : ml_M} (hr : ∀ (pc pc' : Nat) (lv : List (Nat × ml_X)), ml_d cX11_strange pc .ireturn 1 pc' → True → ml_V E "LostRoomModel" cX11_strange 5 false rm pc lv [ml_i rv]) : ∀ (l0 : Nat) (l1 : Int32) (l2 : Int32) (m : ml_M), fX11_strange_99 l0 l1 l2 m = some (rv, rm) → ml_V E "LostRoomModel" cX11_strange 5 false m 99 [(0, ml_r l0), (1, ml_i l1), (2, ml_i l2)] [] := by
  intro l0 l1 l2 m h
  unfold fX11_strange_99 at h
  exact ml_aload_n dX11_strange_99 0 rfl <| ml_iload_n dX11_strange_100 2 rfl <| ml_iload_n dX11_strange_101 1 rfl <| ml_ck_of h fun hc1994 h => ml_b2_of h fun r1995 m1996 hv1993 h => ml_callV dX11_strange_102 wm_158 wb_110 hc1994 (sX11_tells hv1993) rfl (Nat.le_of_ble_eq_true rfl) (Nat.le_of_ble_eq_true rfl) rfl <| ml_rI (mk := ml_i) hr dX11_strange_105 (fun _ => trivial) h
def fX11_strange_7 : Nat → Nat → Int32 → Int32 → Int32 → ml_M → Option (Int32 × ml_M)
  | 0, _, _, _, _, _ => none
  | fu + 1, l0, l1, l2, l3, m =>
    if (ml_K m l0).1 = 11 then
    if (ml_I m l0 24) ≤ l3 then
    fX11_strange_99 l0 l1 l2 m
    else
    ml_b1 (fX11_kind l0 l3 m) fun r1999 =>
    if r1999 = (5 : Int32) then
    ml_b1 (fX11_trunkOf l0 l3 m) fun r2001 =>
    if r2001 = (-9 : Int32) then
    fX11_strange_62 (fX11_strange_7 fu) l0 l1 l2 l3 m
    else
    ml_b1 (fX11_opensOf l0 l3 m) fun r2003 =>
    if r2003 = 0 then
    fX11_strange_62 (fX11_strange_7 fu) l0 l1 l2 l3 m
    else
    ml_b1 (fX11_opensOf l0 l3 m) fun r2005 =>
    ml_b1 (fX11_trunkOf l0 l3 m) fun r2007 =>
    ml_b1 (fX11_has r2005 r2007 m) fun r2009 =>
    if r2009 = 0 then
    fX11_strange_63 (fX11_strange_7 fu) l0 l1 l2 l3 (1 : Int32) m
    else
    fX11_strange_62 (fX11_strange_7 fu) l0 l1 l2 l3 m
    else
    fX11_strange_62 (fX11_strange_7 fu) l0 l1 l2 l3 m
    else none
theorem vX11_strange_7 {E : ml_E} (hL : ml_eL E = 5) {rv : Int32} {rm : ml_M} (hr : ∀ (pc pc' : Nat) (lv : List (Nat × ml_X)), ml_d cX11_strange pc .ireturn 1 pc' → True → ml_V E "LostRoomModel" cX11_strange 5 false rm pc lv [ml_i rv]) : ∀ (fu : Nat) (l0 : Nat) (l1 : Int32) (l2 : Int32) (l3 : Int32) (m : ml_M), fX11_strange_7 fu l0 l1 l2 l3 m = some (rv, rm) → ml_V E "LostRoomModel" cX11_strange 5 false m 7 [(0, ml_r l0), (1, ml_i l1), (2, ml_i l2), (3, ml_i l3)] [] := by
  intro fu
  induction fu with
  | zero => intro l0 l1 l2 l3 m h; exact ml_none h
  | succ fu ih =>
    intro l0 l1 l2 l3 m h
    have hk7 := ih
    unfold fX11_strange_7 at h
    exact ml_iload_n dX11_strange_7 3 rfl <| ml_aload_n dX11_strange_8 0 rfl <| ml_ck_of h fun hc1997 h => ml_getI dX11_strange_9 wb_228 hc1997 <| ml_icmp_ge dX11_strange_12 h (fun _ h => ml_V.sub [0, 1, 2] rfl (vX11_strange_99 hL hr  _ _ _ _ h)) (fun _ h => ml_aload_n dX11_strange_15 0 rfl <| ml_iload_n dX11_strange_16 3 rfl <| ml_b1_of h fun r1999 hv1998 h => ml_callV dX11_strange_17 wm_420 wb_276 hc1997 (sX11_kind hv1998) rfl (Nat.le_of_ble_eq_true rfl) (Nat.le_of_ble_eq_true rfl) rfl <| ml_iconst dX11_strange_20 kc_i5 <| ml_icmp_ne dX11_strange_21 h (fun _ h => ml_V.sub [0, 1, 2, 3] rfl (vX11_strange_62 hL hr hk7 _ _ _ _ _ h)) (fun _ h => ml_aload_n dX11_strange_24 0 rfl <| ml_iload_n dX11_strange_25 3 rfl <| ml_b1_of h fun r2001 hv2000 h => ml_callV dX11_strange_26 wm_325 wb_229 hc1997 (sX11_trunkOf hv2000) rfl (Nat.le_of_ble_eq_true rfl) (Nat.le_of_ble_eq_true rfl) rfl <| ml_bipush dX11_strange_29 kc_bm9 <| ml_icmp_eq dX11_strange_31 h (fun _ h => ml_V.sub [0, 1, 2, 3] rfl (vX11_strange_62 hL hr hk7 _ _ _ _ _ h)) (fun _ h => ml_aload_n dX11_strange_34 0 rfl <| ml_iload_n dX11_strange_35 3 rfl <| ml_b1_of h fun r2003 hv2002 h => ml_callV dX11_strange_36 wm_486 wb_298 hc1997 (sX11_opensOf hv2002) rfl (Nat.le_of_ble_eq_true rfl) (Nat.le_of_ble_eq_true rfl) rfl <| ml_if_eq dX11_strange_39 h (fun _ h => ml_V.sub [0, 1, 2, 3] rfl (vX11_strange_62 hL hr hk7 _ _ _ _ _ h)) (fun _ h => ml_aload_n dX11_strange_42 0 rfl <| ml_iload_n dX11_strange_43 3 rfl <| ml_b1_of h fun r2005 hv2004 h => ml_callV dX11_strange_44 wm_486 wb_298 hc1997 (sX11_opensOf hv2004) rfl (Nat.le_of_ble_eq_true rfl) (Nat.le_of_ble_eq_true rfl) rfl <| ml_aload_n dX11_strange_47 0 rfl <| ml_iload_n dX11_strange_48 3 rfl <| ml_b1_of h fun r2007 hv2006 h => ml_callV dX11_strange_49 wm_325 wb_229 hc1997 (sX11_trunkOf hv2006) rfl (Nat.le_of_ble_eq_true rfl) (Nat.le_of_ble_eq_true rfl) rfl <| ml_b1_of h fun r2009 hv2008 h => ml_callS dX11_strange_52 wm_492 wb_300 (sX11_has hv2008) rfl (Nat.le_of_ble_eq_true rfl) (Nat.le_of_ble_eq_true rfl) rfl <| ml_if_ne dX11_strange_55 h (fun _ h => ml_V.sub [0, 1, 2, 3] rfl (vX11_strange_62 hL hr hk7 _ _ _ _ _ h)) (fun _ h => ml_iconst dX11_strange_58 kc_i1 <| ml_goto dX11_strange_59 <| ml_V.sub [0, 1, 2, 3] rfl (vX11_strange_63 hL hr hk7 _ _ _ _ _ _ h))))))
def fX11_strange (l0 : Nat) (m : ml_M) : Option (Int32 × ml_M) :=
    fX11_strange_7 ml_fu l0 (0 : Int32) (-9 : Int32) (0 : Int32) m
theorem wX11_strange_0 {E : ml_E} (hL : ml_eL E = 5) {rv : Int32} {rm : ml_M} (hr : ∀ (pc pc' : Nat) (lv : List (Nat × ml_X)), ml_d cX11_strange pc .ireturn 1 pc' → True → ml_V E "LostRoomModel" cX11_strange 5 false rm pc lv [ml_i rv]) : ∀ (l0 : Nat) (m : ml_M), fX11_strange l0 m = some (rv, rm) → ml_V E "LostRoomModel" cX11_strange 5 false m 0 [(0, ml_r l0)] [] := by
  intro l0 m h
  unfold fX11_strange at h
  exact ml_iconst dX11_strange_0 kc_i0 <| ml_istore_n (lv' := [(1, ml_i (0 : Int32)), (0, ml_r l0)]) dX11_strange_1 (ml_hn hL rfl) rfl <| ml_bipush dX11_strange_2 kc_bm9 <| ml_istore_n (lv' := [(2, ml_i (-9 : Int32)), (1, ml_i (0 : Int32)), (0, ml_r l0)]) dX11_strange_4 (ml_hn hL rfl) rfl <| ml_iconst dX11_strange_5 kc_i0 <| ml_istore_n (lv' := [(3, ml_i (0 : Int32)), (2, ml_i (-9 : Int32)), (1, ml_i (0 : Int32)), (0, ml_r l0)]) dX11_strange_6 (ml_hn hL rfl) rfl <| ml_V.sub [3, 2, 1, 0] rfl (vX11_strange_7 hL hr  ml_fu _ _ _ _ _ h)
theorem sX11_strange {l0 : Nat} {m : ml_M} {rv : Int32} {rm : ml_M} (h : fX11_strange l0 m = some (rv, rm)) : ml_Sn yX11_strange cX11_strange 5 (some .int) 5 [ml_r l0] m (some (ml_i rv)) rm :=
  ml_Sn_of (P := True) (ini := false) (by decide +kernel) (Nat.le_of_ble_eq_true rfl) (fun h => by cases h) (fun _ => ml_RkI rv) fun E hL hr => wX11_strange_0 hL hr _ _ h
theorem dX10_water_0 : ml_d cX10_water 0 (.iconst 0) 1 1 := ⟨by decide +kernel, rfl⟩
theorem dX10_water_1 : ml_d cX10_water 1 (.istore_n 1) 1 2 := ⟨by decide +kernel, rfl⟩
theorem dX10_water_2 : ml_d cX10_water 2 (.bipush 10) 2 4 := ⟨by decide +kernel, rfl⟩
theorem dX10_water_4 : ml_d cX10_water 4 (.istore_n 2) 1 5 := ⟨by decide +kernel, rfl⟩
theorem dX10_water_5 : ml_d cX10_water 5 (.iconst 0) 1 6 := ⟨by decide +kernel, rfl⟩
theorem dX10_water_6 : ml_d cX10_water 6 (.istore_n 3) 1 7 := ⟨by decide +kernel, rfl⟩
theorem dX10_water_7 : ml_d cX10_water 7 (.iload_n 3) 1 8 := ⟨by decide +kernel, rfl⟩
theorem dX10_water_8 : ml_d cX10_water 8 (.aload_n 0) 1 9 := ⟨by decide +kernel, rfl⟩
theorem dX10_water_9 : ml_d cX10_water 9 (.getfield 118) 3 12 := ⟨by decide +kernel, rfl⟩
theorem dX10_water_12 : ml_j cX10_water 12 (.if_icmp .ge) 89 15 := ⟨77, by decide +kernel, by decide, rfl⟩
theorem dX10_water_15 : ml_d cX10_water 15 (.aload_n 0) 1 16 := ⟨by decide +kernel, rfl⟩
theorem dX10_water_16 : ml_d cX10_water 16 (.getfield 36) 3 19 := ⟨by decide +kernel, rfl⟩
theorem dX10_water_19 : ml_d cX10_water 19 (.iload_n 3) 1 20 := ⟨by decide +kernel, rfl⟩
theorem dX10_water_20 : ml_d cX10_water 20 (.aaload) 1 21 := ⟨by decide +kernel, rfl⟩
theorem dX10_water_21 : ml_d cX10_water 21 (.astore 4) 2 23 := ⟨by decide +kernel, rfl⟩
theorem dX10_water_23 : ml_d cX10_water 23 (.aload_n 0) 1 24 := ⟨by decide +kernel, rfl⟩
theorem dX10_water_24 : ml_d cX10_water 24 (.aload 4) 2 26 := ⟨by decide +kernel, rfl⟩
theorem dX10_water_26 : ml_d cX10_water 26 (.getfield 175) 3 29 := ⟨by decide +kernel, rfl⟩
theorem dX10_water_29 : ml_d cX10_water 29 (.invokevirtual 148) 3 32 := ⟨by decide +kernel, rfl⟩
theorem dX10_water_32 : ml_j cX10_water 32 (.ifCond .ne) 38 35 := ⟨6, by decide +kernel, by decide, rfl⟩
theorem dX10_water_35 : ml_j cX10_water 35 .goto 83 38 := ⟨48, by decide +kernel, by decide, rfl⟩
theorem dX10_water_38 : ml_d cX10_water 38 (.aload_n 0) 1 39 := ⟨by decide +kernel, rfl⟩
theorem dX10_water_39 : ml_d cX10_water 39 (.getfield 26) 3 42 := ⟨by decide +kernel, rfl⟩
theorem dX10_water_42 : ml_d cX10_water 42 (.getfield 219) 3 45 := ⟨by decide +kernel, rfl⟩
theorem dX10_water_45 : ml_d cX10_water 45 (.aload 4) 2 47 := ⟨by decide +kernel, rfl⟩
theorem dX10_water_47 : ml_d cX10_water 47 (.getfield 175) 3 50 := ⟨by decide +kernel, rfl⟩
theorem dX10_water_50 : ml_d cX10_water 50 (.aaload) 1 51 := ⟨by decide +kernel, rfl⟩
theorem dX10_water_51 : ml_d cX10_water 51 (.getfield 223) 3 54 := ⟨by decide +kernel, rfl⟩
theorem dX10_water_54 : ml_d cX10_water 54 (.istore 5) 2 56 := ⟨by decide +kernel, rfl⟩
theorem dX10_water_56 : ml_d cX10_water 56 (.aload 4) 2 58 := ⟨by decide +kernel, rfl⟩
theorem dX10_water_58 : ml_d cX10_water 58 (.getfield 178) 3 61 := ⟨by decide +kernel, rfl⟩
theorem dX10_water_61 : ml_j cX10_water 61 (.ifCond .eq) 76 64 := ⟨15, by decide +kernel, by decide, rfl⟩
theorem dX10_water_64 : ml_d cX10_water 64 (.iload_n 1) 1 65 := ⟨by decide +kernel, rfl⟩
theorem dX10_water_65 : ml_d cX10_water 65 (.iload 5) 2 67 := ⟨by decide +kernel, rfl⟩
theorem dX10_water_67 : ml_d cX10_water 67 (.iconst 1) 1 68 := ⟨by decide +kernel, rfl⟩
theorem dX10_water_68 : ml_d cX10_water 68 (.iadd) 1 69 := ⟨by decide +kernel, rfl⟩
theorem dX10_water_69 : ml_d cX10_water 69 (.invokestatic 228) 3 72 := ⟨by decide +kernel, rfl⟩
theorem dX10_water_72 : ml_d cX10_water 72 (.istore_n 1) 1 73 := ⟨by decide +kernel, rfl⟩
theorem dX10_water_73 : ml_j cX10_water 73 .goto 83 76 := ⟨10, by decide +kernel, by decide, rfl⟩
theorem dX10_water_76 : ml_d cX10_water 76 (.iload_n 2) 1 77 := ⟨by decide +kernel, rfl⟩
theorem dX10_water_77 : ml_d cX10_water 77 (.iload 5) 2 79 := ⟨by decide +kernel, rfl⟩
theorem dX10_water_79 : ml_d cX10_water 79 (.invokestatic 233) 3 82 := ⟨by decide +kernel, rfl⟩
theorem dX10_water_82 : ml_d cX10_water 82 (.istore_n 2) 1 83 := ⟨by decide +kernel, rfl⟩
theorem dX10_water_83 : ml_d cX10_water 83 (.iinc 3 1) 3 86 := ⟨by decide +kernel, rfl⟩
theorem dX10_water_86 : ml_j cX10_water 86 .goto 7 89 := ⟨(-79), by decide +kernel, by decide, rfl⟩
theorem dX10_water_89 : ml_d cX10_water 89 (.iload_n 1) 1 90 := ⟨by decide +kernel, rfl⟩
theorem dX10_water_90 : ml_d cX10_water 90 (.iload_n 2) 1 91 := ⟨by decide +kernel, rfl⟩
theorem dX10_water_91 : ml_j cX10_water 91 (.if_icmp .le) 97 94 := ⟨6, by decide +kernel, by decide, rfl⟩
theorem dX10_water_94 : ml_d cX10_water 94 (.bipush (-9)) 2 96 := ⟨by decide +kernel, rfl⟩
theorem dX10_water_96 : ml_d cX10_water 96 (.ireturn) 1 97 := ⟨by decide +kernel, rfl⟩
theorem dX10_water_97 : ml_d cX10_water 97 (.aload_n 0) 1 98 := ⟨by decide +kernel, rfl⟩
theorem dX10_water_98 : ml_d cX10_water 98 (.iload_n 2) 1 99 := ⟨by decide +kernel, rfl⟩
theorem dX10_water_99 : ml_d cX10_water 99 (.putfield 203) 3 102 := ⟨by decide +kernel, rfl⟩
theorem dX10_water_102 : ml_d cX10_water 102 (.iload_n 1) 1 103 := ⟨by decide +kernel, rfl⟩
theorem dX10_water_103 : ml_d cX10_water 103 (.ireturn) 1 104 := ⟨by decide +kernel, rfl⟩
def fX10_water_83 (k7 : Nat → Int32 → Int32 → Int32 → ml_M → Option (Int32 × ml_M)) (l0 : Nat) (l1 : Int32) (l2 : Int32) (l3 : Int32) (m : ml_M) : Option (Int32 × ml_M) :=
    k7 l0 l1 l2 (l3 + (1 : Int32)) m
theorem vX10_water_83 {E : ml_E} (hL : ml_eL E = 6) {rv : Int32} {rm : ml_M} (hr : ∀ (pc pc' : Nat) (lv : List (Nat × ml_X)), ml_d cX10_water pc .ireturn 1 pc' → True → ml_V E "LostRoom" cX10_water 4 false rm pc lv [ml_i rv]) {k7 : Nat → Int32 → Int32 → Int32 → ml_M → Option (Int32 × ml_M)} (hk7 : ∀ (l0 : Nat) (l1 : Int32) (l2 : Int32) (l3 : Int32) (m : ml_M), k7 l0 l1 l2 l3 m = some (rv, rm) → ml_V E "LostRoom" cX10_water 4 false m 7 [(0, ml_r l0), (1, ml_i l1), (2, ml_i l2), (3, ml_i l3)] []) : ∀ (l0 : Nat) (l1 : Int32) (l2 : Int32) (l3 : Int32) (m : ml_M), fX10_water_83 k7 l0 l1 l2 l3 m = some (rv, rm) → ml_V E "LostRoom" cX10_water 4 false m 83 [(0, ml_r l0), (1, ml_i l1), (2, ml_i l2), (3, ml_i l3)] [] := by
  intro l0 l1 l2 l3 m h
  unfold fX10_water_83 at h
  exact ml_iinc (lv' := [(3, ml_i (l3 + (1 : Int32))), (0, ml_r l0), (1, ml_i l1), (2, ml_i l2)]) dX10_water_83 3 rfl (congrArg (l3 + ·) kc_i1) (ml_hn hL rfl) rfl <| ml_goto dX10_water_86 <| ml_V.sub [1, 2, 3, 0] rfl (hk7 _ _ _ _ _ h)
def fX10_water_89 (l0 : Nat) (l1 : Int32) (l2 : Int32) (m : ml_M) : Option (Int32 × ml_M) :=
    if l1 ≤ l2 then
    if (ml_K m l0).1 = 10 then
    ml_let (ml_sI m l0 15 l2) fun m2011 =>
    some (l1, m2011)
    else none
    else
    some ((-9 : Int32), m)
theorem vX10_water_89 {E : ml_E} (hL : ml_eL E = 6) {rv : Int32} {rm : ml_M} (hr : ∀ (pc pc' : Nat) (lv : List (Nat × ml_X)), ml_d cX10_water pc .ireturn 1 pc' → True → ml_V E "LostRoom" cX10_water 4 false rm pc lv [ml_i rv]) : ∀ (l0 : Nat) (l1 : Int32) (l2 : Int32) (m : ml_M), fX10_water_89 l0 l1 l2 m = some (rv, rm) → ml_V E "LostRoom" cX10_water 4 false m 89 [(0, ml_r l0), (1, ml_i l1), (2, ml_i l2)] [] := by
  intro l0 l1 l2 m h
  unfold fX10_water_89 at h
  exact ml_iload_n dX10_water_89 1 rfl <| ml_iload_n dX10_water_90 2 rfl <| ml_icmp_le dX10_water_91 h (fun _ h => ml_aload_n dX10_water_97 0 rfl <| ml_iload_n dX10_water_98 2 rfl <| ml_ck_of h fun hc2010 h => ml_putI dX10_water_99 wb_106 hc2010 <| ml_lt (m := m) rfl h fun m2011 em2012 h => ml_iload_n dX10_water_102 1 rfl <| ml_rI (mk := ml_i) hr dX10_water_103 (fun _ => trivial) h) (fun _ h => ml_bipush dX10_water_94 kc_bm9 <| ml_rI (mk := ml_i) hr dX10_water_96 (fun _ => trivial) h)
def fX10_water_7 : Nat → Nat → Int32 → Int32 → Int32 → ml_M → Option (Int32 × ml_M)
  | 0, _, _, _, _, _ => none
  | fu + 1, l0, l1, l2, l3, m =>
    if (ml_K m l0).1 = 10 then
    if (ml_I m l0 5) ≤ l3 then
    fX10_water_89 l0 l1 l2 m
    else
    ml_let (ml_R m l0 4) fun a2014 =>
    if ml_in m a2014 29 l3 then
    ml_let (ml_R m a2014 l3.toNatClampNeg) fun a2016 =>
    if (ml_K m a2016).1 = 8 then
    ml_b1 (fX10_isTrunk l0 (ml_I m a2016 6) m) fun r2019 =>
    if r2019 = 0 then
    fX10_water_83 (fX10_water_7 fu) l0 l1 l2 l3 m
    else
    ml_let (ml_R m l0 2) fun a2020 =>
    if (ml_K m a2020).1 = 1 then
    ml_let (ml_R m a2020 1) fun a2022 =>
    if ml_in m a2022 30 (ml_I m a2016 6) then
    ml_let (ml_R m a2022 (ml_I m a2016 6).toNatClampNeg) fun a2024 =>
    if (ml_K m a2024).1 = 9 then
    ml_let (ml_I m a2024 1) fun x2026 =>
    if (ml_I m a2016 7) = 0 then
    ml_let (if x2026 < l2 then x2026 else l2) fun x2027 =>
    fX10_water_83 (fX10_water_7 fu) l0 l1 x2027 l3 m
    else
    ml_let (if l1 < (x2026 + (1 : Int32)) then (x2026 + (1 : Int32)) else l1) fun x2028 =>
    fX10_water_83 (fX10_water_7 fu) l0 x2028 l2 l3 m
    else none
    else none
    else none
    else none
    else none
    else none
theorem vX10_water_7 {E : ml_E} (hL : ml_eL E = 6) {rv : Int32} {rm : ml_M} (hr : ∀ (pc pc' : Nat) (lv : List (Nat × ml_X)), ml_d cX10_water pc .ireturn 1 pc' → True → ml_V E "LostRoom" cX10_water 4 false rm pc lv [ml_i rv]) : ∀ (fu : Nat) (l0 : Nat) (l1 : Int32) (l2 : Int32) (l3 : Int32) (m : ml_M), fX10_water_7 fu l0 l1 l2 l3 m = some (rv, rm) → ml_V E "LostRoom" cX10_water 4 false m 7 [(0, ml_r l0), (1, ml_i l1), (2, ml_i l2), (3, ml_i l3)] [] := by
  intro fu
  induction fu with
  | zero => intro l0 l1 l2 l3 m h; exact ml_none h
  | succ fu ih =>
    intro l0 l1 l2 l3 m h
    have hk7 := ih
    unfold fX10_water_7 at h
    exact ml_iload_n dX10_water_7 3 rfl <| ml_aload_n dX10_water_8 0 rfl <| ml_ck_of h fun hc2013 h => ml_getI dX10_water_9 wb_217 hc2013 <| ml_icmp_ge dX10_water_12 h (fun _ h => ml_V.sub [0, 1, 2] rfl (vX10_water_89 hL hr  _ _ _ _ h)) (fun _ h => ml_aload_n dX10_water_15 0 rfl <| ml_getR dX10_water_16 wb_218 hc2013 <| ml_lx (mk := ml_r) h fun a2014 h => ml_iload_n dX10_water_19 3 rfl <| ml_ck_of h fun hi2015 h => ml_aald (kd := 29) dX10_water_20 (by decide) hi2015 <| ml_lx (mk := ml_r) h fun a2016 h => ml_astore (lv' := [(4, ml_r a2016), (0, ml_r l0), (1, ml_i l1), (2, ml_i l2), (3, ml_i l3)]) dX10_water_21 (ml_hn hL rfl) rfl <| ml_aload_n dX10_water_23 1 rfl <| ml_aload dX10_water_24 0 rfl <| ml_ck_of h fun hc2017 h => ml_getI dX10_water_26 wb_219 hc2017 <| ml_b1_of h fun r2019 hv2018 h => ml_callV dX10_water_29 wm_317 wb_225 hc2013 (sX10_isTrunk hv2018) rfl (Nat.le_of_ble_eq_true rfl) (Nat.le_of_ble_eq_true rfl) rfl <| ml_if_ne dX10_water_32 h (fun _ h => ml_aload_n dX10_water_38 1 rfl <| ml_getR dX10_water_39 wb_189 hc2013 <| ml_lx (mk := ml_r) h fun a2020 h => ml_ck_of h fun hc2021 h => ml_getR dX10_water_42 wb_220 hc2021 <| ml_lx (mk := ml_r) h fun a2022 h => ml_aload dX10_water_45 0 rfl <| ml_getI dX10_water_47 wb_219 hc2017 <| ml_ck_of h fun hi2023 h => ml_aald (kd := 30) dX10_water_50 (by decide) hi2023 <| ml_lx (mk := ml_r) h fun a2024 h => ml_ck_of h fun hc2025 h => ml_getI dX10_water_51 wb_222 hc2025 <| ml_lx (mk := ml_i) h fun x2026 h => ml_istore (lv' := [(5, ml_i x2026), (4, ml_r a2016), (0, ml_r l0), (1, ml_i l1), (2, ml_i l2), (3, ml_i l3)]) dX10_water_54 (ml_hn hL rfl) rfl <| ml_aload dX10_water_56 1 rfl <| ml_getI dX10_water_58 wb_271 hc2017 <| ml_if_eq dX10_water_61 h (fun _ h => ml_iload_n dX10_water_76 4 rfl <| ml_iload dX10_water_77 0 rfl <| ml_mmin dX10_water_79 wb_301 (Nat.le_of_ble_eq_true rfl) (Nat.le_of_ble_eq_true rfl) <| ml_lx (mk := ml_i) h fun x2027 h => ml_istore_n (lv' := [(2, ml_i x2027), (5, ml_i x2026), (4, ml_r a2016), (0, ml_r l0), (1, ml_i l1), (3, ml_i l3)]) dX10_water_82 (ml_hn hL rfl) rfl <| ml_V.sub [3, 4, 0, 5] rfl (vX10_water_83 hL hr hk7 _ _ _ _ _ h)) (fun _ h => ml_iload_n dX10_water_64 3 rfl <| ml_iload dX10_water_65 0 rfl <| ml_iconst dX10_water_67 kc_i1 <| ml_iadd dX10_water_68 <| ml_mmax dX10_water_69 wb_302 (Nat.le_of_ble_eq_true rfl) (Nat.le_of_ble_eq_true rfl) <| ml_lx (mk := ml_i) h fun x2028 h => ml_istore_n (lv' := [(1, ml_i x2028), (5, ml_i x2026), (4, ml_r a2016), (0, ml_r l0), (2, ml_i l2), (3, ml_i l3)]) dX10_water_72 (ml_hn hL rfl) rfl <| ml_goto dX10_water_73 <| ml_V.sub [3, 0, 4, 5] rfl (vX10_water_83 hL hr hk7 _ _ _ _ _ h))) (fun _ h => ml_goto dX10_water_35 <| ml_V.sub [1, 2, 3, 4] rfl (vX10_water_83 hL hr hk7 _ _ _ _ _ h)))
def fX10_water (l0 : Nat) (m : ml_M) : Option (Int32 × ml_M) :=
    fX10_water_7 ml_fu l0 (0 : Int32) (10 : Int32) (0 : Int32) m
theorem wX10_water_0 {E : ml_E} (hL : ml_eL E = 6) {rv : Int32} {rm : ml_M} (hr : ∀ (pc pc' : Nat) (lv : List (Nat × ml_X)), ml_d cX10_water pc .ireturn 1 pc' → True → ml_V E "LostRoom" cX10_water 4 false rm pc lv [ml_i rv]) : ∀ (l0 : Nat) (m : ml_M), fX10_water l0 m = some (rv, rm) → ml_V E "LostRoom" cX10_water 4 false m 0 [(0, ml_r l0)] [] := by
  intro l0 m h
  unfold fX10_water at h
  exact ml_iconst dX10_water_0 kc_i0 <| ml_istore_n (lv' := [(1, ml_i (0 : Int32)), (0, ml_r l0)]) dX10_water_1 (ml_hn hL rfl) rfl <| ml_bipush dX10_water_2 kc_b10 <| ml_istore_n (lv' := [(2, ml_i (10 : Int32)), (1, ml_i (0 : Int32)), (0, ml_r l0)]) dX10_water_4 (ml_hn hL rfl) rfl <| ml_iconst dX10_water_5 kc_i0 <| ml_istore_n (lv' := [(3, ml_i (0 : Int32)), (2, ml_i (10 : Int32)), (1, ml_i (0 : Int32)), (0, ml_r l0)]) dX10_water_6 (ml_hn hL rfl) rfl <| ml_V.sub [3, 2, 1, 0] rfl (vX10_water_7 hL hr  ml_fu _ _ _ _ _ h)
theorem sX10_water {l0 : Nat} {m : ml_M} {rv : Int32} {rm : ml_M} (h : fX10_water l0 m = some (rv, rm)) : ml_Sn yX10_water cX10_water 6 (some .int) 4 [ml_r l0] m (some (ml_i rv)) rm :=
  ml_Sn_of (P := True) (ini := false) (by decide +kernel) (Nat.le_of_ble_eq_true rfl) (fun h => by cases h) (fun _ => ml_RkI rv) fun E hL hr => wX10_water_0 hL hr _ _ h
theorem dX11_isWet_0 : ml_d cX11_isWet 0 (.aload_n 0) 1 1 := ⟨by decide +kernel, rfl⟩
theorem dX11_isWet_1 : ml_d cX11_isWet 1 (.getfield 47) 3 4 := ⟨by decide +kernel, rfl⟩
theorem dX11_isWet_4 : ml_d cX11_isWet 4 (.bipush 7) 2 6 := ⟨by decide +kernel, rfl⟩
theorem dX11_isWet_6 : ml_d cX11_isWet 6 (.iload_n 1) 1 7 := ⟨by decide +kernel, rfl⟩
theorem dX11_isWet_7 : ml_d cX11_isWet 7 (.imul) 1 8 := ⟨by decide +kernel, rfl⟩
theorem dX11_isWet_8 : ml_d cX11_isWet 8 (.iconst 4) 1 9 := ⟨by decide +kernel, rfl⟩
theorem dX11_isWet_9 : ml_d cX11_isWet 9 (.iadd) 1 10 := ⟨by decide +kernel, rfl⟩
theorem dX11_isWet_10 : ml_d cX11_isWet 10 (.iaload) 1 11 := ⟨by decide +kernel, rfl⟩
theorem dX11_isWet_11 : ml_d cX11_isWet 11 (.iconst 1) 1 12 := ⟨by decide +kernel, rfl⟩
theorem dX11_isWet_12 : ml_j cX11_isWet 12 (.if_icmp .ne) 19 15 := ⟨7, by decide +kernel, by decide, rfl⟩
theorem dX11_isWet_15 : ml_d cX11_isWet 15 (.iconst 1) 1 16 := ⟨by decide +kernel, rfl⟩
theorem dX11_isWet_16 : ml_j cX11_isWet 16 .goto 20 19 := ⟨4, by decide +kernel, by decide, rfl⟩
theorem dX11_isWet_19 : ml_d cX11_isWet 19 (.iconst 0) 1 20 := ⟨by decide +kernel, rfl⟩
theorem dX11_isWet_20 : ml_d cX11_isWet 20 (.ireturn) 1 21 := ⟨by decide +kernel, rfl⟩
def fX11_isWet (l0 : Nat) (l1 : Int32) (m : ml_M) : Option Int32 :=
    if (ml_K m l0).1 = 11 then
    ml_let (ml_R m l0 25) fun a2030 =>
    if ml_in m a2030 20 (((7 : Int32) * l1) + (4 : Int32)) then
    if (ml_I m a2030 (((7 : Int32) * l1) + (4 : Int32)).toNatClampNeg) = (1 : Int32) then
    some (1 : Int32)
    else
    some (0 : Int32)
    else none
    else none
theorem wX11_isWet_0 {E : ml_E} (hL : ml_eL E = 2) {rv : Int32} {m : ml_M} (hr : ∀ (pc pc' : Nat) (lv : List (Nat × ml_X)), ml_d cX11_isWet pc .ireturn 1 pc' → (rv = 0 ∨ rv = 1) → ml_V E "LostRoomModel" cX11_isWet 2 false m pc lv [ml_i rv]) : ∀ (l0 : Nat) (l1 : Int32), fX11_isWet l0 l1 m = some rv → ml_V E "LostRoomModel" cX11_isWet 2 false m 0 [(0, ml_r l0), (1, ml_i l1)] [] := by
  intro l0 l1 h
  unfold fX11_isWet at h
  exact ml_aload_n dX11_isWet_0 0 rfl <| ml_ck_of h fun hc2029 h => ml_getR dX11_isWet_1 wb_227 hc2029 <| ml_lx (mk := ml_r) h fun a2030 h => ml_bipush dX11_isWet_4 kc_b7 <| ml_iload_n dX11_isWet_6 1 rfl <| ml_imul dX11_isWet_7 <| ml_iconst dX11_isWet_8 kc_i4 <| ml_iadd dX11_isWet_9 <| ml_ck_of h fun hi2031 h => ml_iald dX11_isWet_10 hi2031 <| ml_iconst dX11_isWet_11 kc_i1 <| ml_icmp_ne dX11_isWet_12 h (fun _ h => ml_iconst dX11_isWet_19 kc_i0 <| ml_rp (mk := ml_i) hr dX11_isWet_20 (fun e => Or.inl e.symm) h) (fun _ h => ml_iconst dX11_isWet_15 kc_i1 <| ml_goto dX11_isWet_16 <| ml_rp (mk := ml_i) hr dX11_isWet_20 (fun e => Or.inr e.symm) h)
theorem sX11_isWet {l0 : Nat} {l1 : Int32} {m : ml_M} {rv : Int32} (h : fX11_isWet l0 l1 m = some rv) : ml_Sn yX11_isWet cX11_isWet 2 (some .boolean) 2 [ml_r l0, ml_i l1] m (some (ml_i rv)) m :=
  ml_Sn_of (P := (rv = 0 ∨ rv = 1)) (ini := false) (by decide +kernel) (Nat.le_of_ble_eq_true rfl) (fun h => by cases h) (fun hz => ml_RkZ rv hz) fun E hL hr => wX11_isWet_0 hL hr _ _ h
theorem dX11_fitsWater_0 : ml_d cX11_fitsWater 0 (.iconst 1) 1 1 := ⟨by decide +kernel, rfl⟩
theorem dX11_fitsWater_1 : ml_d cX11_fitsWater 1 (.istore_n 2) 1 2 := ⟨by decide +kernel, rfl⟩
theorem dX11_fitsWater_2 : ml_d cX11_fitsWater 2 (.iconst 0) 1 3 := ⟨by decide +kernel, rfl⟩
theorem dX11_fitsWater_3 : ml_d cX11_fitsWater 3 (.istore_n 3) 1 4 := ⟨by decide +kernel, rfl⟩
theorem dX11_fitsWater_4 : ml_d cX11_fitsWater 4 (.iload_n 3) 1 5 := ⟨by decide +kernel, rfl⟩
theorem dX11_fitsWater_5 : ml_d cX11_fitsWater 5 (.aload_n 0) 1 6 := ⟨by decide +kernel, rfl⟩
theorem dX11_fitsWater_6 : ml_d cX11_fitsWater 6 (.getfield 181) 3 9 := ⟨by decide +kernel, rfl⟩
theorem dX11_fitsWater_9 : ml_j cX11_fitsWater 9 (.if_icmp .ge) 70 12 := ⟨61, by decide +kernel, by decide, rfl⟩
theorem dX11_fitsWater_12 : ml_d cX11_fitsWater 12 (.aload_n 0) 1 13 := ⟨by decide +kernel, rfl⟩
theorem dX11_fitsWater_13 : ml_d cX11_fitsWater 13 (.iload_n 3) 1 14 := ⟨by decide +kernel, rfl⟩
theorem dX11_fitsWater_14 : ml_d cX11_fitsWater 14 (.invokevirtual 205) 3 17 := ⟨by decide +kernel, rfl⟩
theorem dX11_fitsWater_17 : ml_d cX11_fitsWater 17 (.istore 4) 2 19 := ⟨by decide +kernel, rfl⟩
theorem dX11_fitsWater_19 : ml_d cX11_fitsWater 19 (.iload_n 2) 1 20 := ⟨by decide +kernel, rfl⟩
theorem dX11_fitsWater_20 : ml_j cX11_fitsWater 20 (.ifCond .eq) 62 23 := ⟨42, by decide +kernel, by decide, rfl⟩
theorem dX11_fitsWater_23 : ml_d cX11_fitsWater 23 (.iload 4) 2 25 := ⟨by decide +kernel, rfl⟩
theorem dX11_fitsWater_25 : ml_d cX11_fitsWater 25 (.bipush (-9)) 2 27 := ⟨by decide +kernel, rfl⟩
theorem dX11_fitsWater_27 : ml_j cX11_fitsWater 27 (.if_icmp .eq) 58 30 := ⟨31, by decide +kernel, by decide, rfl⟩
theorem dX11_fitsWater_30 : ml_d cX11_fitsWater 30 (.aload_n 0) 1 31 := ⟨by decide +kernel, rfl⟩
theorem dX11_fitsWater_31 : ml_d cX11_fitsWater 31 (.iload_n 3) 1 32 := ⟨by decide +kernel, rfl⟩
theorem dX11_fitsWater_32 : ml_d cX11_fitsWater 32 (.invokevirtual 263) 3 35 := ⟨by decide +kernel, rfl⟩
theorem dX11_fitsWater_35 : ml_d cX11_fitsWater 35 (.aload_n 0) 1 36 := ⟨by decide +kernel, rfl⟩
theorem dX11_fitsWater_36 : ml_d cX11_fitsWater 36 (.getfield 32) 3 39 := ⟨by decide +kernel, rfl⟩
theorem dX11_fitsWater_39 : ml_d cX11_fitsWater 39 (.iconst 2) 1 40 := ⟨by decide +kernel, rfl⟩
theorem dX11_fitsWater_40 : ml_d cX11_fitsWater 40 (.iload 4) 2 42 := ⟨by decide +kernel, rfl⟩
theorem dX11_fitsWater_42 : ml_d cX11_fitsWater 42 (.imul) 1 43 := ⟨by decide +kernel, rfl⟩
theorem dX11_fitsWater_43 : ml_d cX11_fitsWater 43 (.iconst 1) 1 44 := ⟨by decide +kernel, rfl⟩
theorem dX11_fitsWater_44 : ml_d cX11_fitsWater 44 (.iadd) 1 45 := ⟨by decide +kernel, rfl⟩
theorem dX11_fitsWater_45 : ml_d cX11_fitsWater 45 (.iaload) 1 46 := ⟨by decide +kernel, rfl⟩
theorem dX11_fitsWater_46 : ml_d cX11_fitsWater 46 (.iload_n 1) 1 47 := ⟨by decide +kernel, rfl⟩
theorem dX11_fitsWater_47 : ml_j cX11_fitsWater 47 (.if_icmp .ge) 54 50 := ⟨7, by decide +kernel, by decide, rfl⟩
theorem dX11_fitsWater_50 : ml_d cX11_fitsWater 50 (.iconst 1) 1 51 := ⟨by decide +kernel, rfl⟩
theorem dX11_fitsWater_51 : ml_j cX11_fitsWater 51 .goto 55 54 := ⟨4, by decide +kernel, by decide, rfl⟩
theorem dX11_fitsWater_54 : ml_d cX11_fitsWater 54 (.iconst 0) 1 55 := ⟨by decide +kernel, rfl⟩
theorem dX11_fitsWater_55 : ml_j cX11_fitsWater 55 (.if_icmp .ne) 62 58 := ⟨7, by decide +kernel, by decide, rfl⟩
theorem dX11_fitsWater_58 : ml_d cX11_fitsWater 58 (.iconst 1) 1 59 := ⟨by decide +kernel, rfl⟩
theorem dX11_fitsWater_59 : ml_j cX11_fitsWater 59 .goto 63 62 := ⟨4, by decide +kernel, by decide, rfl⟩
theorem dX11_fitsWater_62 : ml_d cX11_fitsWater 62 (.iconst 0) 1 63 := ⟨by decide +kernel, rfl⟩
theorem dX11_fitsWater_63 : ml_d cX11_fitsWater 63 (.istore_n 2) 1 64 := ⟨by decide +kernel, rfl⟩
theorem dX11_fitsWater_64 : ml_d cX11_fitsWater 64 (.iinc 3 1) 3 67 := ⟨by decide +kernel, rfl⟩
theorem dX11_fitsWater_67 : ml_j cX11_fitsWater 67 .goto 4 70 := ⟨(-63), by decide +kernel, by decide, rfl⟩
theorem dX11_fitsWater_70 : ml_d cX11_fitsWater 70 (.iload_n 2) 1 71 := ⟨by decide +kernel, rfl⟩
theorem dX11_fitsWater_71 : ml_d cX11_fitsWater 71 (.ireturn) 1 72 := ⟨by decide +kernel, rfl⟩
def fX11_fitsWater_63 (k4 : Nat → Int32 → Int32 → Int32 → ml_M → Option Int32) (l0 : Nat) (l1 : Int32) (l3 : Int32) (t0 : Int32) (m : ml_M) : Option Int32 :=
    k4 l0 l1 t0 (l3 + (1 : Int32)) m
theorem vX11_fitsWater_63 {E : ml_E} (hL : ml_eL E = 5) {rv : Int32} {m : ml_M} (hr : ∀ (pc pc' : Nat) (lv : List (Nat × ml_X)), ml_d cX11_fitsWater pc .ireturn 1 pc' → (rv = 0 ∨ rv = 1) → ml_V E "LostRoomModel" cX11_fitsWater 3 false m pc lv [ml_i rv]) {k4 : Nat → Int32 → Int32 → Int32 → ml_M → Option Int32} (hk4 : ∀ (l0 : Nat) (l1 : Int32) (l2 : Int32) (l3 : Int32), k4 l0 l1 l2 l3 m = some rv → ml_V E "LostRoomModel" cX11_fitsWater 3 false m 4 [(0, ml_r l0), (1, ml_i l1), (2, ml_i l2), (3, ml_i l3)] []) : ∀ (l0 : Nat) (l1 : Int32) (l3 : Int32) (t0 : Int32), fX11_fitsWater_63 k4 l0 l1 l3 t0 m = some rv → ml_V E "LostRoomModel" cX11_fitsWater 3 false m 63 [(0, ml_r l0), (1, ml_i l1), (3, ml_i l3)] [ml_i t0] := by
  intro l0 l1 l3 t0 h
  unfold fX11_fitsWater_63 at h
  exact ml_istore_n (lv' := [(2, ml_i t0), (0, ml_r l0), (1, ml_i l1), (3, ml_i l3)]) dX11_fitsWater_63 (ml_hn hL rfl) rfl <| ml_iinc (lv' := [(3, ml_i (l3 + (1 : Int32))), (2, ml_i t0), (0, ml_r l0), (1, ml_i l1)]) dX11_fitsWater_64 3 rfl (congrArg (l3 + ·) kc_i1) (ml_hn hL rfl) rfl <| ml_goto dX11_fitsWater_67 <| ml_V.sub [2, 3, 1, 0] rfl (hk4 _ _ _ _ h)
def fX11_fitsWater_58 (k4 : Nat → Int32 → Int32 → Int32 → ml_M → Option Int32) (l0 : Nat) (l1 : Int32) (l3 : Int32) (m : ml_M) : Option Int32 :=
    fX11_fitsWater_63 k4 l0 l1 l3 (1 : Int32) m
theorem vX11_fitsWater_58 {E : ml_E} (hL : ml_eL E = 5) {rv : Int32} {m : ml_M} (hr : ∀ (pc pc' : Nat) (lv : List (Nat × ml_X)), ml_d cX11_fitsWater pc .ireturn 1 pc' → (rv = 0 ∨ rv = 1) → ml_V E "LostRoomModel" cX11_fitsWater 3 false m pc lv [ml_i rv]) {k4 : Nat → Int32 → Int32 → Int32 → ml_M → Option Int32} (hk4 : ∀ (l0 : Nat) (l1 : Int32) (l2 : Int32) (l3 : Int32), k4 l0 l1 l2 l3 m = some rv → ml_V E "LostRoomModel" cX11_fitsWater 3 false m 4 [(0, ml_r l0), (1, ml_i l1), (2, ml_i l2), (3, ml_i l3)] []) : ∀ (l0 : Nat) (l1 : Int32) (l3 : Int32), fX11_fitsWater_58 k4 l0 l1 l3 m = some rv → ml_V E "LostRoomModel" cX11_fitsWater 3 false m 58 [(0, ml_r l0), (1, ml_i l1), (3, ml_i l3)] [] := by
  intro l0 l1 l3 h
  unfold fX11_fitsWater_58 at h
  exact ml_iconst dX11_fitsWater_58 kc_i1 <| ml_goto dX11_fitsWater_59 <| ml_V.sub [0, 1, 2] rfl (vX11_fitsWater_63 hL hr hk4 _ _ _ _ h)
def fX11_fitsWater_62 (k4 : Nat → Int32 → Int32 → Int32 → ml_M → Option Int32) (l0 : Nat) (l1 : Int32) (l3 : Int32) (m : ml_M) : Option Int32 :=
    fX11_fitsWater_63 k4 l0 l1 l3 (0 : Int32) m
theorem vX11_fitsWater_62 {E : ml_E} (hL : ml_eL E = 5) {rv : Int32} {m : ml_M} (hr : ∀ (pc pc' : Nat) (lv : List (Nat × ml_X)), ml_d cX11_fitsWater pc .ireturn 1 pc' → (rv = 0 ∨ rv = 1) → ml_V E "LostRoomModel" cX11_fitsWater 3 false m pc lv [ml_i rv]) {k4 : Nat → Int32 → Int32 → Int32 → ml_M → Option Int32} (hk4 : ∀ (l0 : Nat) (l1 : Int32) (l2 : Int32) (l3 : Int32), k4 l0 l1 l2 l3 m = some rv → ml_V E "LostRoomModel" cX11_fitsWater 3 false m 4 [(0, ml_r l0), (1, ml_i l1), (2, ml_i l2), (3, ml_i l3)] []) : ∀ (l0 : Nat) (l1 : Int32) (l3 : Int32), fX11_fitsWater_62 k4 l0 l1 l3 m = some rv → ml_V E "LostRoomModel" cX11_fitsWater 3 false m 62 [(0, ml_r l0), (1, ml_i l1), (3, ml_i l3)] [] := by
  intro l0 l1 l3 h
  unfold fX11_fitsWater_62 at h
  exact ml_iconst dX11_fitsWater_62 kc_i0 <| ml_V.sub [0, 1, 2] rfl (vX11_fitsWater_63 hL hr hk4 _ _ _ _ h)
def fX11_fitsWater_55 (k4 : Nat → Int32 → Int32 → Int32 → ml_M → Option Int32) (l0 : Nat) (l1 : Int32) (l3 : Int32) (t0 : Int32) (t1 : Int32) (m : ml_M) : Option Int32 :=
    if t1 = t0 then
    fX11_fitsWater_58 k4 l0 l1 l3 m
    else
    fX11_fitsWater_62 k4 l0 l1 l3 m
theorem vX11_fitsWater_55 {E : ml_E} (hL : ml_eL E = 5) {rv : Int32} {m : ml_M} (hr : ∀ (pc pc' : Nat) (lv : List (Nat × ml_X)), ml_d cX11_fitsWater pc .ireturn 1 pc' → (rv = 0 ∨ rv = 1) → ml_V E "LostRoomModel" cX11_fitsWater 3 false m pc lv [ml_i rv]) {k4 : Nat → Int32 → Int32 → Int32 → ml_M → Option Int32} (hk4 : ∀ (l0 : Nat) (l1 : Int32) (l2 : Int32) (l3 : Int32), k4 l0 l1 l2 l3 m = some rv → ml_V E "LostRoomModel" cX11_fitsWater 3 false m 4 [(0, ml_r l0), (1, ml_i l1), (2, ml_i l2), (3, ml_i l3)] []) : ∀ (l0 : Nat) (l1 : Int32) (l3 : Int32) (t0 : Int32) (t1 : Int32), fX11_fitsWater_55 k4 l0 l1 l3 t0 t1 m = some rv → ml_V E "LostRoomModel" cX11_fitsWater 3 false m 55 [(0, ml_r l0), (1, ml_i l1), (3, ml_i l3)] [ml_i t0, ml_i t1] := by
  intro l0 l1 l3 t0 t1 h
  unfold fX11_fitsWater_55 at h
  exact ml_icmp_ne dX11_fitsWater_55 h (fun _ h => ml_V.sub [0, 1, 2] rfl (vX11_fitsWater_62 hL hr hk4 _ _ _ h)) (fun _ h => ml_V.sub [0, 1, 2] rfl (vX11_fitsWater_58 hL hr hk4 _ _ _ h))
def fX11_fitsWater_4 : Nat → Nat → Int32 → Int32 → Int32 → ml_M → Option Int32
  | 0, _, _, _, _, _ => none
  | fu + 1, l0, l1, l2, l3, m =>
    if (ml_K m l0).1 = 11 then
    if (ml_I m l0 24) ≤ l3 then
    if l2 = 0 ∨ l2 = 1 then some l2 else none
    else
    ml_b1 (fX11_trunkOf l0 l3 m) fun r2035 =>
    if l2 = 0 then
    fX11_fitsWater_62 (fX11_fitsWater_4 fu) l0 l1 l3 m
    else
    if r2035 = (-9 : Int32) then
    fX11_fitsWater_58 (fX11_fitsWater_4 fu) l0 l1 l3 m
    else
    ml_b1 (fX11_isWet l0 l3 m) fun r2037 =>
    ml_let (ml_R m l0 13) fun a2038 =>
    if ml_in m a2038 20 (((2 : Int32) * r2035) + (1 : Int32)) then
    if l1 ≤ (ml_I m a2038 (((2 : Int32) * r2035) + (1 : Int32)).toNatClampNeg) then
    fX11_fitsWater_55 (fX11_fitsWater_4 fu) l0 l1 l3 (0 : Int32) r2037 m
    else
    fX11_fitsWater_55 (fX11_fitsWater_4 fu) l0 l1 l3 (1 : Int32) r2037 m
    else none
    else none
theorem vX11_fitsWater_4 {E : ml_E} (hL : ml_eL E = 5) {rv : Int32} {m : ml_M} (hr : ∀ (pc pc' : Nat) (lv : List (Nat × ml_X)), ml_d cX11_fitsWater pc .ireturn 1 pc' → (rv = 0 ∨ rv = 1) → ml_V E "LostRoomModel" cX11_fitsWater 3 false m pc lv [ml_i rv]) : ∀ (fu : Nat) (l0 : Nat) (l1 : Int32) (l2 : Int32) (l3 : Int32), fX11_fitsWater_4 fu l0 l1 l2 l3 m = some rv → ml_V E "LostRoomModel" cX11_fitsWater 3 false m 4 [(0, ml_r l0), (1, ml_i l1), (2, ml_i l2), (3, ml_i l3)] [] := by
  intro fu
  induction fu with
  | zero => intro l0 l1 l2 l3 h; exact ml_none h
  | succ fu ih =>
    intro l0 l1 l2 l3 h
    have hk4 := ih
    unfold fX11_fitsWater_4 at h
    exact ml_iload_n dX11_fitsWater_4 3 rfl <| ml_aload_n dX11_fitsWater_5 0 rfl <| ml_ck_of h fun hc2032 h => ml_getI dX11_fitsWater_6 wb_228 hc2032 <| ml_icmp_ge dX11_fitsWater_9 h (fun _ h => ml_iload_n dX11_fitsWater_70 2 rfl <| ml_ck_of h fun hz2033 h => ml_rp (mk := ml_i) hr dX11_fitsWater_71 (fun e => e ▸ hz2033) h) (fun _ h => ml_aload_n dX11_fitsWater_12 0 rfl <| ml_iload_n dX11_fitsWater_13 3 rfl <| ml_b1_of h fun r2035 hv2034 h => ml_callV dX11_fitsWater_14 wm_325 wb_229 hc2032 (sX11_trunkOf hv2034) rfl (Nat.le_of_ble_eq_true rfl) (Nat.le_of_ble_eq_true rfl) rfl <| ml_istore (lv' := [(4, ml_i r2035), (0, ml_r l0), (1, ml_i l1), (2, ml_i l2), (3, ml_i l3)]) dX11_fitsWater_17 (ml_hn hL rfl) rfl <| ml_iload_n dX11_fitsWater_19 3 rfl <| ml_if_eq dX11_fitsWater_20 h (fun _ h => ml_V.sub [1, 2, 4] rfl (vX11_fitsWater_62 hL hr hk4 _ _ _ h)) (fun _ h => ml_iload dX11_fitsWater_23 0 rfl <| ml_bipush dX11_fitsWater_25 kc_bm9 <| ml_icmp_eq dX11_fitsWater_27 h (fun _ h => ml_V.sub [1, 2, 4] rfl (vX11_fitsWater_58 hL hr hk4 _ _ _ h)) (fun _ h => ml_aload_n dX11_fitsWater_30 1 rfl <| ml_iload_n dX11_fitsWater_31 4 rfl <| ml_b1_of h fun r2037 hv2036 h => ml_callV dX11_fitsWater_32 wm_500 wb_303 hc2032 (sX11_isWet hv2036) rfl (Nat.le_of_ble_eq_true rfl) (Nat.le_of_ble_eq_true rfl) rfl <| ml_aload_n dX11_fitsWater_35 1 rfl <| ml_getR dX11_fitsWater_36 wb_198 hc2032 <| ml_lx (mk := ml_r) h fun a2038 h => ml_iconst dX11_fitsWater_39 kc_i2 <| ml_iload dX11_fitsWater_40 0 rfl <| ml_imul dX11_fitsWater_42 <| ml_iconst dX11_fitsWater_43 kc_i1 <| ml_iadd dX11_fitsWater_44 <| ml_ck_of h fun hi2039 h => ml_iald dX11_fitsWater_45 hi2039 <| ml_iload_n dX11_fitsWater_46 2 rfl <| ml_icmp_ge dX11_fitsWater_47 h (fun _ h => ml_iconst dX11_fitsWater_54 kc_i0 <| ml_V.sub [1, 2, 4] rfl (vX11_fitsWater_55 hL hr hk4 _ _ _ _ _ h)) (fun _ h => ml_iconst dX11_fitsWater_50 kc_i1 <| ml_goto dX11_fitsWater_51 <| ml_V.sub [1, 2, 4] rfl (vX11_fitsWater_55 hL hr hk4 _ _ _ _ _ h)))))
def fX11_fitsWater (l0 : Nat) (l1 : Int32) (m : ml_M) : Option Int32 :=
    fX11_fitsWater_4 ml_fu l0 l1 (1 : Int32) (0 : Int32) m
theorem wX11_fitsWater_0 {E : ml_E} (hL : ml_eL E = 5) {rv : Int32} {m : ml_M} (hr : ∀ (pc pc' : Nat) (lv : List (Nat × ml_X)), ml_d cX11_fitsWater pc .ireturn 1 pc' → (rv = 0 ∨ rv = 1) → ml_V E "LostRoomModel" cX11_fitsWater 3 false m pc lv [ml_i rv]) : ∀ (l0 : Nat) (l1 : Int32), fX11_fitsWater l0 l1 m = some rv → ml_V E "LostRoomModel" cX11_fitsWater 3 false m 0 [(0, ml_r l0), (1, ml_i l1)] [] := by
  intro l0 l1 h
  unfold fX11_fitsWater at h
  exact ml_iconst dX11_fitsWater_0 kc_i1 <| ml_istore_n (lv' := [(2, ml_i (1 : Int32)), (0, ml_r l0), (1, ml_i l1)]) dX11_fitsWater_1 (ml_hn hL rfl) rfl <| ml_iconst dX11_fitsWater_2 kc_i0 <| ml_istore_n (lv' := [(3, ml_i (0 : Int32)), (2, ml_i (1 : Int32)), (0, ml_r l0), (1, ml_i l1)]) dX11_fitsWater_3 (ml_hn hL rfl) rfl <| ml_V.sub [2, 3, 1, 0] rfl (vX11_fitsWater_4 hL hr  ml_fu _ _ _ _ h)
theorem sX11_fitsWater {l0 : Nat} {l1 : Int32} {m : ml_M} {rv : Int32} (h : fX11_fitsWater l0 l1 m = some rv) : ml_Sn yX11_fitsWater cX11_fitsWater 5 (some .boolean) 3 [ml_r l0, ml_i l1] m (some (ml_i rv)) m :=
  ml_Sn_of (P := (rv = 0 ∨ rv = 1)) (ini := false) (by decide +kernel) (Nat.le_of_ble_eq_true rfl) (fun h => by cases h) (fun hz => ml_RkZ rv hz) fun E hL hr => wX11_fitsWater_0 hL hr _ _ h
theorem dX11_water_0 : ml_d cX11_water 0 (.bipush (-9)) 2 2 := ⟨by decide +kernel, rfl⟩
theorem dX11_water_2 : ml_d cX11_water 2 (.istore_n 1) 1 3 := ⟨by decide +kernel, rfl⟩
theorem dX11_water_3 : ml_d cX11_water 3 (.bipush (-9)) 2 5 := ⟨by decide +kernel, rfl⟩
theorem dX11_water_5 : ml_d cX11_water 5 (.istore_n 2) 1 6 := ⟨by decide +kernel, rfl⟩
theorem dX11_water_6 : ml_d cX11_water 6 (.iconst 0) 1 7 := ⟨by decide +kernel, rfl⟩
theorem dX11_water_7 : ml_d cX11_water 7 (.istore_n 3) 1 8 := ⟨by decide +kernel, rfl⟩
theorem dX11_water_8 : ml_d cX11_water 8 (.iload_n 3) 1 9 := ⟨by decide +kernel, rfl⟩
theorem dX11_water_9 : ml_d cX11_water 9 (.bipush 10) 2 11 := ⟨by decide +kernel, rfl⟩
theorem dX11_water_11 : ml_j cX11_water 11 (.if_icmp .gt) 42 14 := ⟨31, by decide +kernel, by decide, rfl⟩
theorem dX11_water_14 : ml_d cX11_water 14 (.aload_n 0) 1 15 := ⟨by decide +kernel, rfl⟩
theorem dX11_water_15 : ml_d cX11_water 15 (.iload_n 3) 1 16 := ⟨by decide +kernel, rfl⟩
theorem dX11_water_16 : ml_d cX11_water 16 (.invokevirtual 266) 3 19 := ⟨by decide +kernel, rfl⟩
theorem dX11_water_19 : ml_j cX11_water 19 (.ifCond .eq) 36 22 := ⟨17, by decide +kernel, by decide, rfl⟩
theorem dX11_water_22 : ml_d cX11_water 22 (.iload_n 1) 1 23 := ⟨by decide +kernel, rfl⟩
theorem dX11_water_23 : ml_d cX11_water 23 (.bipush (-9)) 2 25 := ⟨by decide +kernel, rfl⟩
theorem dX11_water_25 : ml_j cX11_water 25 (.if_icmp .ne) 32 28 := ⟨7, by decide +kernel, by decide, rfl⟩
theorem dX11_water_28 : ml_d cX11_water 28 (.iload_n 3) 1 29 := ⟨by decide +kernel, rfl⟩
theorem dX11_water_29 : ml_j cX11_water 29 .goto 33 32 := ⟨4, by decide +kernel, by decide, rfl⟩
theorem dX11_water_32 : ml_d cX11_water 32 (.iload_n 1) 1 33 := ⟨by decide +kernel, rfl⟩
theorem dX11_water_33 : ml_d cX11_water 33 (.istore_n 1) 1 34 := ⟨by decide +kernel, rfl⟩
theorem dX11_water_34 : ml_d cX11_water 34 (.iload_n 3) 1 35 := ⟨by decide +kernel, rfl⟩
theorem dX11_water_35 : ml_d cX11_water 35 (.istore_n 2) 1 36 := ⟨by decide +kernel, rfl⟩
theorem dX11_water_36 : ml_d cX11_water 36 (.iinc 3 1) 3 39 := ⟨by decide +kernel, rfl⟩
theorem dX11_water_39 : ml_j cX11_water 39 .goto 8 42 := ⟨(-31), by decide +kernel, by decide, rfl⟩
theorem dX11_water_42 : ml_d cX11_water 42 (.iload_n 1) 1 43 := ⟨by decide +kernel, rfl⟩
theorem dX11_water_43 : ml_d cX11_water 43 (.bipush (-9)) 2 45 := ⟨by decide +kernel, rfl⟩
theorem dX11_water_45 : ml_j cX11_water 45 (.if_icmp .ne) 53 48 := ⟨8, by decide +kernel, by decide, rfl⟩
theorem dX11_water_48 : ml_d cX11_water 48 (.bipush (-9)) 2 50 := ⟨by decide +kernel, rfl⟩
theorem dX11_water_50 : ml_j cX11_water 50 .goto 59 53 := ⟨9, by decide +kernel, by decide, rfl⟩
theorem dX11_water_53 : ml_d cX11_water 53 (.aload_n 0) 1 54 := ⟨by decide +kernel, rfl⟩
theorem dX11_water_54 : ml_d cX11_water 54 (.iload_n 2) 1 55 := ⟨by decide +kernel, rfl⟩
theorem dX11_water_55 : ml_d cX11_water 55 (.iload_n 1) 1 56 := ⟨by decide +kernel, rfl⟩
theorem dX11_water_56 : ml_d cX11_water 56 (.invokevirtual 123) 3 59 := ⟨by decide +kernel, rfl⟩
theorem dX11_water_59 : ml_d cX11_water 59 (.ireturn) 1 60 := ⟨by decide +kernel, rfl⟩
def fX11_water_36 (k8 : Nat → Int32 → Int32 → Int32 → ml_M → Option (Int32 × ml_M)) (l0 : Nat) (l1 : Int32) (l2 : Int32) (l3 : Int32) (m : ml_M) : Option (Int32 × ml_M) :=
    k8 l0 l1 l2 (l3 + (1 : Int32)) m
theorem vX11_water_36 {E : ml_E} (hL : ml_eL E = 4) {rv : Int32} {rm : ml_M} (hr : ∀ (pc pc' : Nat) (lv : List (Nat × ml_X)), ml_d cX11_water pc .ireturn 1 pc' → True → ml_V E "LostRoomModel" cX11_water 4 false rm pc lv [ml_i rv]) {k8 : Nat → Int32 → Int32 → Int32 → ml_M → Option (Int32 × ml_M)} (hk8 : ∀ (l0 : Nat) (l1 : Int32) (l2 : Int32) (l3 : Int32) (m : ml_M), k8 l0 l1 l2 l3 m = some (rv, rm) → ml_V E "LostRoomModel" cX11_water 4 false m 8 [(0, ml_r l0), (1, ml_i l1), (2, ml_i l2), (3, ml_i l3)] []) : ∀ (l0 : Nat) (l1 : Int32) (l2 : Int32) (l3 : Int32) (m : ml_M), fX11_water_36 k8 l0 l1 l2 l3 m = some (rv, rm) → ml_V E "LostRoomModel" cX11_water 4 false m 36 [(0, ml_r l0), (1, ml_i l1), (2, ml_i l2), (3, ml_i l3)] [] := by
  intro l0 l1 l2 l3 m h
  unfold fX11_water_36 at h
  exact ml_iinc (lv' := [(3, ml_i (l3 + (1 : Int32))), (0, ml_r l0), (1, ml_i l1), (2, ml_i l2)]) dX11_water_36 3 rfl (congrArg (l3 + ·) kc_i1) (ml_hn hL rfl) rfl <| ml_goto dX11_water_39 <| ml_V.sub [1, 2, 3, 0] rfl (hk8 _ _ _ _ _ h)
def fX11_water_33 (k8 : Nat → Int32 → Int32 → Int32 → ml_M → Option (Int32 × ml_M)) (l0 : Nat) (l3 : Int32) (t0 : Int32) (m : ml_M) : Option (Int32 × ml_M) :=
    fX11_water_36 k8 l0 t0 l3 l3 m
theorem vX11_water_33 {E : ml_E} (hL : ml_eL E = 4) {rv : Int32} {rm : ml_M} (hr : ∀ (pc pc' : Nat) (lv : List (Nat × ml_X)), ml_d cX11_water pc .ireturn 1 pc' → True → ml_V E "LostRoomModel" cX11_water 4 false rm pc lv [ml_i rv]) {k8 : Nat → Int32 → Int32 → Int32 → ml_M → Option (Int32 × ml_M)} (hk8 : ∀ (l0 : Nat) (l1 : Int32) (l2 : Int32) (l3 : Int32) (m : ml_M), k8 l0 l1 l2 l3 m = some (rv, rm) → ml_V E "LostRoomModel" cX11_water 4 false m 8 [(0, ml_r l0), (1, ml_i l1), (2, ml_i l2), (3, ml_i l3)] []) : ∀ (l0 : Nat) (l3 : Int32) (t0 : Int32) (m : ml_M), fX11_water_33 k8 l0 l3 t0 m = some (rv, rm) → ml_V E "LostRoomModel" cX11_water 4 false m 33 [(0, ml_r l0), (3, ml_i l3)] [ml_i t0] := by
  intro l0 l3 t0 m h
  unfold fX11_water_33 at h
  exact ml_istore_n (lv' := [(1, ml_i t0), (0, ml_r l0), (3, ml_i l3)]) dX11_water_33 (ml_hn hL rfl) rfl <| ml_iload_n dX11_water_34 2 rfl <| ml_istore_n (lv' := [(2, ml_i l3), (1, ml_i t0), (0, ml_r l0), (3, ml_i l3)]) dX11_water_35 (ml_hn hL rfl) rfl <| ml_V.sub [2, 1, 0, 3] rfl (vX11_water_36 hL hr hk8 _ _ _ _ _ h)
def fX11_water_42 (l0 : Nat) (l1 : Int32) (l2 : Int32) (m : ml_M) : Option (Int32 × ml_M) :=
    if l1 = (-9 : Int32) then
    some ((-9 : Int32), m)
    else
    if (ml_K m l0).1 = 11 then
    ml_b2 (fX11_tells l0 l2 l1 m) fun r2042 m2043 =>
    some (r2042, m2043)
    else none
theorem vX11_water_42 {E : ml_E} (hL : ml_eL E = 4) {rv : Int32} {rm : ml_M} (hr : ∀ (pc pc' : Nat) (lv : List (Nat × ml_X)), ml_d cX11_water pc .ireturn 1 pc' → True → ml_V E "LostRoomModel" cX11_water 4 false rm pc lv [ml_i rv]) : ∀ (l0 : Nat) (l1 : Int32) (l2 : Int32) (m : ml_M), fX11_water_42 l0 l1 l2 m = some (rv, rm) → ml_V E "LostRoomModel" cX11_water 4 false m 42 [(0, ml_r l0), (1, ml_i l1), (2, ml_i l2)] [] := by
  intro l0 l1 l2 m h
  unfold fX11_water_42 at h
  exact ml_iload_n dX11_water_42 1 rfl <| ml_bipush dX11_water_43 kc_bm9 <| ml_icmp_ne dX11_water_45 h (fun _ h => ml_aload_n dX11_water_53 0 rfl <| ml_iload_n dX11_water_54 2 rfl <| ml_iload_n dX11_water_55 1 rfl <| ml_ck_of h fun hc2041 h => ml_b2_of h fun r2042 m2043 hv2040 h => ml_callV dX11_water_56 wm_158 wb_110 hc2041 (sX11_tells hv2040) rfl (Nat.le_of_ble_eq_true rfl) (Nat.le_of_ble_eq_true rfl) rfl <| ml_rI (mk := ml_i) hr dX11_water_59 (fun _ => trivial) h) (fun _ h => ml_bipush dX11_water_48 kc_bm9 <| ml_goto dX11_water_50 <| ml_rI (mk := ml_i) hr dX11_water_59 (fun _ => trivial) h)
def fX11_water_8 : Nat → Nat → Int32 → Int32 → Int32 → ml_M → Option (Int32 × ml_M)
  | 0, _, _, _, _, _ => none
  | fu + 1, l0, l1, l2, l3, m =>
    if (10 : Int32) < l3 then
    fX11_water_42 l0 l1 l2 m
    else
    if (ml_K m l0).1 = 11 then
    ml_b1 (fX11_fitsWater l0 l3 m) fun r2046 =>
    if r2046 = 0 then
    fX11_water_36 (fX11_water_8 fu) l0 l1 l2 l3 m
    else
    if l1 = (-9 : Int32) then
    fX11_water_33 (fX11_water_8 fu) l0 l3 l3 m
    else
    fX11_water_33 (fX11_water_8 fu) l0 l3 l1 m
    else none
theorem vX11_water_8 {E : ml_E} (hL : ml_eL E = 4) {rv : Int32} {rm : ml_M} (hr : ∀ (pc pc' : Nat) (lv : List (Nat × ml_X)), ml_d cX11_water pc .ireturn 1 pc' → True → ml_V E "LostRoomModel" cX11_water 4 false rm pc lv [ml_i rv]) : ∀ (fu : Nat) (l0 : Nat) (l1 : Int32) (l2 : Int32) (l3 : Int32) (m : ml_M), fX11_water_8 fu l0 l1 l2 l3 m = some (rv, rm) → ml_V E "LostRoomModel" cX11_water 4 false m 8 [(0, ml_r l0), (1, ml_i l1), (2, ml_i l2), (3, ml_i l3)] [] := by
  intro fu
  induction fu with
  | zero => intro l0 l1 l2 l3 m h; exact ml_none h
  | succ fu ih =>
    intro l0 l1 l2 l3 m h
    have hk8 := ih
    unfold fX11_water_8 at h
    exact ml_iload_n dX11_water_8 3 rfl <| ml_bipush dX11_water_9 kc_b10 <| ml_icmp_gt dX11_water_11 h (fun _ h => ml_V.sub [0, 1, 2] rfl (vX11_water_42 hL hr  _ _ _ _ h)) (fun _ h => ml_aload_n dX11_water_14 0 rfl <| ml_iload_n dX11_water_15 3 rfl <| ml_ck_of h fun hc2045 h => ml_b1_of h fun r2046 hv2044 h => ml_callV dX11_water_16 wm_504 wb_304 hc2045 (sX11_fitsWater hv2044) rfl (Nat.le_of_ble_eq_true rfl) (Nat.le_of_ble_eq_true rfl) rfl <| ml_if_eq dX11_water_19 h (fun _ h => ml_V.sub [0, 1, 2, 3] rfl (vX11_water_36 hL hr hk8 _ _ _ _ _ h)) (fun _ h => ml_iload_n dX11_water_22 1 rfl <| ml_bipush dX11_water_23 kc_bm9 <| ml_icmp_ne dX11_water_25 h (fun _ h => ml_iload_n dX11_water_32 1 rfl <| ml_V.sub [0, 3] rfl (vX11_water_33 hL hr hk8 _ _ _ _ h)) (fun _ h => ml_iload_n dX11_water_28 3 rfl <| ml_goto dX11_water_29 <| ml_V.sub [0, 3] rfl (vX11_water_33 hL hr hk8 _ _ _ _ h))))
def fX11_water (l0 : Nat) (m : ml_M) : Option (Int32 × ml_M) :=
    fX11_water_8 ml_fu l0 (-9 : Int32) (-9 : Int32) (0 : Int32) m
theorem wX11_water_0 {E : ml_E} (hL : ml_eL E = 4) {rv : Int32} {rm : ml_M} (hr : ∀ (pc pc' : Nat) (lv : List (Nat × ml_X)), ml_d cX11_water pc .ireturn 1 pc' → True → ml_V E "LostRoomModel" cX11_water 4 false rm pc lv [ml_i rv]) : ∀ (l0 : Nat) (m : ml_M), fX11_water l0 m = some (rv, rm) → ml_V E "LostRoomModel" cX11_water 4 false m 0 [(0, ml_r l0)] [] := by
  intro l0 m h
  unfold fX11_water at h
  exact ml_bipush dX11_water_0 kc_bm9 <| ml_istore_n (lv' := [(1, ml_i (-9 : Int32)), (0, ml_r l0)]) dX11_water_2 (ml_hn hL rfl) rfl <| ml_bipush dX11_water_3 kc_bm9 <| ml_istore_n (lv' := [(2, ml_i (-9 : Int32)), (1, ml_i (-9 : Int32)), (0, ml_r l0)]) dX11_water_5 (ml_hn hL rfl) rfl <| ml_iconst dX11_water_6 kc_i0 <| ml_istore_n (lv' := [(3, ml_i (0 : Int32)), (2, ml_i (-9 : Int32)), (1, ml_i (-9 : Int32)), (0, ml_r l0)]) dX11_water_7 (ml_hn hL rfl) rfl <| ml_V.sub [3, 2, 1, 0] rfl (vX11_water_8 hL hr  ml_fu _ _ _ _ _ h)
theorem sX11_water {l0 : Nat} {m : ml_M} {rv : Int32} {rm : ml_M} (h : fX11_water l0 m = some (rv, rm)) : ml_Sn yX11_water cX11_water 4 (some .int) 4 [ml_r l0] m (some (ml_i rv)) rm :=
  ml_Sn_of (P := True) (ini := false) (by decide +kernel) (Nat.le_of_ble_eq_true rfl) (fun h => by cases h) (fun _ => ml_RkI rv) fun E hL hr => wX11_water_0 hL hr _ _ h
theorem dX10_canFollow_0 : ml_d cX10_canFollow 0 (.iload_n 1) 1 1 := ⟨by decide +kernel, rfl⟩
theorem dX10_canFollow_1 : ml_d cX10_canFollow 1 (.iload_n 2) 1 2 := ⟨by decide +kernel, rfl⟩
theorem dX10_canFollow_2 : ml_d cX10_canFollow 2 (.invokestatic 216) 3 5 := ⟨by decide +kernel, rfl⟩
theorem dX10_canFollow_5 : ml_j cX10_canFollow 5 (.ifCond .ne) 31 8 := ⟨26, by decide +kernel, by decide, rfl⟩
theorem dX10_canFollow_8 : ml_d cX10_canFollow 8 (.aload_n 0) 1 9 := ⟨by decide +kernel, rfl⟩
theorem dX10_canFollow_9 : ml_d cX10_canFollow 9 (.getfield 26) 3 12 := ⟨by decide +kernel, rfl⟩
theorem dX10_canFollow_12 : ml_d cX10_canFollow 12 (.getfield 219) 3 15 := ⟨by decide +kernel, rfl⟩
theorem dX10_canFollow_15 : ml_d cX10_canFollow 15 (.iload_n 2) 1 16 := ⟨by decide +kernel, rfl⟩
theorem dX10_canFollow_16 : ml_d cX10_canFollow 16 (.aaload) 1 17 := ⟨by decide +kernel, rfl⟩
theorem dX10_canFollow_17 : ml_d cX10_canFollow 17 (.getfield 408) 3 20 := ⟨by decide +kernel, rfl⟩
theorem dX10_canFollow_20 : ml_d cX10_canFollow 20 (.iload_n 1) 1 21 := ⟨by decide +kernel, rfl⟩
theorem dX10_canFollow_21 : ml_d cX10_canFollow 21 (.iconst (-1)) 1 22 := ⟨by decide +kernel, rfl⟩
theorem dX10_canFollow_22 : ml_d cX10_canFollow 22 (.ixor) 1 23 := ⟨by decide +kernel, rfl⟩
theorem dX10_canFollow_23 : ml_d cX10_canFollow 23 (.iand) 1 24 := ⟨by decide +kernel, rfl⟩
theorem dX10_canFollow_24 : ml_j cX10_canFollow 24 (.ifCond .ne) 31 27 := ⟨7, by decide +kernel, by decide, rfl⟩
theorem dX10_canFollow_27 : ml_d cX10_canFollow 27 (.iconst 1) 1 28 := ⟨by decide +kernel, rfl⟩
theorem dX10_canFollow_28 : ml_j cX10_canFollow 28 .goto 32 31 := ⟨4, by decide +kernel, by decide, rfl⟩
theorem dX10_canFollow_31 : ml_d cX10_canFollow 31 (.iconst 0) 1 32 := ⟨by decide +kernel, rfl⟩
theorem dX10_canFollow_32 : ml_d cX10_canFollow 32 (.ireturn) 1 33 := ⟨by decide +kernel, rfl⟩
def fX10_canFollow (l0 : Nat) (l1 : Int32) (l2 : Int32) (m : ml_M) : Option Int32 :=
    ml_b1 (fX10_has l1 l2 m) fun r2048 =>
    if r2048 = 0 then
    if (ml_K m l0).1 = 10 then
    ml_let (ml_R m l0 2) fun a2050 =>
    if (ml_K m a2050).1 = 1 then
    ml_let (ml_R m a2050 1) fun a2052 =>
    if ml_in m a2052 30 l2 then
    ml_let (ml_R m a2052 l2.toNatClampNeg) fun a2054 =>
    if (ml_K m a2054).1 = 9 then
    if ((ml_I m a2054 3) &&& (l1 ^^^ (-1 : Int32))) = 0 then
    some (1 : Int32)
    else
    some (0 : Int32)
    else none
    else none
    else none
    else none
    else
    some (0 : Int32)
theorem wX10_canFollow_0 {E : ml_E} (hL : ml_eL E = 3) {rv : Int32} {m : ml_M} (hr : ∀ (pc pc' : Nat) (lv : List (Nat × ml_X)), ml_d cX10_canFollow pc .ireturn 1 pc' → (rv = 0 ∨ rv = 1) → ml_V E "LostRoom" cX10_canFollow 3 false m pc lv [ml_i rv]) : ∀ (l0 : Nat) (l1 : Int32) (l2 : Int32), fX10_canFollow l0 l1 l2 m = some rv → ml_V E "LostRoom" cX10_canFollow 3 false m 0 [(0, ml_r l0), (1, ml_i l1), (2, ml_i l2)] [] := by
  intro l0 l1 l2 h
  unfold fX10_canFollow at h
  exact ml_iload_n dX10_canFollow_0 1 rfl <| ml_iload_n dX10_canFollow_1 2 rfl <| ml_b1_of h fun r2048 hv2047 h => ml_callS dX10_canFollow_2 wm_489 wb_299 (sX10_has hv2047) rfl (Nat.le_of_ble_eq_true rfl) (Nat.le_of_ble_eq_true rfl) rfl <| ml_if_ne dX10_canFollow_5 h (fun _ h => ml_iconst dX10_canFollow_31 kc_i0 <| ml_rp (mk := ml_i) hr dX10_canFollow_32 (fun e => Or.inl e.symm) h) (fun _ h => ml_aload_n dX10_canFollow_8 0 rfl <| ml_ck_of h fun hc2049 h => ml_getR dX10_canFollow_9 wb_189 hc2049 <| ml_lx (mk := ml_r) h fun a2050 h => ml_ck_of h fun hc2051 h => ml_getR dX10_canFollow_12 wb_220 hc2051 <| ml_lx (mk := ml_r) h fun a2052 h => ml_iload_n dX10_canFollow_15 2 rfl <| ml_ck_of h fun hi2053 h => ml_aald (kd := 30) dX10_canFollow_16 (by decide) hi2053 <| ml_lx (mk := ml_r) h fun a2054 h => ml_ck_of h fun hc2055 h => ml_getI dX10_canFollow_17 wb_305 hc2055 <| ml_iload_n dX10_canFollow_20 1 rfl <| ml_iconst dX10_canFollow_21 kc_im1 <| ml_ixor dX10_canFollow_22 <| ml_iand dX10_canFollow_23 <| ml_if_ne dX10_canFollow_24 h (fun _ h => ml_iconst dX10_canFollow_31 kc_i0 <| ml_rp (mk := ml_i) hr dX10_canFollow_32 (fun e => Or.inl e.symm) h) (fun _ h => ml_iconst dX10_canFollow_27 kc_i1 <| ml_goto dX10_canFollow_28 <| ml_rp (mk := ml_i) hr dX10_canFollow_32 (fun e => Or.inr e.symm) h))
theorem sX10_canFollow {l0 : Nat} {l1 : Int32} {l2 : Int32} {m : ml_M} {rv : Int32} (h : fX10_canFollow l0 l1 l2 m = some rv) : ml_Sn yX10_canFollow cX10_canFollow 3 (some .boolean) 3 [ml_r l0, ml_i l1, ml_i l2] m (some (ml_i rv)) m :=
  ml_Sn_of (P := (rv = 0 ∨ rv = 1)) (ini := false) (by decide +kernel) (Nat.le_of_ble_eq_true rfl) (fun h => by cases h) (fun hz => ml_RkZ rv hz) fun E hL hr => wX10_canFollow_0 hL hr _ _ _ h
theorem dX10_firstToFollow_0 : ml_d cX10_firstToFollow 0 (.iconst 0) 1 1 := ⟨by decide +kernel, rfl⟩
theorem dX10_firstToFollow_1 : ml_d cX10_firstToFollow 1 (.istore_n 2) 1 2 := ⟨by decide +kernel, rfl⟩
theorem dX10_firstToFollow_2 : ml_d cX10_firstToFollow 2 (.iload_n 2) 1 3 := ⟨by decide +kernel, rfl⟩
theorem dX10_firstToFollow_3 : ml_d cX10_firstToFollow 3 (.aload_n 0) 1 4 := ⟨by decide +kernel, rfl⟩
theorem dX10_firstToFollow_4 : ml_d cX10_firstToFollow 4 (.getfield 26) 3 7 := ⟨by decide +kernel, rfl⟩
theorem dX10_firstToFollow_7 : ml_d cX10_firstToFollow 7 (.getfield 135) 3 10 := ⟨by decide +kernel, rfl⟩
theorem dX10_firstToFollow_10 : ml_j cX10_firstToFollow 10 (.if_icmp .ge) 30 13 := ⟨20, by decide +kernel, by decide, rfl⟩
theorem dX10_firstToFollow_13 : ml_d cX10_firstToFollow 13 (.aload_n 0) 1 14 := ⟨by decide +kernel, rfl⟩
theorem dX10_firstToFollow_14 : ml_d cX10_firstToFollow 14 (.iload_n 1) 1 15 := ⟨by decide +kernel, rfl⟩
theorem dX10_firstToFollow_15 : ml_d cX10_firstToFollow 15 (.iload_n 2) 1 16 := ⟨by decide +kernel, rfl⟩
theorem dX10_firstToFollow_16 : ml_d cX10_firstToFollow 16 (.invokevirtual 411) 3 19 := ⟨by decide +kernel, rfl⟩
theorem dX10_firstToFollow_19 : ml_j cX10_firstToFollow 19 (.ifCond .eq) 24 22 := ⟨5, by decide +kernel, by decide, rfl⟩
theorem dX10_firstToFollow_22 : ml_d cX10_firstToFollow 22 (.iload_n 2) 1 23 := ⟨by decide +kernel, rfl⟩
theorem dX10_firstToFollow_23 : ml_d cX10_firstToFollow 23 (.ireturn) 1 24 := ⟨by decide +kernel, rfl⟩
theorem dX10_firstToFollow_24 : ml_d cX10_firstToFollow 24 (.iinc 2 1) 3 27 := ⟨by decide +kernel, rfl⟩
theorem dX10_firstToFollow_27 : ml_j cX10_firstToFollow 27 .goto 2 30 := ⟨(-25), by decide +kernel, by decide, rfl⟩
theorem dX10_firstToFollow_30 : ml_d cX10_firstToFollow 30 (.bipush (-9)) 2 32 := ⟨by decide +kernel, rfl⟩
theorem dX10_firstToFollow_32 : ml_d cX10_firstToFollow 32 (.ireturn) 1 33 := ⟨by decide +kernel, rfl⟩
def fX10_firstToFollow_2 : Nat → Nat → Int32 → Int32 → ml_M → Option Int32
  | 0, _, _, _, _ => none
  | fu + 1, l0, l1, l2, m =>
    if (ml_K m l0).1 = 10 then
    ml_let (ml_R m l0 2) fun a2057 =>
    if (ml_K m a2057).1 = 1 then
    if (ml_I m a2057 3) ≤ l2 then
    some (-9 : Int32)
    else
    ml_b1 (fX10_canFollow l0 l1 l2 m) fun r2060 =>
    if r2060 = 0 then
    (fX10_firstToFollow_2 fu) l0 l1 (l2 + (1 : Int32)) m
    else
    some l2
    else none
    else none
theorem vX10_firstToFollow_2 {E : ml_E} (hL : ml_eL E = 3) {rv : Int32} {m : ml_M} (hr : ∀ (pc pc' : Nat) (lv : List (Nat × ml_X)), ml_d cX10_firstToFollow pc .ireturn 1 pc' → True → ml_V E "LostRoom" cX10_firstToFollow 4 false m pc lv [ml_i rv]) : ∀ (fu : Nat) (l0 : Nat) (l1 : Int32) (l2 : Int32), fX10_firstToFollow_2 fu l0 l1 l2 m = some rv → ml_V E "LostRoom" cX10_firstToFollow 4 false m 2 [(0, ml_r l0), (1, ml_i l1), (2, ml_i l2)] [] := by
  intro fu
  induction fu with
  | zero => intro l0 l1 l2 h; exact ml_none h
  | succ fu ih =>
    intro l0 l1 l2 h
    have hk2 := ih
    unfold fX10_firstToFollow_2 at h
    exact ml_iload_n dX10_firstToFollow_2 2 rfl <| ml_aload_n dX10_firstToFollow_3 0 rfl <| ml_ck_of h fun hc2056 h => ml_getR dX10_firstToFollow_4 wb_189 hc2056 <| ml_lx (mk := ml_r) h fun a2057 h => ml_ck_of h fun hc2058 h => ml_getI dX10_firstToFollow_7 wb_190 hc2058 <| ml_icmp_ge dX10_firstToFollow_10 h (fun _ h => ml_bipush dX10_firstToFollow_30 kc_bm9 <| ml_rp (mk := ml_i) hr dX10_firstToFollow_32 (fun _ => trivial) h) (fun _ h => ml_aload_n dX10_firstToFollow_13 0 rfl <| ml_iload_n dX10_firstToFollow_14 1 rfl <| ml_iload_n dX10_firstToFollow_15 2 rfl <| ml_b1_of h fun r2060 hv2059 h => ml_callV dX10_firstToFollow_16 wm_509 wb_306 hc2056 (sX10_canFollow hv2059) rfl (Nat.le_of_ble_eq_true rfl) (Nat.le_of_ble_eq_true rfl) rfl <| ml_if_eq dX10_firstToFollow_19 h (fun _ h => ml_iinc (lv' := [(2, ml_i (l2 + (1 : Int32))), (0, ml_r l0), (1, ml_i l1)]) dX10_firstToFollow_24 2 rfl (congrArg (l2 + ·) kc_i1) (ml_hn hL rfl) rfl <| ml_goto dX10_firstToFollow_27 <| ml_V.sub [1, 2, 0] rfl (hk2 _ _ _ h)) (fun _ h => ml_iload_n dX10_firstToFollow_22 2 rfl <| ml_rp (mk := ml_i) hr dX10_firstToFollow_23 (fun _ => trivial) h))
def fX10_firstToFollow (l0 : Nat) (l1 : Int32) (m : ml_M) : Option Int32 :=
    fX10_firstToFollow_2 ml_fu l0 l1 (0 : Int32) m
theorem wX10_firstToFollow_0 {E : ml_E} (hL : ml_eL E = 3) {rv : Int32} {m : ml_M} (hr : ∀ (pc pc' : Nat) (lv : List (Nat × ml_X)), ml_d cX10_firstToFollow pc .ireturn 1 pc' → True → ml_V E "LostRoom" cX10_firstToFollow 4 false m pc lv [ml_i rv]) : ∀ (l0 : Nat) (l1 : Int32), fX10_firstToFollow l0 l1 m = some rv → ml_V E "LostRoom" cX10_firstToFollow 4 false m 0 [(0, ml_r l0), (1, ml_i l1)] [] := by
  intro l0 l1 h
  unfold fX10_firstToFollow at h
  exact ml_iconst dX10_firstToFollow_0 kc_i0 <| ml_istore_n (lv' := [(2, ml_i (0 : Int32)), (0, ml_r l0), (1, ml_i l1)]) dX10_firstToFollow_1 (ml_hn hL rfl) rfl <| ml_V.sub [1, 2, 0] rfl (vX10_firstToFollow_2 hL hr  ml_fu _ _ _ h)
theorem sX10_firstToFollow {l0 : Nat} {l1 : Int32} {m : ml_M} {rv : Int32} (h : fX10_firstToFollow l0 l1 m = some rv) : ml_Sn yX10_firstToFollow cX10_firstToFollow 3 (some .int) 4 [ml_r l0, ml_i l1] m (some (ml_i rv)) m :=
  ml_Sn_of (P := True) (ini := false) (by decide +kernel) (Nat.le_of_ble_eq_true rfl) (fun h => by cases h) (fun _ => ml_RkI rv) fun E hL hr => wX10_firstToFollow_0 hL hr _ _ h
theorem dX10_ordersOfAll_0 : ml_d cX10_ordersOfAll 0 (.aload_n 0) 1 1 := ⟨by decide +kernel, rfl⟩
theorem dX10_ordersOfAll_1 : ml_d cX10_ordersOfAll 1 (.getfield 26) 3 4 := ⟨by decide +kernel, rfl⟩
theorem dX10_ordersOfAll_4 : ml_d cX10_ordersOfAll 4 (.getfield 135) 3 7 := ⟨by decide +kernel, rfl⟩
theorem dX10_ordersOfAll_7 : ml_d cX10_ordersOfAll 7 (.istore_n 1) 1 8 := ⟨by decide +kernel, rfl⟩
theorem dX10_ordersOfAll_8 : ml_d cX10_ordersOfAll 8 (.iconst 1) 1 9 := ⟨by decide +kernel, rfl⟩
theorem dX10_ordersOfAll_9 : ml_d cX10_ordersOfAll 9 (.iload_n 1) 1 10 := ⟨by decide +kernel, rfl⟩
theorem dX10_ordersOfAll_10 : ml_d cX10_ordersOfAll 10 (.ishl) 1 11 := ⟨by decide +kernel, rfl⟩
theorem dX10_ordersOfAll_11 : ml_d cX10_ordersOfAll 11 (.newarray .int) 2 13 := ⟨by decide +kernel, rfl⟩
theorem dX10_ordersOfAll_13 : ml_d cX10_ordersOfAll 13 (.astore_n 2) 1 14 := ⟨by decide +kernel, rfl⟩
theorem dX10_ordersOfAll_14 : ml_d cX10_ordersOfAll 14 (.aload_n 2) 1 15 := ⟨by decide +kernel, rfl⟩
theorem dX10_ordersOfAll_15 : ml_d cX10_ordersOfAll 15 (.aload_n 2) 1 16 := ⟨by decide +kernel, rfl⟩
theorem dX10_ordersOfAll_16 : ml_d cX10_ordersOfAll 16 (.arraylength) 1 17 := ⟨by decide +kernel, rfl⟩
theorem dX10_ordersOfAll_17 : ml_d cX10_ordersOfAll 17 (.iconst 1) 1 18 := ⟨by decide +kernel, rfl⟩
theorem dX10_ordersOfAll_18 : ml_d cX10_ordersOfAll 18 (.isub) 1 19 := ⟨by decide +kernel, rfl⟩
theorem dX10_ordersOfAll_19 : ml_d cX10_ordersOfAll 19 (.iconst 1) 1 20 := ⟨by decide +kernel, rfl⟩
theorem dX10_ordersOfAll_20 : ml_d cX10_ordersOfAll 20 (.iastore) 1 21 := ⟨by decide +kernel, rfl⟩
theorem dX10_ordersOfAll_21 : ml_d cX10_ordersOfAll 21 (.aload_n 2) 1 22 := ⟨by decide +kernel, rfl⟩
theorem dX10_ordersOfAll_22 : ml_d cX10_ordersOfAll 22 (.arraylength) 1 23 := ⟨by decide +kernel, rfl⟩
theorem dX10_ordersOfAll_23 : ml_d cX10_ordersOfAll 23 (.iconst 2) 1 24 := ⟨by decide +kernel, rfl⟩
theorem dX10_ordersOfAll_24 : ml_d cX10_ordersOfAll 24 (.isub) 1 25 := ⟨by decide +kernel, rfl⟩
theorem dX10_ordersOfAll_25 : ml_d cX10_ordersOfAll 25 (.istore_n 3) 1 26 := ⟨by decide +kernel, rfl⟩
theorem dX10_ordersOfAll_26 : ml_d cX10_ordersOfAll 26 (.iload_n 3) 1 27 := ⟨by decide +kernel, rfl⟩
theorem dX10_ordersOfAll_27 : ml_j cX10_ordersOfAll 27 (.ifCond .lt) 75 30 := ⟨48, by decide +kernel, by decide, rfl⟩
theorem dX10_ordersOfAll_30 : ml_d cX10_ordersOfAll 30 (.iconst 0) 1 31 := ⟨by decide +kernel, rfl⟩
theorem dX10_ordersOfAll_31 : ml_d cX10_ordersOfAll 31 (.istore 4) 2 33 := ⟨by decide +kernel, rfl⟩
theorem dX10_ordersOfAll_33 : ml_d cX10_ordersOfAll 33 (.iload 4) 2 35 := ⟨by decide +kernel, rfl⟩
theorem dX10_ordersOfAll_35 : ml_d cX10_ordersOfAll 35 (.iload_n 1) 1 36 := ⟨by decide +kernel, rfl⟩
theorem dX10_ordersOfAll_36 : ml_j cX10_ordersOfAll 36 (.if_icmp .ge) 69 39 := ⟨33, by decide +kernel, by decide, rfl⟩
theorem dX10_ordersOfAll_39 : ml_d cX10_ordersOfAll 39 (.aload_n 0) 1 40 := ⟨by decide +kernel, rfl⟩
theorem dX10_ordersOfAll_40 : ml_d cX10_ordersOfAll 40 (.iload_n 3) 1 41 := ⟨by decide +kernel, rfl⟩
theorem dX10_ordersOfAll_41 : ml_d cX10_ordersOfAll 41 (.iload 4) 2 43 := ⟨by decide +kernel, rfl⟩
theorem dX10_ordersOfAll_43 : ml_d cX10_ordersOfAll 43 (.invokevirtual 411) 3 46 := ⟨by decide +kernel, rfl⟩
theorem dX10_ordersOfAll_46 : ml_j cX10_ordersOfAll 46 (.ifCond .eq) 63 49 := ⟨17, by decide +kernel, by decide, rfl⟩
theorem dX10_ordersOfAll_49 : ml_d cX10_ordersOfAll 49 (.aload_n 2) 1 50 := ⟨by decide +kernel, rfl⟩
theorem dX10_ordersOfAll_50 : ml_d cX10_ordersOfAll 50 (.iload_n 3) 1 51 := ⟨by decide +kernel, rfl⟩
theorem dX10_ordersOfAll_51 : ml_d cX10_ordersOfAll 51 (.dup2) 1 52 := ⟨by decide +kernel, rfl⟩
theorem dX10_ordersOfAll_52 : ml_d cX10_ordersOfAll 52 (.iaload) 1 53 := ⟨by decide +kernel, rfl⟩
theorem dX10_ordersOfAll_53 : ml_d cX10_ordersOfAll 53 (.aload_n 2) 1 54 := ⟨by decide +kernel, rfl⟩
theorem dX10_ordersOfAll_54 : ml_d cX10_ordersOfAll 54 (.iload_n 3) 1 55 := ⟨by decide +kernel, rfl⟩
theorem dX10_ordersOfAll_55 : ml_d cX10_ordersOfAll 55 (.iconst 1) 1 56 := ⟨by decide +kernel, rfl⟩
theorem dX10_ordersOfAll_56 : ml_d cX10_ordersOfAll 56 (.iload 4) 2 58 := ⟨by decide +kernel, rfl⟩
theorem dX10_ordersOfAll_58 : ml_d cX10_ordersOfAll 58 (.ishl) 1 59 := ⟨by decide +kernel, rfl⟩
theorem dX10_ordersOfAll_59 : ml_d cX10_ordersOfAll 59 (.ior) 1 60 := ⟨by decide +kernel, rfl⟩
theorem dX10_ordersOfAll_60 : ml_d cX10_ordersOfAll 60 (.iaload) 1 61 := ⟨by decide +kernel, rfl⟩
theorem dX10_ordersOfAll_61 : ml_d cX10_ordersOfAll 61 (.iadd) 1 62 := ⟨by decide +kernel, rfl⟩
theorem dX10_ordersOfAll_62 : ml_d cX10_ordersOfAll 62 (.iastore) 1 63 := ⟨by decide +kernel, rfl⟩
theorem dX10_ordersOfAll_63 : ml_d cX10_ordersOfAll 63 (.iinc 4 1) 3 66 := ⟨by decide +kernel, rfl⟩
theorem dX10_ordersOfAll_66 : ml_j cX10_ordersOfAll 66 .goto 33 69 := ⟨(-33), by decide +kernel, by decide, rfl⟩
theorem dX10_ordersOfAll_69 : ml_d cX10_ordersOfAll 69 (.iinc 3 (-1)) 3 72 := ⟨by decide +kernel, rfl⟩
theorem dX10_ordersOfAll_72 : ml_j cX10_ordersOfAll 72 .goto 26 75 := ⟨(-46), by decide +kernel, by decide, rfl⟩
theorem dX10_ordersOfAll_75 : ml_d cX10_ordersOfAll 75 (.aload_n 2) 1 76 := ⟨by decide +kernel, rfl⟩
theorem dX10_ordersOfAll_76 : ml_d cX10_ordersOfAll 76 (.iconst 0) 1 77 := ⟨by decide +kernel, rfl⟩
theorem dX10_ordersOfAll_77 : ml_d cX10_ordersOfAll 77 (.iaload) 1 78 := ⟨by decide +kernel, rfl⟩
theorem dX10_ordersOfAll_78 : ml_d cX10_ordersOfAll 78 (.ireturn) 1 79 := ⟨by decide +kernel, rfl⟩
def fX10_ordersOfAll_63 (k26 : Nat → Int32 → Nat → Int32 → ml_M → Option (Int32 × ml_M)) (k33 : Nat → Int32 → Nat → Int32 → Int32 → ml_M → Option (Int32 × ml_M)) (l0 : Nat) (l1 : Int32) (l2 : Nat) (l3 : Int32) (l4 : Int32) (m : ml_M) : Option (Int32 × ml_M) :=
    k33 l0 l1 l2 l3 (l4 + (1 : Int32)) m
theorem vX10_ordersOfAll_63 {E : ml_E} (hL : ml_eL E = 5) {rv : Int32} {rm : ml_M} (hr : ∀ (pc pc' : Nat) (lv : List (Nat × ml_X)), ml_d cX10_ordersOfAll pc .ireturn 1 pc' → True → ml_V E "LostRoom" cX10_ordersOfAll 4 false rm pc lv [ml_i rv]) {k26 : Nat → Int32 → Nat → Int32 → ml_M → Option (Int32 × ml_M)} (hk26 : ∀ (l0 : Nat) (l1 : Int32) (l2 : Nat) (l3 : Int32) (m : ml_M), k26 l0 l1 l2 l3 m = some (rv, rm) → ml_V E "LostRoom" cX10_ordersOfAll 4 false m 26 [(0, ml_r l0), (1, ml_i l1), (2, ml_r l2), (3, ml_i l3)] []) {k33 : Nat → Int32 → Nat → Int32 → Int32 → ml_M → Option (Int32 × ml_M)} (hk33 : ∀ (l0 : Nat) (l1 : Int32) (l2 : Nat) (l3 : Int32) (l4 : Int32) (m : ml_M), k33 l0 l1 l2 l3 l4 m = some (rv, rm) → ml_V E "LostRoom" cX10_ordersOfAll 4 false m 33 [(0, ml_r l0), (1, ml_i l1), (2, ml_r l2), (3, ml_i l3), (4, ml_i l4)] []) : ∀ (l0 : Nat) (l1 : Int32) (l2 : Nat) (l3 : Int32) (l4 : Int32) (m : ml_M), fX10_ordersOfAll_63 k26 k33 l0 l1 l2 l3 l4 m = some (rv, rm) → ml_V E "LostRoom" cX10_ordersOfAll 4 false m 63 [(0, ml_r l0), (1, ml_i l1), (2, ml_r l2), (3, ml_i l3), (4, ml_i l4)] [] := by
  intro l0 l1 l2 l3 l4 m h
  unfold fX10_ordersOfAll_63 at h
  exact ml_iinc (lv' := [(4, ml_i (l4 + (1 : Int32))), (0, ml_r l0), (1, ml_i l1), (2, ml_r l2), (3, ml_i l3)]) dX10_ordersOfAll_63 4 rfl (congrArg (l4 + ·) kc_i1) (ml_hn hL rfl) rfl <| ml_goto dX10_ordersOfAll_66 <| ml_V.sub [1, 2, 3, 4, 0] rfl (hk33 _ _ _ _ _ _ h)
def fX10_ordersOfAll_69 (k26 : Nat → Int32 → Nat → Int32 → ml_M → Option (Int32 × ml_M)) (l0 : Nat) (l1 : Int32) (l2 : Nat) (l3 : Int32) (m : ml_M) : Option (Int32 × ml_M) :=
    k26 l0 l1 l2 (l3 + (-1 : Int32)) m
theorem vX10_ordersOfAll_69 {E : ml_E} (hL : ml_eL E = 5) {rv : Int32} {rm : ml_M} (hr : ∀ (pc pc' : Nat) (lv : List (Nat × ml_X)), ml_d cX10_ordersOfAll pc .ireturn 1 pc' → True → ml_V E "LostRoom" cX10_ordersOfAll 4 false rm pc lv [ml_i rv]) {k26 : Nat → Int32 → Nat → Int32 → ml_M → Option (Int32 × ml_M)} (hk26 : ∀ (l0 : Nat) (l1 : Int32) (l2 : Nat) (l3 : Int32) (m : ml_M), k26 l0 l1 l2 l3 m = some (rv, rm) → ml_V E "LostRoom" cX10_ordersOfAll 4 false m 26 [(0, ml_r l0), (1, ml_i l1), (2, ml_r l2), (3, ml_i l3)] []) : ∀ (l0 : Nat) (l1 : Int32) (l2 : Nat) (l3 : Int32) (m : ml_M), fX10_ordersOfAll_69 k26 l0 l1 l2 l3 m = some (rv, rm) → ml_V E "LostRoom" cX10_ordersOfAll 4 false m 69 [(0, ml_r l0), (1, ml_i l1), (2, ml_r l2), (3, ml_i l3)] [] := by
  intro l0 l1 l2 l3 m h
  unfold fX10_ordersOfAll_69 at h
  exact ml_iinc (lv' := [(3, ml_i (l3 + (-1 : Int32))), (0, ml_r l0), (1, ml_i l1), (2, ml_r l2)]) dX10_ordersOfAll_69 3 rfl (congrArg (l3 + ·) kc_im1) (ml_hn hL rfl) rfl <| ml_goto dX10_ordersOfAll_72 <| ml_V.sub [1, 2, 3, 0] rfl (hk26 _ _ _ _ _ h)
def fX10_ordersOfAll_33 (k26 : Nat → Int32 → Nat → Int32 → ml_M → Option (Int32 × ml_M)) : Nat → Nat → Int32 → Nat → Int32 → Int32 → ml_M → Option (Int32 × ml_M)
  | 0, _, _, _, _, _, _ => none
  | fu + 1, l0, l1, l2, l3, l4, m =>
    if l1 ≤ l4 then
    fX10_ordersOfAll_69 k26 l0 l1 l2 l3 m
    else
    if (ml_K m l0).1 = 10 then
    ml_b1 (fX10_canFollow l0 l3 l4 m) fun r2063 =>
    if r2063 = 0 then
    fX10_ordersOfAll_63 k26 (fX10_ordersOfAll_33 k26 fu) l0 l1 l2 l3 l4 m
    else
    if ml_in m l2 20 l3 then
    if ml_in m l2 20 (l3 ||| ((1 : Int32) <<< (l4 &&& 31))) then
    if ml_in m l2 20 l3 then
    ml_let (ml_sI m l2 l3.toNatClampNeg ((ml_I m l2 l3.toNatClampNeg) + (ml_I m l2 (l3 ||| ((1 : Int32) <<< (l4 &&& 31))).toNatClampNeg))) fun m2067 =>
    fX10_ordersOfAll_63 k26 (fX10_ordersOfAll_33 k26 fu) l0 l1 l2 l3 l4 m2067
    else none
    else none
    else none
    else none
theorem vX10_ordersOfAll_33 {E : ml_E} (hL : ml_eL E = 5) {rv : Int32} {rm : ml_M} (hr : ∀ (pc pc' : Nat) (lv : List (Nat × ml_X)), ml_d cX10_ordersOfAll pc .ireturn 1 pc' → True → ml_V E "LostRoom" cX10_ordersOfAll 4 false rm pc lv [ml_i rv]) {k26 : Nat → Int32 → Nat → Int32 → ml_M → Option (Int32 × ml_M)} (hk26 : ∀ (l0 : Nat) (l1 : Int32) (l2 : Nat) (l3 : Int32) (m : ml_M), k26 l0 l1 l2 l3 m = some (rv, rm) → ml_V E "LostRoom" cX10_ordersOfAll 4 false m 26 [(0, ml_r l0), (1, ml_i l1), (2, ml_r l2), (3, ml_i l3)] []) : ∀ (fu : Nat) (l0 : Nat) (l1 : Int32) (l2 : Nat) (l3 : Int32) (l4 : Int32) (m : ml_M), fX10_ordersOfAll_33 k26 fu l0 l1 l2 l3 l4 m = some (rv, rm) → ml_V E "LostRoom" cX10_ordersOfAll 4 false m 33 [(0, ml_r l0), (1, ml_i l1), (2, ml_r l2), (3, ml_i l3), (4, ml_i l4)] [] := by
  intro fu
  induction fu with
  | zero => intro l0 l1 l2 l3 l4 m h; exact ml_none h
  | succ fu ih =>
    intro l0 l1 l2 l3 l4 m h
    have hk33 := ih
    unfold fX10_ordersOfAll_33 at h
    exact ml_iload dX10_ordersOfAll_33 4 rfl <| ml_iload_n dX10_ordersOfAll_35 1 rfl <| ml_icmp_ge dX10_ordersOfAll_36 h (fun _ h => ml_V.sub [0, 1, 2, 3] rfl (vX10_ordersOfAll_69 hL hr hk26 _ _ _ _ _ h)) (fun _ h => ml_aload_n dX10_ordersOfAll_39 0 rfl <| ml_iload_n dX10_ordersOfAll_40 3 rfl <| ml_iload dX10_ordersOfAll_41 4 rfl <| ml_ck_of h fun hc2062 h => ml_b1_of h fun r2063 hv2061 h => ml_callV dX10_ordersOfAll_43 wm_509 wb_306 hc2062 (sX10_canFollow hv2061) rfl (Nat.le_of_ble_eq_true rfl) (Nat.le_of_ble_eq_true rfl) rfl <| ml_if_eq dX10_ordersOfAll_46 h (fun _ h => ml_V.sub [0, 1, 2, 3, 4] rfl (vX10_ordersOfAll_63 hL hr hk26 hk33 _ _ _ _ _ _ h)) (fun _ h => ml_aload_n dX10_ordersOfAll_49 2 rfl <| ml_iload_n dX10_ordersOfAll_50 3 rfl <| ml_dup2 dX10_ordersOfAll_51 rfl rfl <| ml_ck_of h fun hi2064 h => ml_iald dX10_ordersOfAll_52 hi2064 <| ml_aload_n dX10_ordersOfAll_53 2 rfl <| ml_iload_n dX10_ordersOfAll_54 3 rfl <| ml_iconst dX10_ordersOfAll_55 kc_i1 <| ml_iload dX10_ordersOfAll_56 4 rfl <| ml_ishl dX10_ordersOfAll_58 <| ml_ior dX10_ordersOfAll_59 <| ml_ck_of h fun hi2065 h => ml_iald dX10_ordersOfAll_60 hi2065 <| ml_iadd dX10_ordersOfAll_61 <| ml_ck_of h fun hi2066 h => ml_iast dX10_ordersOfAll_62 hi2066 <| ml_lt (m := m) rfl h fun m2067 em2068 h => ml_V.sub [0, 1, 2, 3, 4] rfl (vX10_ordersOfAll_63 hL hr hk26 hk33 _ _ _ _ _ _ h)))
def fX10_ordersOfAll_75 (l2 : Nat) (m : ml_M) : Option (Int32 × ml_M) :=
    if ml_in m l2 20 (0 : Int32) then
    some ((ml_I m l2 (0 : Int32).toNatClampNeg), m)
    else none
theorem vX10_ordersOfAll_75 {E : ml_E} (hL : ml_eL E = 5) {rv : Int32} {rm : ml_M} (hr : ∀ (pc pc' : Nat) (lv : List (Nat × ml_X)), ml_d cX10_ordersOfAll pc .ireturn 1 pc' → True → ml_V E "LostRoom" cX10_ordersOfAll 4 false rm pc lv [ml_i rv]) : ∀ (l2 : Nat) (m : ml_M), fX10_ordersOfAll_75 l2 m = some (rv, rm) → ml_V E "LostRoom" cX10_ordersOfAll 4 false m 75 [(2, ml_r l2)] [] := by
  intro l2 m h
  unfold fX10_ordersOfAll_75 at h
  exact ml_aload_n dX10_ordersOfAll_75 0 rfl <| ml_iconst dX10_ordersOfAll_76 kc_i0 <| ml_ck_of h fun hi2069 h => ml_iald dX10_ordersOfAll_77 hi2069 <| ml_rI (mk := ml_i) hr dX10_ordersOfAll_78 (fun _ => trivial) h
def fX10_ordersOfAll_26 : Nat → Nat → Int32 → Nat → Int32 → ml_M → Option (Int32 × ml_M)
  | 0, _, _, _, _, _ => none
  | fu + 1, l0, l1, l2, l3, m =>
    if l3 < 0 then
    fX10_ordersOfAll_75 l2 m
    else
    fX10_ordersOfAll_33 (fX10_ordersOfAll_26 fu) ml_fu l0 l1 l2 l3 (0 : Int32) m
theorem vX10_ordersOfAll_26 {E : ml_E} (hL : ml_eL E = 5) {rv : Int32} {rm : ml_M} (hr : ∀ (pc pc' : Nat) (lv : List (Nat × ml_X)), ml_d cX10_ordersOfAll pc .ireturn 1 pc' → True → ml_V E "LostRoom" cX10_ordersOfAll 4 false rm pc lv [ml_i rv]) : ∀ (fu : Nat) (l0 : Nat) (l1 : Int32) (l2 : Nat) (l3 : Int32) (m : ml_M), fX10_ordersOfAll_26 fu l0 l1 l2 l3 m = some (rv, rm) → ml_V E "LostRoom" cX10_ordersOfAll 4 false m 26 [(0, ml_r l0), (1, ml_i l1), (2, ml_r l2), (3, ml_i l3)] [] := by
  intro fu
  induction fu with
  | zero => intro l0 l1 l2 l3 m h; exact ml_none h
  | succ fu ih =>
    intro l0 l1 l2 l3 m h
    have hk26 := ih
    unfold fX10_ordersOfAll_26 at h
    exact ml_iload_n dX10_ordersOfAll_26 3 rfl <| ml_if_lt dX10_ordersOfAll_27 h (fun _ h => ml_V.sub [2] rfl (vX10_ordersOfAll_75 hL hr  _ _ h)) (fun _ h => ml_iconst dX10_ordersOfAll_30 kc_i0 <| ml_istore (lv' := [(4, ml_i (0 : Int32)), (0, ml_r l0), (1, ml_i l1), (2, ml_r l2), (3, ml_i l3)]) dX10_ordersOfAll_31 (ml_hn hL rfl) rfl <| ml_V.sub [1, 2, 3, 4, 0] rfl (vX10_ordersOfAll_33 hL hr hk26 ml_fu _ _ _ _ _ _ h))
def fX10_ordersOfAll (l0 : Nat) (m : ml_M) : Option (Int32 × ml_M) :=
    if (ml_K m l0).1 = 10 then
    ml_let (ml_R m l0 2) fun a2071 =>
    if (ml_K m a2071).1 = 1 then
    ml_let (ml_I m a2071 3) fun x2073 =>
    if ml_len ((1 : Int32) <<< (x2073 &&& 31)) then
    ml_let (ml_n m + 1) fun a2075 =>
    ml_let (ml_al m 20 ((1 : Int32) <<< (x2073 &&& 31)).toNatClampNeg ((1 : Int32) <<< (x2073 &&& 31)).toNatClampNeg) fun m2076 =>
    if ml_in m2076 a2075 20 ((Int32.ofNat (ml_K m2076 a2075).2) - (1 : Int32)) then
    ml_let (ml_sI m2076 a2075 ((Int32.ofNat (ml_K m2076 a2075).2) - (1 : Int32)).toNatClampNeg (1 : Int32)) fun m2080 =>
    ml_let ((Int32.ofNat (ml_K m2080 a2075).2) - (2 : Int32)) fun x2082 =>
    fX10_ordersOfAll_26 ml_fu l0 x2073 a2075 x2082 m2080
    else none
    else none
    else none
    else none
theorem wX10_ordersOfAll_0 {E : ml_E} (hL : ml_eL E = 5) {rv : Int32} {rm : ml_M} (hr : ∀ (pc pc' : Nat) (lv : List (Nat × ml_X)), ml_d cX10_ordersOfAll pc .ireturn 1 pc' → True → ml_V E "LostRoom" cX10_ordersOfAll 4 false rm pc lv [ml_i rv]) : ∀ (l0 : Nat) (m : ml_M), fX10_ordersOfAll l0 m = some (rv, rm) → ml_V E "LostRoom" cX10_ordersOfAll 4 false m 0 [(0, ml_r l0)] [] := by
  intro l0 m h
  unfold fX10_ordersOfAll at h
  exact ml_aload_n dX10_ordersOfAll_0 0 rfl <| ml_ck_of h fun hc2070 h => ml_getR dX10_ordersOfAll_1 wb_189 hc2070 <| ml_lx (mk := ml_r) h fun a2071 h => ml_ck_of h fun hc2072 h => ml_getI dX10_ordersOfAll_4 wb_190 hc2072 <| ml_lx (mk := ml_i) h fun x2073 h => ml_istore_n (lv' := [(1, ml_i x2073), (0, ml_r l0)]) dX10_ordersOfAll_7 (ml_hn hL rfl) rfl <| ml_iconst dX10_ordersOfAll_8 kc_i1 <| ml_iload_n dX10_ordersOfAll_9 0 rfl <| ml_ishl dX10_ordersOfAll_10 <| ml_ck_of h fun hl2074 h => ml_newAs (kd := 20) dX10_ordersOfAll_11 wb_0 hl2074 h fun a2075 m2076 hn2077 hc2078 h => ml_astore_n (lv' := [(2, ml_r a2075), (1, ml_i x2073), (0, ml_r l0)]) dX10_ordersOfAll_13 (ml_hn hL rfl) rfl <| ml_aload_n dX10_ordersOfAll_14 0 rfl <| ml_aload_n dX10_ordersOfAll_15 0 rfl <| ml_alen (kd := 20) dX10_ordersOfAll_16 (by decide) hc2078 <| ml_iconst dX10_ordersOfAll_17 kc_i1 <| ml_isub dX10_ordersOfAll_18 <| ml_iconst dX10_ordersOfAll_19 kc_i1 <| ml_ck_of h fun hi2079 h => ml_iast dX10_ordersOfAll_20 hi2079 <| ml_lt (m := m2076) rfl h fun m2080 em2081 h => ml_aload_n dX10_ordersOfAll_21 0 rfl <| ml_alen (kd := 20) dX10_ordersOfAll_22 (by decide) (ml_kk em2081 hi2079.1) <| ml_iconst dX10_ordersOfAll_23 kc_i2 <| ml_isub dX10_ordersOfAll_24 <| ml_lx (mk := ml_i) h fun x2082 h => ml_istore_n (lv' := [(3, ml_i x2082), (2, ml_r a2075), (1, ml_i x2073), (0, ml_r l0)]) dX10_ordersOfAll_25 (ml_hn hL rfl) rfl <| ml_V.sub [3, 2, 1, 0] rfl (vX10_ordersOfAll_26 hL hr  ml_fu _ _ _ _ _ h)
theorem sX10_ordersOfAll {l0 : Nat} {m : ml_M} {rv : Int32} {rm : ml_M} (h : fX10_ordersOfAll l0 m = some (rv, rm)) : ml_Sn yX10_ordersOfAll cX10_ordersOfAll 5 (some .int) 4 [ml_r l0] m (some (ml_i rv)) rm :=
  ml_Sn_of (P := True) (ini := false) (by decide +kernel) (Nat.le_of_ble_eq_true rfl) (fun h => by cases h) (fun _ => ml_RkI rv) fun E hL hr => wX10_ordersOfAll_0 hL hr _ _ h
theorem dX10_piling_0 : ml_d cX10_piling 0 (.iload_n 1) 1 1 := ⟨by decide +kernel, rfl⟩
theorem dX10_piling_1 : ml_d cX10_piling 1 (.invokestatic 82) 3 4 := ⟨by decide +kernel, rfl⟩
theorem dX10_piling_4 : ml_j cX10_piling 4 (.ifCond .ne) 9 7 := ⟨5, by decide +kernel, by decide, rfl⟩
theorem dX10_piling_7 : ml_d cX10_piling 7 (.iconst (-1)) 1 8 := ⟨by decide +kernel, rfl⟩
theorem dX10_piling_8 : ml_d cX10_piling 8 (.ireturn) 1 9 := ⟨by decide +kernel, rfl⟩
theorem dX10_piling_9 : ml_d cX10_piling 9 (.aload_n 0) 1 10 := ⟨by decide +kernel, rfl⟩
theorem dX10_piling_10 : ml_d cX10_piling 10 (.getfield 26) 3 13 := ⟨by decide +kernel, rfl⟩
theorem dX10_piling_13 : ml_d cX10_piling 13 (.getfield 135) 3 16 := ⟨by decide +kernel, rfl⟩
theorem dX10_piling_16 : ml_d cX10_piling 16 (.newarray .int) 2 18 := ⟨by decide +kernel, rfl⟩
theorem dX10_piling_18 : ml_d cX10_piling 18 (.astore_n 2) 1 19 := ⟨by decide +kernel, rfl⟩
theorem dX10_piling_19 : ml_d cX10_piling 19 (.iconst 0) 1 20 := ⟨by decide +kernel, rfl⟩
theorem dX10_piling_20 : ml_d cX10_piling 20 (.istore_n 3) 1 21 := ⟨by decide +kernel, rfl⟩
theorem dX10_piling_21 : ml_d cX10_piling 21 (.iconst 0) 1 22 := ⟨by decide +kernel, rfl⟩
theorem dX10_piling_22 : ml_d cX10_piling 22 (.istore 4) 2 24 := ⟨by decide +kernel, rfl⟩
theorem dX10_piling_24 : ml_d cX10_piling 24 (.iload 4) 2 26 := ⟨by decide +kernel, rfl⟩
theorem dX10_piling_26 : ml_d cX10_piling 26 (.aload_n 2) 1 27 := ⟨by decide +kernel, rfl⟩
theorem dX10_piling_27 : ml_d cX10_piling 27 (.arraylength) 1 28 := ⟨by decide +kernel, rfl⟩
theorem dX10_piling_28 : ml_j cX10_piling 28 (.if_icmp .ge) 67 31 := ⟨39, by decide +kernel, by decide, rfl⟩
theorem dX10_piling_31 : ml_d cX10_piling 31 (.aload_n 0) 1 32 := ⟨by decide +kernel, rfl⟩
theorem dX10_piling_32 : ml_d cX10_piling 32 (.iload_n 3) 1 33 := ⟨by decide +kernel, rfl⟩
theorem dX10_piling_33 : ml_d cX10_piling 33 (.invokevirtual 236) 3 36 := ⟨by decide +kernel, rfl⟩
theorem dX10_piling_36 : ml_d cX10_piling 36 (.istore 5) 2 38 := ⟨by decide +kernel, rfl⟩
theorem dX10_piling_38 : ml_d cX10_piling 38 (.iload 5) 2 40 := ⟨by decide +kernel, rfl⟩
theorem dX10_piling_40 : ml_d cX10_piling 40 (.bipush (-9)) 2 42 := ⟨by decide +kernel, rfl⟩
theorem dX10_piling_42 : ml_j cX10_piling 42 (.if_icmp .ne) 48 45 := ⟨6, by decide +kernel, by decide, rfl⟩
theorem dX10_piling_45 : ml_d cX10_piling 45 (.bipush (-9)) 2 47 := ⟨by decide +kernel, rfl⟩
theorem dX10_piling_47 : ml_d cX10_piling 47 (.ireturn) 1 48 := ⟨by decide +kernel, rfl⟩
theorem dX10_piling_48 : ml_d cX10_piling 48 (.aload_n 2) 1 49 := ⟨by decide +kernel, rfl⟩
theorem dX10_piling_49 : ml_d cX10_piling 49 (.iload 4) 2 51 := ⟨by decide +kernel, rfl⟩
theorem dX10_piling_51 : ml_d cX10_piling 51 (.iload 5) 2 53 := ⟨by decide +kernel, rfl⟩
theorem dX10_piling_53 : ml_d cX10_piling 53 (.iastore) 1 54 := ⟨by decide +kernel, rfl⟩
theorem dX10_piling_54 : ml_d cX10_piling 54 (.iload_n 3) 1 55 := ⟨by decide +kernel, rfl⟩
theorem dX10_piling_55 : ml_d cX10_piling 55 (.iconst 1) 1 56 := ⟨by decide +kernel, rfl⟩
theorem dX10_piling_56 : ml_d cX10_piling 56 (.iload 5) 2 58 := ⟨by decide +kernel, rfl⟩
theorem dX10_piling_58 : ml_d cX10_piling 58 (.ishl) 1 59 := ⟨by decide +kernel, rfl⟩
theorem dX10_piling_59 : ml_d cX10_piling 59 (.ior) 1 60 := ⟨by decide +kernel, rfl⟩
theorem dX10_piling_60 : ml_d cX10_piling 60 (.istore_n 3) 1 61 := ⟨by decide +kernel, rfl⟩
theorem dX10_piling_61 : ml_d cX10_piling 61 (.iinc 4 1) 3 64 := ⟨by decide +kernel, rfl⟩
theorem dX10_piling_64 : ml_j cX10_piling 64 .goto 24 67 := ⟨(-40), by decide +kernel, by decide, rfl⟩
theorem dX10_piling_67 : ml_d cX10_piling 67 (.aload_n 0) 1 68 := ⟨by decide +kernel, rfl⟩
theorem dX10_piling_68 : ml_d cX10_piling 68 (.getfield 11) 3 71 := ⟨by decide +kernel, rfl⟩
theorem dX10_piling_71 : ml_d cX10_piling 71 (.iload_n 1) 1 72 := ⟨by decide +kernel, rfl⟩
theorem dX10_piling_72 : ml_d cX10_piling 72 (.aload_n 2) 1 73 := ⟨by decide +kernel, rfl⟩
theorem dX10_piling_73 : ml_d cX10_piling 73 (.aastore) 1 74 := ⟨by decide +kernel, rfl⟩
theorem dX10_piling_74 : ml_d cX10_piling 74 (.aload_n 0) 1 75 := ⟨by decide +kernel, rfl⟩
theorem dX10_piling_75 : ml_d cX10_piling 75 (.invokevirtual 239) 3 78 := ⟨by decide +kernel, rfl⟩
theorem dX10_piling_78 : ml_d cX10_piling 78 (.ireturn) 1 79 := ⟨by decide +kernel, rfl⟩
def fX10_piling_67 (l0 : Nat) (l1 : Int32) (l2 : Nat) (m : ml_M) : Option (Int32 × ml_M) :=
    if (ml_K m l0).1 = 10 then
    ml_let (ml_R m l0 0) fun a2084 =>
    if (ml_K m l2).1 = 20 then
    if ml_in m a2084 23 l1 then
    ml_let (ml_sR m a2084 l1.toNatClampNeg l2) fun m2087 =>
    ml_b2 (fX10_ordersOfAll l0 m2087) fun r2090 m2091 =>
    some (r2090, m2091)
    else none
    else none
    else none
theorem vX10_piling_67 {E : ml_E} (hL : ml_eL E = 6) {rv : Int32} {rm : ml_M} (hr : ∀ (pc pc' : Nat) (lv : List (Nat × ml_X)), ml_d cX10_piling pc .ireturn 1 pc' → True → ml_V E "LostRoom" cX10_piling 5 false rm pc lv [ml_i rv]) : ∀ (l0 : Nat) (l1 : Int32) (l2 : Nat) (m : ml_M), fX10_piling_67 l0 l1 l2 m = some (rv, rm) → ml_V E "LostRoom" cX10_piling 5 false m 67 [(0, ml_r l0), (1, ml_i l1), (2, ml_r l2)] [] := by
  intro l0 l1 l2 m h
  unfold fX10_piling_67 at h
  exact ml_aload_n dX10_piling_67 0 rfl <| ml_ck_of h fun hc2083 h => ml_getR dX10_piling_68 wb_98 hc2083 <| ml_lx (mk := ml_r) h fun a2084 h => ml_iload_n dX10_piling_71 1 rfl <| ml_aload_n dX10_piling_72 2 rfl <| ml_ck_of h fun hc2086 h => ml_ck_of h fun hi2085 h => ml_aastA (kd := 23) (ka := 20) dX10_piling_73 (by decide) hi2085 hc2086 <| ml_lt (m := m) rfl h fun m2087 em2088 h => ml_aload_n dX10_piling_74 0 rfl <| ml_b2_of h fun r2090 m2091 hv2089 h => ml_callV dX10_piling_75 wm_513 wb_307 (ml_kk em2088 hc2083) (sX10_ordersOfAll hv2089) rfl (Nat.le_of_ble_eq_true rfl) (Nat.le_of_ble_eq_true rfl) rfl <| ml_rI (mk := ml_i) hr dX10_piling_78 (fun _ => trivial) h
def fX10_piling_24 : Nat → Nat → Int32 → Nat → Int32 → Int32 → ml_M → Option (Int32 × ml_M)
  | 0, _, _, _, _, _, _ => none
  | fu + 1, l0, l1, l2, l3, l4, m =>
    if (ml_K m l2).1 = 20 then
    if (Int32.ofNat (ml_K m l2).2) ≤ l4 then
    fX10_piling_67 l0 l1 l2 m
    else
    if (ml_K m l0).1 = 10 then
    ml_b1 (fX10_firstToFollow l0 l3 m) fun r2095 =>
    if r2095 = (-9 : Int32) then
    some ((-9 : Int32), m)
    else
    if ml_in m l2 20 l4 then
    ml_let (ml_sI m l2 l4.toNatClampNeg r2095) fun m2097 =>
    ml_let (l3 ||| ((1 : Int32) <<< (r2095 &&& 31))) fun x2099 =>
    (fX10_piling_24 fu) l0 l1 l2 x2099 (l4 + (1 : Int32)) m2097
    else none
    else none
    else none
theorem vX10_piling_24 {E : ml_E} (hL : ml_eL E = 6) {rv : Int32} {rm : ml_M} (hr : ∀ (pc pc' : Nat) (lv : List (Nat × ml_X)), ml_d cX10_piling pc .ireturn 1 pc' → True → ml_V E "LostRoom" cX10_piling 5 false rm pc lv [ml_i rv]) : ∀ (fu : Nat) (l0 : Nat) (l1 : Int32) (l2 : Nat) (l3 : Int32) (l4 : Int32) (m : ml_M), fX10_piling_24 fu l0 l1 l2 l3 l4 m = some (rv, rm) → ml_V E "LostRoom" cX10_piling 5 false m 24 [(0, ml_r l0), (1, ml_i l1), (2, ml_r l2), (3, ml_i l3), (4, ml_i l4)] [] := by
  intro fu
  induction fu with
  | zero => intro l0 l1 l2 l3 l4 m h; exact ml_none h
  | succ fu ih =>
    intro l0 l1 l2 l3 l4 m h
    have hk24 := ih
    unfold fX10_piling_24 at h
    exact ml_iload dX10_piling_24 4 rfl <| ml_aload_n dX10_piling_26 2 rfl <| ml_ck_of h fun hc2092 h => ml_alen (kd := 20) dX10_piling_27 (by decide) hc2092 <| ml_icmp_ge dX10_piling_28 h (fun _ h => ml_V.sub [0, 1, 2] rfl (vX10_piling_67 hL hr  _ _ _ _ h)) (fun _ h => ml_aload_n dX10_piling_31 0 rfl <| ml_iload_n dX10_piling_32 3 rfl <| ml_ck_of h fun hc2094 h => ml_b1_of h fun r2095 hv2093 h => ml_callV dX10_piling_33 wm_517 wb_308 hc2094 (sX10_firstToFollow hv2093) rfl (Nat.le_of_ble_eq_true rfl) (Nat.le_of_ble_eq_true rfl) rfl <| ml_istore (lv' := [(5, ml_i r2095), (0, ml_r l0), (1, ml_i l1), (2, ml_r l2), (3, ml_i l3), (4, ml_i l4)]) dX10_piling_36 (ml_hn hL rfl) rfl <| ml_iload dX10_piling_38 0 rfl <| ml_bipush dX10_piling_40 kc_bm9 <| ml_icmp_ne dX10_piling_42 h (fun _ h => ml_aload_n dX10_piling_48 3 rfl <| ml_iload dX10_piling_49 5 rfl <| ml_iload dX10_piling_51 0 rfl <| ml_ck_of h fun hi2096 h => ml_iast dX10_piling_53 hi2096 <| ml_lt (m := m) rfl h fun m2097 em2098 h => ml_iload_n dX10_piling_54 4 rfl <| ml_iconst dX10_piling_55 kc_i1 <| ml_iload dX10_piling_56 0 rfl <| ml_ishl dX10_piling_58 <| ml_ior dX10_piling_59 <| ml_lx (mk := ml_i) h fun x2099 h => ml_istore_n (lv' := [(3, ml_i x2099), (5, ml_i r2095), (0, ml_r l0), (1, ml_i l1), (2, ml_r l2), (4, ml_i l4)]) dX10_piling_60 (ml_hn hL rfl) rfl <| ml_iinc (lv' := [(4, ml_i (l4 + (1 : Int32))), (3, ml_i x2099), (5, ml_i r2095), (0, ml_r l0), (1, ml_i l1), (2, ml_r l2)]) dX10_piling_61 5 rfl (congrArg (l4 + ·) kc_i1) (ml_hn hL rfl) rfl <| ml_goto dX10_piling_64 <| ml_V.sub [3, 4, 5, 1, 0] rfl (hk24 _ _ _ _ _ _ h)) (fun _ h => ml_bipush dX10_piling_45 kc_bm9 <| ml_rI (mk := ml_i) hr dX10_piling_47 (fun _ => trivial) h))
def fX10_piling (l0 : Nat) (l1 : Int32) (m : ml_M) : Option (Int32 × ml_M) :=
    ml_b1 (fX10_isRow l1 m) fun r2101 =>
    if r2101 = 0 then
    some ((-1 : Int32), m)
    else
    if (ml_K m l0).1 = 10 then
    ml_let (ml_R m l0 2) fun a2103 =>
    if (ml_K m a2103).1 = 1 then
    if ml_len (ml_I m a2103 3) then
    ml_let (ml_n m + 1) fun a2106 =>
    ml_let (ml_al m 20 (ml_I m a2103 3).toNatClampNeg (ml_I m a2103 3).toNatClampNeg) fun m2107 =>
    fX10_piling_24 ml_fu l0 l1 a2106 (0 : Int32) (0 : Int32) m2107
    else none
    else none
    else none
theorem wX10_piling_0 {E : ml_E} (hL : ml_eL E = 6) {rv : Int32} {rm : ml_M} (hr : ∀ (pc pc' : Nat) (lv : List (Nat × ml_X)), ml_d cX10_piling pc .ireturn 1 pc' → True → ml_V E "LostRoom" cX10_piling 5 false rm pc lv [ml_i rv]) : ∀ (l0 : Nat) (l1 : Int32) (m : ml_M), fX10_piling l0 l1 m = some (rv, rm) → ml_V E "LostRoom" cX10_piling 5 false m 0 [(0, ml_r l0), (1, ml_i l1)] [] := by
  intro l0 l1 m h
  unfold fX10_piling at h
  exact ml_iload_n dX10_piling_0 1 rfl <| ml_b1_of h fun r2101 hv2100 h => ml_callS dX10_piling_1 wm_128 wb_97 (sX10_isRow hv2100) rfl (Nat.le_of_ble_eq_true rfl) (Nat.le_of_ble_eq_true rfl) rfl <| ml_if_ne dX10_piling_4 h (fun _ h => ml_aload_n dX10_piling_9 0 rfl <| ml_ck_of h fun hc2102 h => ml_getR dX10_piling_10 wb_189 hc2102 <| ml_lx (mk := ml_r) h fun a2103 h => ml_ck_of h fun hc2104 h => ml_getI dX10_piling_13 wb_190 hc2104 <| ml_ck_of h fun hl2105 h => ml_newAs (kd := 20) dX10_piling_16 wb_0 hl2105 h fun a2106 m2107 hn2108 hc2109 h => ml_astore_n (lv' := [(2, ml_r a2106), (0, ml_r l0), (1, ml_i l1)]) dX10_piling_18 (ml_hn hL rfl) rfl <| ml_iconst dX10_piling_19 kc_i0 <| ml_istore_n (lv' := [(3, ml_i (0 : Int32)), (2, ml_r a2106), (0, ml_r l0), (1, ml_i l1)]) dX10_piling_20 (ml_hn hL rfl) rfl <| ml_iconst dX10_piling_21 kc_i0 <| ml_istore (lv' := [(4, ml_i (0 : Int32)), (3, ml_i (0 : Int32)), (2, ml_r a2106), (0, ml_r l0), (1, ml_i l1)]) dX10_piling_22 (ml_hn hL rfl) rfl <| ml_V.sub [3, 4, 2, 1, 0] rfl (vX10_piling_24 hL hr  ml_fu _ _ _ _ _ _ h)) (fun _ h => ml_iconst dX10_piling_7 kc_im1 <| ml_rI (mk := ml_i) hr dX10_piling_8 (fun _ => trivial) h)
theorem sX10_piling {l0 : Nat} {l1 : Int32} {m : ml_M} {rv : Int32} {rm : ml_M} (h : fX10_piling l0 l1 m = some (rv, rm)) : ml_Sn yX10_piling cX10_piling 6 (some .int) 5 [ml_r l0, ml_i l1] m (some (ml_i rv)) rm :=
  ml_Sn_of (P := True) (ini := false) (by decide +kernel) (Nat.le_of_ble_eq_true rfl) (fun h => by cases h) (fun _ => ml_RkI rv) fun E hL hr => wX10_piling_0 hL hr _ _ _ h
theorem dX11_canCome_0 : ml_d cX11_canCome 0 (.iload_n 2) 1 1 := ⟨by decide +kernel, rfl⟩
theorem dX11_canCome_1 : ml_d cX11_canCome 1 (.iload_n 1) 1 2 := ⟨by decide +kernel, rfl⟩
theorem dX11_canCome_2 : ml_d cX11_canCome 2 (.invokestatic 260) 3 5 := ⟨by decide +kernel, rfl⟩
theorem dX11_canCome_5 : ml_j cX11_canCome 5 (.ifCond .ne) 12 8 := ⟨7, by decide +kernel, by decide, rfl⟩
theorem dX11_canCome_8 : ml_d cX11_canCome 8 (.iconst 1) 1 9 := ⟨by decide +kernel, rfl⟩
theorem dX11_canCome_9 : ml_j cX11_canCome 9 .goto 13 12 := ⟨4, by decide +kernel, by decide, rfl⟩
theorem dX11_canCome_12 : ml_d cX11_canCome 12 (.iconst 0) 1 13 := ⟨by decide +kernel, rfl⟩
theorem dX11_canCome_13 : ml_d cX11_canCome 13 (.istore_n 3) 1 14 := ⟨by decide +kernel, rfl⟩
theorem dX11_canCome_14 : ml_d cX11_canCome 14 (.iconst 0) 1 15 := ⟨by decide +kernel, rfl⟩
theorem dX11_canCome_15 : ml_d cX11_canCome 15 (.istore 4) 2 17 := ⟨by decide +kernel, rfl⟩
theorem dX11_canCome_17 : ml_d cX11_canCome 17 (.iload 4) 2 19 := ⟨by decide +kernel, rfl⟩
theorem dX11_canCome_19 : ml_d cX11_canCome 19 (.aload_n 0) 1 20 := ⟨by decide +kernel, rfl⟩
theorem dX11_canCome_20 : ml_d cX11_canCome 20 (.getfield 178) 3 23 := ⟨by decide +kernel, rfl⟩
theorem dX11_canCome_23 : ml_j cX11_canCome 23 (.if_icmp .ge) 73 26 := ⟨50, by decide +kernel, by decide, rfl⟩
theorem dX11_canCome_26 : ml_d cX11_canCome 26 (.iload_n 3) 1 27 := ⟨by decide +kernel, rfl⟩
theorem dX11_canCome_27 : ml_j cX11_canCome 27 (.ifCond .eq) 65 30 := ⟨38, by decide +kernel, by decide, rfl⟩
theorem dX11_canCome_30 : ml_d cX11_canCome 30 (.aload_n 0) 1 31 := ⟨by decide +kernel, rfl⟩
theorem dX11_canCome_31 : ml_d cX11_canCome 31 (.getfield 35) 3 34 := ⟨by decide +kernel, rfl⟩
theorem dX11_canCome_34 : ml_d cX11_canCome 34 (.iconst 2) 1 35 := ⟨by decide +kernel, rfl⟩
theorem dX11_canCome_35 : ml_d cX11_canCome 35 (.iload 4) 2 37 := ⟨by decide +kernel, rfl⟩
theorem dX11_canCome_37 : ml_d cX11_canCome 37 (.imul) 1 38 := ⟨by decide +kernel, rfl⟩
theorem dX11_canCome_38 : ml_d cX11_canCome 38 (.iconst 1) 1 39 := ⟨by decide +kernel, rfl⟩
theorem dX11_canCome_39 : ml_d cX11_canCome 39 (.iadd) 1 40 := ⟨by decide +kernel, rfl⟩
theorem dX11_canCome_40 : ml_d cX11_canCome 40 (.iaload) 1 41 := ⟨by decide +kernel, rfl⟩
theorem dX11_canCome_41 : ml_d cX11_canCome 41 (.iload_n 1) 1 42 := ⟨by decide +kernel, rfl⟩
theorem dX11_canCome_42 : ml_j cX11_canCome 42 (.if_icmp .ne) 61 45 := ⟨19, by decide +kernel, by decide, rfl⟩
theorem dX11_canCome_45 : ml_d cX11_canCome 45 (.iload_n 2) 1 46 := ⟨by decide +kernel, rfl⟩
theorem dX11_canCome_46 : ml_d cX11_canCome 46 (.aload_n 0) 1 47 := ⟨by decide +kernel, rfl⟩
theorem dX11_canCome_47 : ml_d cX11_canCome 47 (.getfield 35) 3 50 := ⟨by decide +kernel, rfl⟩
theorem dX11_canCome_50 : ml_d cX11_canCome 50 (.iconst 2) 1 51 := ⟨by decide +kernel, rfl⟩
theorem dX11_canCome_51 : ml_d cX11_canCome 51 (.iload 4) 2 53 := ⟨by decide +kernel, rfl⟩
theorem dX11_canCome_53 : ml_d cX11_canCome 53 (.imul) 1 54 := ⟨by decide +kernel, rfl⟩
theorem dX11_canCome_54 : ml_d cX11_canCome 54 (.iaload) 1 55 := ⟨by decide +kernel, rfl⟩
theorem dX11_canCome_55 : ml_d cX11_canCome 55 (.invokestatic 260) 3 58 := ⟨by decide +kernel, rfl⟩
theorem dX11_canCome_58 : ml_j cX11_canCome 58 (.ifCond .eq) 65 61 := ⟨7, by decide +kernel, by decide, rfl⟩
theorem dX11_canCome_61 : ml_d cX11_canCome 61 (.iconst 1) 1 62 := ⟨by decide +kernel, rfl⟩
theorem dX11_canCome_62 : ml_j cX11_canCome 62 .goto 66 65 := ⟨4, by decide +kernel, by decide, rfl⟩
theorem dX11_canCome_65 : ml_d cX11_canCome 65 (.iconst 0) 1 66 := ⟨by decide +kernel, rfl⟩
theorem dX11_canCome_66 : ml_d cX11_canCome 66 (.istore_n 3) 1 67 := ⟨by decide +kernel, rfl⟩
theorem dX11_canCome_67 : ml_d cX11_canCome 67 (.iinc 4 1) 3 70 := ⟨by decide +kernel, rfl⟩
theorem dX11_canCome_70 : ml_j cX11_canCome 70 .goto 17 73 := ⟨(-53), by decide +kernel, by decide, rfl⟩
theorem dX11_canCome_73 : ml_d cX11_canCome 73 (.iload_n 3) 1 74 := ⟨by decide +kernel, rfl⟩
theorem dX11_canCome_74 : ml_d cX11_canCome 74 (.ireturn) 1 75 := ⟨by decide +kernel, rfl⟩
def fX11_canCome_66 (k17 : Nat → Int32 → Int32 → Int32 → Int32 → ml_M → Option Int32) (l0 : Nat) (l1 : Int32) (l2 : Int32) (l4 : Int32) (t0 : Int32) (m : ml_M) : Option Int32 :=
    k17 l0 l1 l2 t0 (l4 + (1 : Int32)) m
theorem vX11_canCome_66 {E : ml_E} (hL : ml_eL E = 5) {rv : Int32} {m : ml_M} (hr : ∀ (pc pc' : Nat) (lv : List (Nat × ml_X)), ml_d cX11_canCome pc .ireturn 1 pc' → (rv = 0 ∨ rv = 1) → ml_V E "LostRoomModel" cX11_canCome 3 false m pc lv [ml_i rv]) {k17 : Nat → Int32 → Int32 → Int32 → Int32 → ml_M → Option Int32} (hk17 : ∀ (l0 : Nat) (l1 : Int32) (l2 : Int32) (l3 : Int32) (l4 : Int32), k17 l0 l1 l2 l3 l4 m = some rv → ml_V E "LostRoomModel" cX11_canCome 3 false m 17 [(0, ml_r l0), (1, ml_i l1), (2, ml_i l2), (3, ml_i l3), (4, ml_i l4)] []) : ∀ (l0 : Nat) (l1 : Int32) (l2 : Int32) (l4 : Int32) (t0 : Int32), fX11_canCome_66 k17 l0 l1 l2 l4 t0 m = some rv → ml_V E "LostRoomModel" cX11_canCome 3 false m 66 [(0, ml_r l0), (1, ml_i l1), (2, ml_i l2), (4, ml_i l4)] [ml_i t0] := by
  intro l0 l1 l2 l4 t0 h
  unfold fX11_canCome_66 at h
  exact ml_istore_n (lv' := [(3, ml_i t0), (0, ml_r l0), (1, ml_i l1), (2, ml_i l2), (4, ml_i l4)]) dX11_canCome_66 (ml_hn hL rfl) rfl <| ml_iinc (lv' := [(4, ml_i (l4 + (1 : Int32))), (3, ml_i t0), (0, ml_r l0), (1, ml_i l1), (2, ml_i l2)]) dX11_canCome_67 4 rfl (congrArg (l4 + ·) kc_i1) (ml_hn hL rfl) rfl <| ml_goto dX11_canCome_70 <| ml_V.sub [2, 3, 4, 1, 0] rfl (hk17 _ _ _ _ _ h)
def fX11_canCome_61 (k17 : Nat → Int32 → Int32 → Int32 → Int32 → ml_M → Option Int32) (l0 : Nat) (l1 : Int32) (l2 : Int32) (l4 : Int32) (m : ml_M) : Option Int32 :=
    fX11_canCome_66 k17 l0 l1 l2 l4 (1 : Int32) m
theorem vX11_canCome_61 {E : ml_E} (hL : ml_eL E = 5) {rv : Int32} {m : ml_M} (hr : ∀ (pc pc' : Nat) (lv : List (Nat × ml_X)), ml_d cX11_canCome pc .ireturn 1 pc' → (rv = 0 ∨ rv = 1) → ml_V E "LostRoomModel" cX11_canCome 3 false m pc lv [ml_i rv]) {k17 : Nat → Int32 → Int32 → Int32 → Int32 → ml_M → Option Int32} (hk17 : ∀ (l0 : Nat) (l1 : Int32) (l2 : Int32) (l3 : Int32) (l4 : Int32), k17 l0 l1 l2 l3 l4 m = some rv → ml_V E "LostRoomModel" cX11_canCome 3 false m 17 [(0, ml_r l0), (1, ml_i l1), (2, ml_i l2), (3, ml_i l3), (4, ml_i l4)] []) : ∀ (l0 : Nat) (l1 : Int32) (l2 : Int32) (l4 : Int32), fX11_canCome_61 k17 l0 l1 l2 l4 m = some rv → ml_V E "LostRoomModel" cX11_canCome 3 false m 61 [(0, ml_r l0), (1, ml_i l1), (2, ml_i l2), (4, ml_i l4)] [] := by
  intro l0 l1 l2 l4 h
  unfold fX11_canCome_61 at h
  exact ml_iconst dX11_canCome_61 kc_i1 <| ml_goto dX11_canCome_62 <| ml_V.sub [0, 1, 2, 3] rfl (vX11_canCome_66 hL hr hk17 _ _ _ _ _ h)
def fX11_canCome_65 (k17 : Nat → Int32 → Int32 → Int32 → Int32 → ml_M → Option Int32) (l0 : Nat) (l1 : Int32) (l2 : Int32) (l4 : Int32) (m : ml_M) : Option Int32 :=
    fX11_canCome_66 k17 l0 l1 l2 l4 (0 : Int32) m
theorem vX11_canCome_65 {E : ml_E} (hL : ml_eL E = 5) {rv : Int32} {m : ml_M} (hr : ∀ (pc pc' : Nat) (lv : List (Nat × ml_X)), ml_d cX11_canCome pc .ireturn 1 pc' → (rv = 0 ∨ rv = 1) → ml_V E "LostRoomModel" cX11_canCome 3 false m pc lv [ml_i rv]) {k17 : Nat → Int32 → Int32 → Int32 → Int32 → ml_M → Option Int32} (hk17 : ∀ (l0 : Nat) (l1 : Int32) (l2 : Int32) (l3 : Int32) (l4 : Int32), k17 l0 l1 l2 l3 l4 m = some rv → ml_V E "LostRoomModel" cX11_canCome 3 false m 17 [(0, ml_r l0), (1, ml_i l1), (2, ml_i l2), (3, ml_i l3), (4, ml_i l4)] []) : ∀ (l0 : Nat) (l1 : Int32) (l2 : Int32) (l4 : Int32), fX11_canCome_65 k17 l0 l1 l2 l4 m = some rv → ml_V E "LostRoomModel" cX11_canCome 3 false m 65 [(0, ml_r l0), (1, ml_i l1), (2, ml_i l2), (4, ml_i l4)] [] := by
  intro l0 l1 l2 l4 h
  unfold fX11_canCome_65 at h
  exact ml_iconst dX11_canCome_65 kc_i0 <| ml_V.sub [0, 1, 2, 3] rfl (vX11_canCome_66 hL hr hk17 _ _ _ _ _ h)
def fX11_canCome_17 : Nat → Nat → Int32 → Int32 → Int32 → Int32 → ml_M → Option Int32
  | 0, _, _, _, _, _, _ => none
  | fu + 1, l0, l1, l2, l3, l4, m =>
    if (ml_K m l0).1 = 11 then
    if (ml_I m l0 11) ≤ l4 then
    if l3 = 0 ∨ l3 = 1 then some l3 else none
    else
    if l3 = 0 then
    fX11_canCome_65 (fX11_canCome_17 fu) l0 l1 l2 l4 m
    else
    ml_let (ml_R m l0 14) fun a2112 =>
    if ml_in m a2112 20 (((2 : Int32) * l4) + (1 : Int32)) then
    if (ml_I m a2112 (((2 : Int32) * l4) + (1 : Int32)).toNatClampNeg) = l1 then
    ml_let (ml_R m l0 14) fun a2114 =>
    if ml_in m a2114 20 ((2 : Int32) * l4) then
    ml_b1 (fX11_has l2 (ml_I m a2114 ((2 : Int32) * l4).toNatClampNeg) m) fun r2117 =>
    if r2117 = 0 then
    fX11_canCome_65 (fX11_canCome_17 fu) l0 l1 l2 l4 m
    else
    fX11_canCome_61 (fX11_canCome_17 fu) l0 l1 l2 l4 m
    else none
    else
    fX11_canCome_61 (fX11_canCome_17 fu) l0 l1 l2 l4 m
    else none
    else none
theorem vX11_canCome_17 {E : ml_E} (hL : ml_eL E = 5) {rv : Int32} {m : ml_M} (hr : ∀ (pc pc' : Nat) (lv : List (Nat × ml_X)), ml_d cX11_canCome pc .ireturn 1 pc' → (rv = 0 ∨ rv = 1) → ml_V E "LostRoomModel" cX11_canCome 3 false m pc lv [ml_i rv]) : ∀ (fu : Nat) (l0 : Nat) (l1 : Int32) (l2 : Int32) (l3 : Int32) (l4 : Int32), fX11_canCome_17 fu l0 l1 l2 l3 l4 m = some rv → ml_V E "LostRoomModel" cX11_canCome 3 false m 17 [(0, ml_r l0), (1, ml_i l1), (2, ml_i l2), (3, ml_i l3), (4, ml_i l4)] [] := by
  intro fu
  induction fu with
  | zero => intro l0 l1 l2 l3 l4 h; exact ml_none h
  | succ fu ih =>
    intro l0 l1 l2 l3 l4 h
    have hk17 := ih
    unfold fX11_canCome_17 at h
    exact ml_iload dX11_canCome_17 4 rfl <| ml_aload_n dX11_canCome_19 0 rfl <| ml_ck_of h fun hc2110 h => ml_getI dX11_canCome_20 wb_231 hc2110 <| ml_icmp_ge dX11_canCome_23 h (fun _ h => ml_iload_n dX11_canCome_73 3 rfl <| ml_ck_of h fun hz2111 h => ml_rp (mk := ml_i) hr dX11_canCome_74 (fun e => e ▸ hz2111) h) (fun _ h => ml_iload_n dX11_canCome_26 3 rfl <| ml_if_eq dX11_canCome_27 h (fun _ h => ml_V.sub [0, 1, 2, 4] rfl (vX11_canCome_65 hL hr hk17 _ _ _ _ h)) (fun _ h => ml_aload_n dX11_canCome_30 0 rfl <| ml_getR dX11_canCome_31 wb_191 hc2110 <| ml_lx (mk := ml_r) h fun a2112 h => ml_iconst dX11_canCome_34 kc_i2 <| ml_iload dX11_canCome_35 4 rfl <| ml_imul dX11_canCome_37 <| ml_iconst dX11_canCome_38 kc_i1 <| ml_iadd dX11_canCome_39 <| ml_ck_of h fun hi2113 h => ml_iald dX11_canCome_40 hi2113 <| ml_iload_n dX11_canCome_41 1 rfl <| ml_icmp_ne dX11_canCome_42 h (fun _ h => ml_V.sub [0, 1, 2, 4] rfl (vX11_canCome_61 hL hr hk17 _ _ _ _ h)) (fun _ h => ml_iload_n dX11_canCome_45 2 rfl <| ml_aload_n dX11_canCome_46 0 rfl <| ml_getR dX11_canCome_47 wb_191 hc2110 <| ml_lx (mk := ml_r) h fun a2114 h => ml_iconst dX11_canCome_50 kc_i2 <| ml_iload dX11_canCome_51 4 rfl <| ml_imul dX11_canCome_53 <| ml_ck_of h fun hi2115 h => ml_iald dX11_canCome_54 hi2115 <| ml_b1_of h fun r2117 hv2116 h => ml_callS dX11_canCome_55 wm_492 wb_300 (sX11_has hv2116) rfl (Nat.le_of_ble_eq_true rfl) (Nat.le_of_ble_eq_true rfl) rfl <| ml_if_eq dX11_canCome_58 h (fun _ h => ml_V.sub [0, 1, 2, 4] rfl (vX11_canCome_65 hL hr hk17 _ _ _ _ h)) (fun _ h => ml_V.sub [0, 1, 2, 4] rfl (vX11_canCome_61 hL hr hk17 _ _ _ _ h)))))
def fX11_canCome_13 (l0 : Nat) (l1 : Int32) (l2 : Int32) (t0 : Int32) (m : ml_M) : Option Int32 :=
    fX11_canCome_17 ml_fu l0 l1 l2 t0 (0 : Int32) m
theorem vX11_canCome_13 {E : ml_E} (hL : ml_eL E = 5) {rv : Int32} {m : ml_M} (hr : ∀ (pc pc' : Nat) (lv : List (Nat × ml_X)), ml_d cX11_canCome pc .ireturn 1 pc' → (rv = 0 ∨ rv = 1) → ml_V E "LostRoomModel" cX11_canCome 3 false m pc lv [ml_i rv]) : ∀ (l0 : Nat) (l1 : Int32) (l2 : Int32) (t0 : Int32), fX11_canCome_13 l0 l1 l2 t0 m = some rv → ml_V E "LostRoomModel" cX11_canCome 3 false m 13 [(0, ml_r l0), (1, ml_i l1), (2, ml_i l2)] [ml_i t0] := by
  intro l0 l1 l2 t0 h
  unfold fX11_canCome_13 at h
  exact ml_istore_n (lv' := [(3, ml_i t0), (0, ml_r l0), (1, ml_i l1), (2, ml_i l2)]) dX11_canCome_13 (ml_hn hL rfl) rfl <| ml_iconst dX11_canCome_14 kc_i0 <| ml_istore (lv' := [(4, ml_i (0 : Int32)), (3, ml_i t0), (0, ml_r l0), (1, ml_i l1), (2, ml_i l2)]) dX11_canCome_15 (ml_hn hL rfl) rfl <| ml_V.sub [2, 3, 4, 1, 0] rfl (vX11_canCome_17 hL hr  ml_fu _ _ _ _ _ h)
def fX11_canCome (l0 : Nat) (l1 : Int32) (l2 : Int32) (m : ml_M) : Option Int32 :=
    ml_b1 (fX11_has l2 l1 m) fun r2119 =>
    if r2119 = 0 then
    fX11_canCome_13 l0 l1 l2 (1 : Int32) m
    else
    fX11_canCome_13 l0 l1 l2 (0 : Int32) m
theorem wX11_canCome_0 {E : ml_E} (hL : ml_eL E = 5) {rv : Int32} {m : ml_M} (hr : ∀ (pc pc' : Nat) (lv : List (Nat × ml_X)), ml_d cX11_canCome pc .ireturn 1 pc' → (rv = 0 ∨ rv = 1) → ml_V E "LostRoomModel" cX11_canCome 3 false m pc lv [ml_i rv]) : ∀ (l0 : Nat) (l1 : Int32) (l2 : Int32), fX11_canCome l0 l1 l2 m = some rv → ml_V E "LostRoomModel" cX11_canCome 3 false m 0 [(0, ml_r l0), (1, ml_i l1), (2, ml_i l2)] [] := by
  intro l0 l1 l2 h
  unfold fX11_canCome at h
  exact ml_iload_n dX11_canCome_0 2 rfl <| ml_iload_n dX11_canCome_1 1 rfl <| ml_b1_of h fun r2119 hv2118 h => ml_callS dX11_canCome_2 wm_492 wb_300 (sX11_has hv2118) rfl (Nat.le_of_ble_eq_true rfl) (Nat.le_of_ble_eq_true rfl) rfl <| ml_if_ne dX11_canCome_5 h (fun _ h => ml_iconst dX11_canCome_12 kc_i0 <| ml_V.sub [0, 1, 2] rfl (vX11_canCome_13 hL hr  _ _ _ _ h)) (fun _ h => ml_iconst dX11_canCome_8 kc_i1 <| ml_goto dX11_canCome_9 <| ml_V.sub [0, 1, 2] rfl (vX11_canCome_13 hL hr  _ _ _ _ h))
theorem sX11_canCome {l0 : Nat} {l1 : Int32} {l2 : Int32} {m : ml_M} {rv : Int32} (h : fX11_canCome l0 l1 l2 m = some rv) : ml_Sn yX11_canCome cX11_canCome 5 (some .boolean) 3 [ml_r l0, ml_i l1, ml_i l2] m (some (ml_i rv)) m :=
  ml_Sn_of (P := (rv = 0 ∨ rv = 1)) (ini := false) (by decide +kernel) (Nat.le_of_ble_eq_true rfl) (fun h => by cases h) (fun hz => ml_RkZ rv hz) fun E hL hr => wX11_canCome_0 hL hr _ _ _ h

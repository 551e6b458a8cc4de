/-! printed by wip/p51/emit.py out of the claim's own listing -/
theorem dX3_findAhead_0 : ml_d cX3_findAhead 0 (.iconst 0) 1 1 := ⟨by decide +kernel, rfl⟩
theorem dX3_findAhead_1 : ml_d cX3_findAhead 1 (.istore_n 1) 1 2 := ⟨by decide +kernel, rfl⟩
theorem dX3_findAhead_2 : ml_d cX3_findAhead 2 (.iload_n 1) 1 3 := ⟨by decide +kernel, rfl⟩
theorem dX3_findAhead_3 : ml_d cX3_findAhead 3 (.aload_n 0) 1 4 := ⟨by decide +kernel, rfl⟩
theorem dX3_findAhead_4 : ml_d cX3_findAhead 4 (.getfield 44) 3 7 := ⟨by decide +kernel, rfl⟩
theorem dX3_findAhead_7 : ml_j cX3_findAhead 7 (.if_icmp .ge) 78 10 := ⟨71, by decide +kernel, by decide, rfl⟩
theorem dX3_findAhead_10 : ml_d cX3_findAhead 10 (.aload_n 0) 1 11 := ⟨by decide +kernel, rfl⟩
theorem dX3_findAhead_11 : ml_d cX3_findAhead 11 (.getfield 17) 3 14 := ⟨by decide +kernel, rfl⟩
theorem dX3_findAhead_14 : ml_d cX3_findAhead 14 (.iload_n 1) 1 15 := ⟨by decide +kernel, rfl⟩
theorem dX3_findAhead_15 : ml_d cX3_findAhead 15 (.iconst 0) 1 16 := ⟨by decide +kernel, rfl⟩
theorem dX3_findAhead_16 : ml_d cX3_findAhead 16 (.iastore) 1 17 := ⟨by decide +kernel, rfl⟩
theorem dX3_findAhead_17 : ml_d cX3_findAhead 17 (.iconst 0) 1 18 := ⟨by decide +kernel, rfl⟩
theorem dX3_findAhead_18 : ml_d cX3_findAhead 18 (.istore_n 2) 1 19 := ⟨by decide +kernel, rfl⟩
theorem dX3_findAhead_19 : ml_d cX3_findAhead 19 (.iload_n 2) 1 20 := ⟨by decide +kernel, rfl⟩
theorem dX3_findAhead_20 : ml_d cX3_findAhead 20 (.aload_n 0) 1 21 := ⟨by decide +kernel, rfl⟩
theorem dX3_findAhead_21 : ml_d cX3_findAhead 21 (.getfield 44) 3 24 := ⟨by decide +kernel, rfl⟩
theorem dX3_findAhead_24 : ml_j cX3_findAhead 24 (.if_icmp .ge) 72 27 := ⟨48, by decide +kernel, by decide, rfl⟩
theorem dX3_findAhead_27 : ml_d cX3_findAhead 27 (.aload_n 0) 1 28 := ⟨by decide +kernel, rfl⟩
theorem dX3_findAhead_28 : ml_d cX3_findAhead 28 (.getfield 11) 3 31 := ⟨by decide +kernel, rfl⟩
theorem dX3_findAhead_31 : ml_d cX3_findAhead 31 (.iload_n 2) 1 32 := ⟨by decide +kernel, rfl⟩
theorem dX3_findAhead_32 : ml_d cX3_findAhead 32 (.aaload) 1 33 := ⟨by decide +kernel, rfl⟩
theorem dX3_findAhead_33 : ml_d cX3_findAhead 33 (.getfield 62) 3 36 := ⟨by decide +kernel, rfl⟩
theorem dX3_findAhead_36 : ml_d cX3_findAhead 36 (.bipush 10) 2 38 := ⟨by decide +kernel, rfl⟩
theorem dX3_findAhead_38 : ml_d cX3_findAhead 38 (.irem) 1 39 := ⟨by decide +kernel, rfl⟩
theorem dX3_findAhead_39 : ml_d cX3_findAhead 39 (.aload_n 0) 1 40 := ⟨by decide +kernel, rfl⟩
theorem dX3_findAhead_40 : ml_d cX3_findAhead 40 (.getfield 11) 3 43 := ⟨by decide +kernel, rfl⟩
theorem dX3_findAhead_43 : ml_d cX3_findAhead 43 (.iload_n 1) 1 44 := ⟨by decide +kernel, rfl⟩
theorem dX3_findAhead_44 : ml_d cX3_findAhead 44 (.aaload) 1 45 := ⟨by decide +kernel, rfl⟩
theorem dX3_findAhead_45 : ml_d cX3_findAhead 45 (.getfield 62) 3 48 := ⟨by decide +kernel, rfl⟩
theorem dX3_findAhead_48 : ml_d cX3_findAhead 48 (.bipush 10) 2 50 := ⟨by decide +kernel, rfl⟩
theorem dX3_findAhead_50 : ml_d cX3_findAhead 50 (.idiv) 1 51 := ⟨by decide +kernel, rfl⟩
theorem dX3_findAhead_51 : ml_j cX3_findAhead 51 (.if_icmp .ne) 66 54 := ⟨15, by decide +kernel, by decide, rfl⟩
theorem dX3_findAhead_54 : ml_d cX3_findAhead 54 (.aload_n 0) 1 55 := ⟨by decide +kernel, rfl⟩
theorem dX3_findAhead_55 : ml_d cX3_findAhead 55 (.getfield 17) 3 58 := ⟨by decide +kernel, rfl⟩
theorem dX3_findAhead_58 : ml_d cX3_findAhead 58 (.iload_n 1) 1 59 := ⟨by decide +kernel, rfl⟩
theorem dX3_findAhead_59 : ml_d cX3_findAhead 59 (.dup2) 1 60 := ⟨by decide +kernel, rfl⟩
theorem dX3_findAhead_60 : ml_d cX3_findAhead 60 (.iaload) 1 61 := ⟨by decide +kernel, rfl⟩
theorem dX3_findAhead_61 : ml_d cX3_findAhead 61 (.iconst 1) 1 62 := ⟨by decide +kernel, rfl⟩
theorem dX3_findAhead_62 : ml_d cX3_findAhead 62 (.iload_n 2) 1 63 := ⟨by decide +kernel, rfl⟩
theorem dX3_findAhead_63 : ml_d cX3_findAhead 63 (.ishl) 1 64 := ⟨by decide +kernel, rfl⟩
theorem dX3_findAhead_64 : ml_d cX3_findAhead 64 (.ior) 1 65 := ⟨by decide +kernel, rfl⟩
theorem dX3_findAhead_65 : ml_d cX3_findAhead 65 (.iastore) 1 66 := ⟨by decide +kernel, rfl⟩
theorem dX3_findAhead_66 : ml_d cX3_findAhead 66 (.iinc 2 1) 3 69 := ⟨by decide +kernel, rfl⟩
theorem dX3_findAhead_69 : ml_j cX3_findAhead 69 .goto 19 72 := ⟨(-50), by decide +kernel, by decide, rfl⟩
theorem dX3_findAhead_72 : ml_d cX3_findAhead 72 (.iinc 1 1) 3 75 := ⟨by decide +kernel, rfl⟩
theorem dX3_findAhead_75 : ml_j cX3_findAhead 75 .goto 2 78 := ⟨(-73), by decide +kernel, by decide, rfl⟩
theorem dX3_findAhead_78 : ml_d cX3_findAhead 78 (.return_) 1 79 := ⟨by decide +kernel, rfl⟩
def fX3_findAhead_66 (k2 : Nat → Int32 → ml_M → Option ml_M) (k19 : Nat → Int32 → Int32 → ml_M → Option ml_M) (l0 : Nat) (l1 : Int32) (l2 : Int32) (m : ml_M) : Option ml_M :=
    k19 l0 l1 (l2 + (1 : Int32)) m
theorem vX3_findAhead_66 {E : ml_E} (hL : ml_eL E = 3) {rm : ml_M} (hr : ∀ (pc pc' : Nat) (lv : List (Nat × ml_X)), ml_d cX3_findAhead pc .return_ 1 pc' → True → ml_V E "LostRoom$Journeys" cX3_findAhead 2 false rm pc lv []) {k2 : Nat → Int32 → ml_M → Option ml_M} (hk2 : ∀ (l0 : Nat) (l1 : Int32) (m : ml_M), k2 l0 l1 m = some rm → ml_V E "LostRoom$Journeys" cX3_findAhead 2 false m 2 [(0, ml_r l0), (1, ml_i l1)] []) {k19 : Nat → Int32 → Int32 → ml_M → Option ml_M} (hk19 : ∀ (l0 : Nat) (l1 : Int32) (l2 : Int32) (m : ml_M), k19 l0 l1 l2 m = some rm → ml_V E "LostRoom$Journeys" cX3_findAhead 2 false m 19 [(0, ml_r l0), (1, ml_i l1), (2, ml_i l2)] []) : ∀ (l0 : Nat) (l1 : Int32) (l2 : Int32) (m : ml_M), fX3_findAhead_66 k2 k19 l0 l1 l2 m = some rm → ml_V E "LostRoom$Journeys" cX3_findAhead 2 false m 66 [(0, ml_r l0), (1, ml_i l1), (2, ml_i l2)] [] := by
  intro l0 l1 l2 m h
  unfold fX3_findAhead_66 at h
  exact ml_iinc (lv' := [(2, ml_i (l2 + (1 : Int32))), (0, ml_r l0), (1, ml_i l1)]) dX3_findAhead_66 2 rfl (congrArg (l2 + ·) kc_i1) (ml_hn hL rfl) rfl <| ml_goto dX3_findAhead_69 <| ml_V.sub [1, 2, 0] rfl (hk19 _ _ _ _ h)
def fX3_findAhead_72 (k2 : Nat → Int32 → ml_M → Option ml_M) (l0 : Nat) (l1 : Int32) (m : ml_M) : Option ml_M :=
    k2 l0 (l1 + (1 : Int32)) m
theorem vX3_findAhead_72 {E : ml_E} (hL : ml_eL E = 3) {rm : ml_M} (hr : ∀ (pc pc' : Nat) (lv : List (Nat × ml_X)), ml_d cX3_findAhead pc .return_ 1 pc' → True → ml_V E "LostRoom$Journeys" cX3_findAhead 2 false rm pc lv []) {k2 : Nat → Int32 → ml_M → Option ml_M} (hk2 : ∀ (l0 : Nat) (l1 : Int32) (m : ml_M), k2 l0 l1 m = some rm → ml_V E "LostRoom$Journeys" cX3_findAhead 2 false m 2 [(0, ml_r l0), (1, ml_i l1)] []) : ∀ (l0 : Nat) (l1 : Int32) (m : ml_M), fX3_findAhead_72 k2 l0 l1 m = some rm → ml_V E "LostRoom$Journeys" cX3_findAhead 2 false m 72 [(0, ml_r l0), (1, ml_i l1)] [] := by
  intro l0 l1 m h
  unfold fX3_findAhead_72 at h
  exact ml_iinc (lv' := [(1, ml_i (l1 + (1 : Int32))), (0, ml_r l0)]) dX3_findAhead_72 1 rfl (congrArg (l1 + ·) kc_i1) (ml_hn hL rfl) rfl <| ml_goto dX3_findAhead_75 <| ml_V.sub [1, 0] rfl (hk2 _ _ _ h)
def fX3_findAhead_19 (k2 : Nat → Int32 → ml_M → Option ml_M) : Nat → Nat → Int32 → Int32 → ml_M → Option ml_M
  | 0, _, _, _, _ => none
  | fu + 1, l0, l1, l2, m =>
    if (ml_K m l0).1 = 3 then
    if (ml_I m l0 1) ≤ l2 then
    fX3_findAhead_72 k2 l0 l1 m
    else
    ml_let (ml_R m l0 0) fun a1281 =>
    if ml_in m a1281 29 l2 then
    ml_let (ml_R m a1281 l2.toNatClampNeg) fun a1283 =>
    if (ml_K m a1283).1 = 8 then
    ml_let (ml_R m l0 0) fun a1285 =>
    if ml_in m a1285 29 l1 then
    ml_let (ml_R m a1285 l1.toNatClampNeg) fun a1287 =>
    if (ml_K m a1287).1 = 8 then
    if ((ml_I m a1283 3) - (ml_I m a1283 3) / (10 : Int32) * (10 : Int32)) = ((ml_I m a1287 3) / (10 : Int32)) then
    ml_let (ml_R m l0 2) fun a1289 =>
    if ml_in m a1289 20 l1 then
    if ml_in m a1289 20 l1 then
    ml_let (ml_sI m a1289 l1.toNatClampNeg ((ml_I m a1289 l1.toNatClampNeg) ||| ((1 : Int32) <<< (l2 &&& 31)))) fun m1292 =>
    fX3_findAhead_66 k2 (fX3_findAhead_19 k2 fu) l0 l1 l2 m1292
    else none
    else none
    else
    fX3_findAhead_66 k2 (fX3_findAhead_19 k2 fu) l0 l1 l2 m
    else none
    else none
    else none
    else none
    else none
theorem vX3_findAhead_19 {E : ml_E} (hL : ml_eL E = 3) {rm : ml_M} (hr : ∀ (pc pc' : Nat) (lv : List (Nat × ml_X)), ml_d cX3_findAhead pc .return_ 1 pc' → True → ml_V E "LostRoom$Journeys" cX3_findAhead 2 false rm pc lv []) {k2 : Nat → Int32 → ml_M → Option ml_M} (hk2 : ∀ (l0 : Nat) (l1 : Int32) (m : ml_M), k2 l0 l1 m = some rm → ml_V E "LostRoom$Journeys" cX3_findAhead 2 false m 2 [(0, ml_r l0), (1, ml_i l1)] []) : ∀ (fu : Nat) (l0 : Nat) (l1 : Int32) (l2 : Int32) (m : ml_M), fX3_findAhead_19 k2 fu l0 l1 l2 m = some rm → ml_V E "LostRoom$Journeys" cX3_findAhead 2 false m 19 [(0, ml_r l0), (1, ml_i l1), (2, ml_i l2)] [] := by
  intro fu
  induction fu with
  | zero => intro l0 l1 l2 m h; exact ml_none h
  | succ fu ih =>
    intro l0 l1 l2 m h
    have hk19 := ih
    unfold fX3_findAhead_19 at h
    exact ml_iload_n dX3_findAhead_19 2 rfl <| ml_aload_n dX3_findAhead_20 0 rfl <| ml_ck_of h fun hc1280 h => ml_getI dX3_findAhead_21 wb_238 hc1280 <| ml_icmp_ge dX3_findAhead_24 h (fun _ h => ml_V.sub [0, 1] rfl (vX3_findAhead_72 hL hr hk2 _ _ _ h)) (fun _ h => ml_aload_n dX3_findAhead_27 0 rfl <| ml_getR dX3_findAhead_28 wb_237 hc1280 <| ml_lx (mk := ml_r) h fun a1281 h => ml_iload_n dX3_findAhead_31 2 rfl <| ml_ck_of h fun hi1282 h => ml_aald (kd := 29) dX3_findAhead_32 (by decide) hi1282 <| ml_lx (mk := ml_r) h fun a1283 h => ml_ck_of h fun hc1284 h => ml_getI dX3_findAhead_33 wb_239 hc1284 <| ml_bipush dX3_findAhead_36 kc_b10 <| ml_irem dX3_findAhead_38 (by decide) <| ml_aload_n dX3_findAhead_39 0 rfl <| ml_getR dX3_findAhead_40 wb_237 hc1280 <| ml_lx (mk := ml_r) h fun a1285 h => ml_iload_n dX3_findAhead_43 1 rfl <| ml_ck_of h fun hi1286 h => ml_aald (kd := 29) dX3_findAhead_44 (by decide) hi1286 <| ml_lx (mk := ml_r) h fun a1287 h => ml_ck_of h fun hc1288 h => ml_getI dX3_findAhead_45 wb_239 hc1288 <| ml_bipush dX3_findAhead_48 kc_b10 <| ml_idiv dX3_findAhead_50 (by decide) <| ml_icmp_ne dX3_findAhead_51 h (fun _ h => ml_V.sub [0, 1, 2] rfl (vX3_findAhead_66 hL hr hk2 hk19 _ _ _ _ h)) (fun _ h => ml_aload_n dX3_findAhead_54 0 rfl <| ml_getR dX3_findAhead_55 wb_240 hc1280 <| ml_lx (mk := ml_r) h fun a1289 h => ml_iload_n dX3_findAhead_58 1 rfl <| ml_dup2 dX3_findAhead_59 rfl rfl <| ml_ck_of h fun hi1290 h => ml_iald dX3_findAhead_60 hi1290 <| ml_iconst dX3_findAhead_61 kc_i1 <| ml_iload_n dX3_findAhead_62 2 rfl <| ml_ishl dX3_findAhead_63 <| ml_ior dX3_findAhead_64 <| ml_ck_of h fun hi1291 h => ml_iast dX3_findAhead_65 hi1291 <| ml_lt (m := m) rfl h fun m1292 em1293 h => ml_V.sub [0, 1, 2] rfl (vX3_findAhead_66 hL hr hk2 hk19 _ _ _ _ h)))
def fX3_findAhead_2 : Nat → Nat → Int32 → ml_M → Option ml_M
  | 0, _, _, _ => none
  | fu + 1, l0, l1, m =>
    if (ml_K m l0).1 = 3 then
    if (ml_I m l0 1) ≤ l1 then
    some m
    else
    ml_let (ml_R m l0 2) fun a1295 =>
    if ml_in m a1295 20 l1 then
    ml_let (ml_sI m a1295 l1.toNatClampNeg (0 : Int32)) fun m1297 =>
    fX3_findAhead_19 (fX3_findAhead_2 fu) ml_fu l0 l1 (0 : Int32) m1297
    else none
    else none
theorem vX3_findAhead_2 {E : ml_E} (hL : ml_eL E = 3) {rm : ml_M} (hr : ∀ (pc pc' : Nat) (lv : List (Nat × ml_X)), ml_d cX3_findAhead pc .return_ 1 pc' → True → ml_V E "LostRoom$Journeys" cX3_findAhead 2 false rm pc lv []) : ∀ (fu : Nat) (l0 : Nat) (l1 : Int32) (m : ml_M), fX3_findAhead_2 fu l0 l1 m = some rm → ml_V E "LostRoom$Journeys" cX3_findAhead 2 false m 2 [(0, ml_r l0), (1, ml_i l1)] [] := by
  intro fu
  induction fu with
  | zero => intro l0 l1 m h; exact ml_none h
  | succ fu ih =>
    intro l0 l1 m h
    have hk2 := ih
    unfold fX3_findAhead_2 at h
    exact ml_iload_n dX3_findAhead_2 1 rfl <| ml_aload_n dX3_findAhead_3 0 rfl <| ml_ck_of h fun hc1294 h => ml_getI dX3_findAhead_4 wb_238 hc1294 <| ml_icmp_ge dX3_findAhead_7 h (fun _ h => ml_rv hr dX3_findAhead_78 trivial h) (fun _ h => ml_aload_n dX3_findAhead_10 0 rfl <| ml_getR dX3_findAhead_11 wb_240 hc1294 <| ml_lx (mk := ml_r) h fun a1295 h => ml_iload_n dX3_findAhead_14 1 rfl <| ml_iconst dX3_findAhead_15 kc_i0 <| ml_ck_of h fun hi1296 h => ml_iast dX3_findAhead_16 hi1296 <| ml_lt (m := m) rfl h fun m1297 em1298 h => ml_iconst dX3_findAhead_17 kc_i0 <| ml_istore_n (lv' := [(2, ml_i (0 : Int32)), (0, ml_r l0), (1, ml_i l1)]) dX3_findAhead_18 (ml_hn hL rfl) rfl <| ml_V.sub [1, 2, 0] rfl (vX3_findAhead_19 hL hr hk2 ml_fu _ _ _ _ h))
def fX3_findAhead (l0 : Nat) (m : ml_M) : Option ml_M :=
    fX3_findAhead_2 ml_fu l0 (0 : Int32) m
theorem wX3_findAhead_0 {E : ml_E} (hL : ml_eL E = 3) {rm : ml_M} (hr : ∀ (pc pc' : Nat) (lv : List (Nat × ml_X)), ml_d cX3_findAhead pc .return_ 1 pc' → True → ml_V E "LostRoom$Journeys" cX3_findAhead 2 false rm pc lv []) : ∀ (l0 : Nat) (m : ml_M), fX3_findAhead l0 m = some rm → ml_V E "LostRoom$Journeys" cX3_findAhead 2 false m 0 [(0, ml_r l0)] [] := by
  intro l0 m h
  unfold fX3_findAhead at h
  exact ml_iconst dX3_findAhead_0 kc_i0 <| ml_istore_n (lv' := [(1, ml_i (0 : Int32)), (0, ml_r l0)]) dX3_findAhead_1 (ml_hn hL rfl) rfl <| ml_V.sub [1, 0] rfl (vX3_findAhead_2 hL hr  ml_fu _ _ _ h)
theorem sX3_findAhead {l0 : Nat} {m : ml_M} {rm : ml_M} (h : fX3_findAhead l0 m = some rm) : ml_Sn yX3_findAhead cX3_findAhead 3 none 2 [ml_r l0] m none rm :=
  ml_Sn_of (P := True) (ini := false) (by decide +kernel) (Nat.le_of_ble_eq_true rfl) (fun h => by cases h) (fun _ => ml_RkV) fun E hL hr => wX3_findAhead_0 hL hr _ _ h
theorem dX3_canEnd_0 : ml_d cX3_canEnd 0 (.iload_n 1) 1 1 := ⟨by decide +kernel, rfl⟩
theorem dX3_canEnd_1 : ml_j cX3_canEnd 1 (.ifCond .ne) 6 4 := ⟨5, by decide +kernel, by decide, rfl⟩
theorem dX3_canEnd_4 : ml_d cX3_canEnd 4 (.iconst 1) 1 5 := ⟨by decide +kernel, rfl⟩
theorem dX3_canEnd_5 : ml_d cX3_canEnd 5 (.ireturn) 1 6 := ⟨by decide +kernel, rfl⟩
theorem dX3_canEnd_6 : ml_d cX3_canEnd 6 (.aload_n 0) 1 7 := ⟨by decide +kernel, rfl⟩
theorem dX3_canEnd_7 : ml_d cX3_canEnd 7 (.getfield 24) 3 10 := ⟨by decide +kernel, rfl⟩
theorem dX3_canEnd_10 : ml_d cX3_canEnd 10 (.iload_n 1) 1 11 := ⟨by decide +kernel, rfl⟩
theorem dX3_canEnd_11 : ml_d cX3_canEnd 11 (.iaload) 1 12 := ⟨by decide +kernel, rfl⟩
theorem dX3_canEnd_12 : ml_d cX3_canEnd 12 (.aload_n 0) 1 13 := ⟨by decide +kernel, rfl⟩
theorem dX3_canEnd_13 : ml_d cX3_canEnd 13 (.getfield 11) 3 16 := ⟨by decide +kernel, rfl⟩
theorem dX3_canEnd_16 : ml_d cX3_canEnd 16 (.iload_n 2) 1 17 := ⟨by decide +kernel, rfl⟩
theorem dX3_canEnd_17 : ml_d cX3_canEnd 17 (.aaload) 1 18 := ⟨by decide +kernel, rfl⟩
theorem dX3_canEnd_18 : ml_d cX3_canEnd 18 (.getfield 65) 3 21 := ⟨by decide +kernel, rfl⟩
theorem dX3_canEnd_21 : ml_j cX3_canEnd 21 (.if_icmp .gt) 44 24 := ⟨23, by decide +kernel, by decide, rfl⟩
theorem dX3_canEnd_24 : ml_d cX3_canEnd 24 (.aload_n 0) 1 25 := ⟨by decide +kernel, rfl⟩
theorem dX3_canEnd_25 : ml_d cX3_canEnd 25 (.getfield 21) 3 28 := ⟨by decide +kernel, rfl⟩
theorem dX3_canEnd_28 : ml_d cX3_canEnd 28 (.iload_n 1) 1 29 := ⟨by decide +kernel, rfl⟩
theorem dX3_canEnd_29 : ml_d cX3_canEnd 29 (.iaload) 1 30 := ⟨by decide +kernel, rfl⟩
theorem dX3_canEnd_30 : ml_d cX3_canEnd 30 (.aload_n 0) 1 31 := ⟨by decide +kernel, rfl⟩
theorem dX3_canEnd_31 : ml_d cX3_canEnd 31 (.getfield 17) 3 34 := ⟨by decide +kernel, rfl⟩
theorem dX3_canEnd_34 : ml_d cX3_canEnd 34 (.iload_n 2) 1 35 := ⟨by decide +kernel, rfl⟩
theorem dX3_canEnd_35 : ml_d cX3_canEnd 35 (.iaload) 1 36 := ⟨by decide +kernel, rfl⟩
theorem dX3_canEnd_36 : ml_d cX3_canEnd 36 (.iand) 1 37 := ⟨by decide +kernel, rfl⟩
theorem dX3_canEnd_37 : ml_j cX3_canEnd 37 (.ifCond .eq) 44 40 := ⟨7, by decide +kernel, by decide, rfl⟩
theorem dX3_canEnd_40 : ml_d cX3_canEnd 40 (.iconst 1) 1 41 := ⟨by decide +kernel, rfl⟩
theorem dX3_canEnd_41 : ml_j cX3_canEnd 41 .goto 45 44 := ⟨4, by decide +kernel, by decide, rfl⟩
theorem dX3_canEnd_44 : ml_d cX3_canEnd 44 (.iconst 0) 1 45 := ⟨by decide +kernel, rfl⟩
theorem dX3_canEnd_45 : ml_d cX3_canEnd 45 (.ireturn) 1 46 := ⟨by decide +kernel, rfl⟩
def fX3_canEnd (l0 : Nat) (l1 : Int32) (l2 : Int32) (m : ml_M) : Option Int32 :=
    if l1 = 0 then
    some (1 : Int32)
    else
    if (ml_K m l0).1 = 3 then
    ml_let (ml_R m l0 4) fun a1300 =>
    if ml_in m a1300 20 l1 then
    ml_let (ml_R m l0 0) fun a1302 =>
    if ml_in m a1302 29 l2 then
    ml_let (ml_R m a1302 l2.toNatClampNeg) fun a1304 =>
    if (ml_K m a1304).1 = 8 then
    if (ml_I m a1304 2) < (ml_I m a1300 l1.toNatClampNeg) then
    some (0 : Int32)
    else
    ml_let (ml_R m l0 3) fun a1306 =>
    if ml_in m a1306 20 l1 then
    ml_let (ml_R m l0 2) fun a1308 =>
    if ml_in m a1308 20 l2 then
    if ((ml_I m a1306 l1.toNatClampNeg) &&& (ml_I m a1308 l2.toNatClampNeg)) = 0 then
    some (0 : Int32)
    else
    some (1 : Int32)
    else none
    else none
    else none
    else none
    else none
    else none
theorem wX3_canEnd_0 {E : ml_E} (hL : ml_eL E = 3) {rv : Int32} {m : ml_M} (hr : ∀ (pc pc' : Nat) (lv : List (Nat × ml_X)), ml_d cX3_canEnd pc .ireturn 1 pc' → (rv = 0 ∨ rv = 1) → ml_V E "LostRoom$Journeys" cX3_canEnd 2 false m pc lv [ml_i rv]) : ∀ (l0 : Nat) (l1 : Int32) (l2 : Int32), fX3_canEnd l0 l1 l2 m = some rv → ml_V E "LostRoom$Journeys" cX3_canEnd 2 false m 0 [(0, ml_r l0), (1, ml_i l1), (2, ml_i l2)] [] := by
  intro l0 l1 l2 h
  unfold fX3_canEnd at h
  exact ml_iload_n dX3_canEnd_0 1 rfl <| ml_if_ne dX3_canEnd_1 h (fun _ h => ml_aload_n dX3_canEnd_6 0 rfl <| ml_ck_of h fun hc1299 h => ml_getR dX3_canEnd_7 wb_241 hc1299 <| ml_lx (mk := ml_r) h fun a1300 h => ml_iload_n dX3_canEnd_10 1 rfl <| ml_ck_of h fun hi1301 h => ml_iald dX3_canEnd_11 hi1301 <| ml_aload_n dX3_canEnd_12 0 rfl <| ml_getR dX3_canEnd_13 wb_237 hc1299 <| ml_lx (mk := ml_r) h fun a1302 h => ml_iload_n dX3_canEnd_16 2 rfl <| ml_ck_of h fun hi1303 h => ml_aald (kd := 29) dX3_canEnd_17 (by decide) hi1303 <| ml_lx (mk := ml_r) h fun a1304 h => ml_ck_of h fun hc1305 h => ml_getI dX3_canEnd_18 wb_242 hc1305 <| ml_icmp_gt dX3_canEnd_21 h (fun _ h => ml_iconst dX3_canEnd_44 kc_i0 <| ml_rp (mk := ml_i) hr dX3_canEnd_45 (fun e => Or.inl e.symm) h) (fun _ h => ml_aload_n dX3_canEnd_24 0 rfl <| ml_getR dX3_canEnd_25 wb_243 hc1299 <| ml_lx (mk := ml_r) h fun a1306 h => ml_iload_n dX3_canEnd_28 1 rfl <| ml_ck_of h fun hi1307 h => ml_iald dX3_canEnd_29 hi1307 <| ml_aload_n dX3_canEnd_30 0 rfl <| ml_getR dX3_canEnd_31 wb_240 hc1299 <| ml_lx (mk := ml_r) h fun a1308 h => ml_iload_n dX3_canEnd_34 2 rfl <| ml_ck_of h fun hi1309 h => ml_iald dX3_canEnd_35 hi1309 <| ml_iand dX3_canEnd_36 <| ml_if_eq dX3_canEnd_37 h (fun _ h => ml_iconst dX3_canEnd_44 kc_i0 <| ml_rp (mk := ml_i) hr dX3_canEnd_45 (fun e => Or.inl e.symm) h) (fun _ h => ml_iconst dX3_canEnd_40 kc_i1 <| ml_goto dX3_canEnd_41 <| ml_rp (mk := ml_i) hr dX3_canEnd_45 (fun e => Or.inr e.symm) h))) (fun _ h => ml_iconst dX3_canEnd_4 kc_i1 <| ml_rp (mk := ml_i) hr dX3_canEnd_5 (fun e => Or.inr e.symm) h)
theorem sX3_canEnd {l0 : Nat} {l1 : Int32} {l2 : Int32} {m : ml_M} {rv : Int32} (h : fX3_canEnd l0 l1 l2 m = some rv) : ml_Sn yX3_canEnd cX3_canEnd 3 (some .boolean) 2 [ml_r l0, ml_i l1, ml_i l2] m (some (ml_i rv)) m :=
  ml_Sn_of (P := (rv = 0 ∨ rv = 1)) (ini := false) (by decide +kernel) (Nat.le_of_ble_eq_true rfl) (fun h => by cases h) (fun hz => ml_RkZ rv hz) fun E hL hr => wX3_canEnd_0 hL hr _ _ _ h
theorem dX3_findLasts_0 : ml_d cX3_findLasts 0 (.aload_n 0) 1 1 := ⟨by decide +kernel, rfl⟩
theorem dX3_findLasts_1 : ml_d cX3_findLasts 1 (.invokevirtual 50) 3 4 := ⟨by decide +kernel, rfl⟩
theorem dX3_findLasts_4 : ml_d cX3_findLasts 4 (.iconst 1) 1 5 := ⟨by decide +kernel, rfl⟩
theorem dX3_findLasts_5 : ml_d cX3_findLasts 5 (.istore_n 1) 1 6 := ⟨by decide +kernel, rfl⟩
theorem dX3_findLasts_6 : ml_d cX3_findLasts 6 (.iload_n 1) 1 7 := ⟨by decide +kernel, rfl⟩
theorem dX3_findLasts_7 : ml_d cX3_findLasts 7 (.iconst 1) 1 8 := ⟨by decide +kernel, rfl⟩
theorem dX3_findLasts_8 : ml_d cX3_findLasts 8 (.aload_n 0) 1 9 := ⟨by decide +kernel, rfl⟩
theorem dX3_findLasts_9 : ml_d cX3_findLasts 9 (.getfield 44) 3 12 := ⟨by decide +kernel, rfl⟩
theorem dX3_findLasts_12 : ml_d cX3_findLasts 12 (.ishl) 1 13 := ⟨by decide +kernel, rfl⟩
theorem dX3_findLasts_13 : ml_j cX3_findLasts 13 (.if_icmp .ge) 114 16 := ⟨101, by decide +kernel, by decide, rfl⟩
theorem dX3_findLasts_16 : ml_d cX3_findLasts 16 (.aload_n 0) 1 17 := ⟨by decide +kernel, rfl⟩
theorem dX3_findLasts_17 : ml_d cX3_findLasts 17 (.getfield 21) 3 20 := ⟨by decide +kernel, rfl⟩
theorem dX3_findLasts_20 : ml_d cX3_findLasts 20 (.iload_n 1) 1 21 := ⟨by decide +kernel, rfl⟩
theorem dX3_findLasts_21 : ml_d cX3_findLasts 21 (.iconst 0) 1 22 := ⟨by decide +kernel, rfl⟩
theorem dX3_findLasts_22 : ml_d cX3_findLasts 22 (.iastore) 1 23 := ⟨by decide +kernel, rfl⟩
theorem dX3_findLasts_23 : ml_d cX3_findLasts 23 (.aload_n 0) 1 24 := ⟨by decide +kernel, rfl⟩
theorem dX3_findLasts_24 : ml_d cX3_findLasts 24 (.getfield 24) 3 27 := ⟨by decide +kernel, rfl⟩
theorem dX3_findLasts_27 : ml_d cX3_findLasts 27 (.iload_n 1) 1 28 := ⟨by decide +kernel, rfl⟩
theorem dX3_findLasts_28 : ml_d cX3_findLasts 28 (.iconst 0) 1 29 := ⟨by decide +kernel, rfl⟩
theorem dX3_findLasts_29 : ml_d cX3_findLasts 29 (.iastore) 1 30 := ⟨by decide +kernel, rfl⟩
theorem dX3_findLasts_30 : ml_d cX3_findLasts 30 (.iconst 0) 1 31 := ⟨by decide +kernel, rfl⟩
theorem dX3_findLasts_31 : ml_d cX3_findLasts 31 (.istore_n 2) 1 32 := ⟨by decide +kernel, rfl⟩
theorem dX3_findLasts_32 : ml_d cX3_findLasts 32 (.iload_n 2) 1 33 := ⟨by decide +kernel, rfl⟩
theorem dX3_findLasts_33 : ml_d cX3_findLasts 33 (.aload_n 0) 1 34 := ⟨by decide +kernel, rfl⟩
theorem dX3_findLasts_34 : ml_d cX3_findLasts 34 (.getfield 44) 3 37 := ⟨by decide +kernel, rfl⟩
theorem dX3_findLasts_37 : ml_j cX3_findLasts 37 (.if_icmp .ge) 108 40 := ⟨71, by decide +kernel, by decide, rfl⟩
theorem dX3_findLasts_40 : ml_d cX3_findLasts 40 (.iload_n 1) 1 41 := ⟨by decide +kernel, rfl⟩
theorem dX3_findLasts_41 : ml_d cX3_findLasts 41 (.iload_n 2) 1 42 := ⟨by decide +kernel, rfl⟩
theorem dX3_findLasts_42 : ml_d cX3_findLasts 42 (.invokestatic 30) 3 45 := ⟨by decide +kernel, rfl⟩
theorem dX3_findLasts_45 : ml_j cX3_findLasts 45 (.ifCond .ne) 51 48 := ⟨6, by decide +kernel, by decide, rfl⟩
theorem dX3_findLasts_48 : ml_j cX3_findLasts 48 .goto 102 51 := ⟨54, by decide +kernel, by decide, rfl⟩
theorem dX3_findLasts_51 : ml_d cX3_findLasts 51 (.aload_n 0) 1 52 := ⟨by decide +kernel, rfl⟩
theorem dX3_findLasts_52 : ml_d cX3_findLasts 52 (.getfield 24) 3 55 := ⟨by decide +kernel, rfl⟩
theorem dX3_findLasts_55 : ml_d cX3_findLasts 55 (.iload_n 1) 1 56 := ⟨by decide +kernel, rfl⟩
theorem dX3_findLasts_56 : ml_d cX3_findLasts 56 (.aload_n 0) 1 57 := ⟨by decide +kernel, rfl⟩
theorem dX3_findLasts_57 : ml_d cX3_findLasts 57 (.getfield 24) 3 60 := ⟨by decide +kernel, rfl⟩
theorem dX3_findLasts_60 : ml_d cX3_findLasts 60 (.iload_n 1) 1 61 := ⟨by decide +kernel, rfl⟩
theorem dX3_findLasts_61 : ml_d cX3_findLasts 61 (.iaload) 1 62 := ⟨by decide +kernel, rfl⟩
theorem dX3_findLasts_62 : ml_d cX3_findLasts 62 (.aload_n 0) 1 63 := ⟨by decide +kernel, rfl⟩
theorem dX3_findLasts_63 : ml_d cX3_findLasts 63 (.getfield 11) 3 66 := ⟨by decide +kernel, rfl⟩
theorem dX3_findLasts_66 : ml_d cX3_findLasts 66 (.iload_n 2) 1 67 := ⟨by decide +kernel, rfl⟩
theorem dX3_findLasts_67 : ml_d cX3_findLasts 67 (.aaload) 1 68 := ⟨by decide +kernel, rfl⟩
theorem dX3_findLasts_68 : ml_d cX3_findLasts 68 (.getfield 53) 3 71 := ⟨by decide +kernel, rfl⟩
theorem dX3_findLasts_71 : ml_d cX3_findLasts 71 (.invokestatic 56) 3 74 := ⟨by decide +kernel, rfl⟩
theorem dX3_findLasts_74 : ml_d cX3_findLasts 74 (.iastore) 1 75 := ⟨by decide +kernel, rfl⟩
theorem dX3_findLasts_75 : ml_d cX3_findLasts 75 (.aload_n 0) 1 76 := ⟨by decide +kernel, rfl⟩
theorem dX3_findLasts_76 : ml_d cX3_findLasts 76 (.iload_n 1) 1 77 := ⟨by decide +kernel, rfl⟩
theorem dX3_findLasts_77 : ml_d cX3_findLasts 77 (.iconst 1) 1 78 := ⟨by decide +kernel, rfl⟩
theorem dX3_findLasts_78 : ml_d cX3_findLasts 78 (.iload_n 2) 1 79 := ⟨by decide +kernel, rfl⟩
theorem dX3_findLasts_79 : ml_d cX3_findLasts 79 (.ishl) 1 80 := ⟨by decide +kernel, rfl⟩
theorem dX3_findLasts_80 : ml_d cX3_findLasts 80 (.iconst (-1)) 1 81 := ⟨by decide +kernel, rfl⟩
theorem dX3_findLasts_81 : ml_d cX3_findLasts 81 (.ixor) 1 82 := ⟨by decide +kernel, rfl⟩
theorem dX3_findLasts_82 : ml_d cX3_findLasts 82 (.iand) 1 83 := ⟨by decide +kernel, rfl⟩
theorem dX3_findLasts_83 : ml_d cX3_findLasts 83 (.iload_n 2) 1 84 := ⟨by decide +kernel, rfl⟩
theorem dX3_findLasts_84 : ml_d cX3_findLasts 84 (.invokevirtual 59) 3 87 := ⟨by decide +kernel, rfl⟩
theorem dX3_findLasts_87 : ml_j cX3_findLasts 87 (.ifCond .eq) 102 90 := ⟨15, by decide +kernel, by decide, rfl⟩
theorem dX3_findLasts_90 : ml_d cX3_findLasts 90 (.aload_n 0) 1 91 := ⟨by decide +kernel, rfl⟩
theorem dX3_findLasts_91 : ml_d cX3_findLasts 91 (.getfield 21) 3 94 := ⟨by decide +kernel, rfl⟩
theorem dX3_findLasts_94 : ml_d cX3_findLasts 94 (.iload_n 1) 1 95 := ⟨by decide +kernel, rfl⟩
theorem dX3_findLasts_95 : ml_d cX3_findLasts 95 (.dup2) 1 96 := ⟨by decide +kernel, rfl⟩
theorem dX3_findLasts_96 : ml_d cX3_findLasts 96 (.iaload) 1 97 := ⟨by decide +kernel, rfl⟩
theorem dX3_findLasts_97 : ml_d cX3_findLasts 97 (.iconst 1) 1 98 := ⟨by decide +kernel, rfl⟩
theorem dX3_findLasts_98 : ml_d cX3_findLasts 98 (.iload_n 2) 1 99 := ⟨by decide +kernel, rfl⟩
theorem dX3_findLasts_99 : ml_d cX3_findLasts 99 (.ishl) 1 100 := ⟨by decide +kernel, rfl⟩
theorem dX3_findLasts_100 : ml_d cX3_findLasts 100 (.ior) 1 101 := ⟨by decide +kernel, rfl⟩
theorem dX3_findLasts_101 : ml_d cX3_findLasts 101 (.iastore) 1 102 := ⟨by decide +kernel, rfl⟩
theorem dX3_findLasts_102 : ml_d cX3_findLasts 102 (.iinc 2 1) 3 105 := ⟨by decide +kernel, rfl⟩
theorem dX3_findLasts_105 : ml_j cX3_findLasts 105 .goto 32 108 := ⟨(-73), by decide +kernel, by decide, rfl⟩
theorem dX3_findLasts_108 : ml_d cX3_findLasts 108 (.iinc 1 1) 3 111 := ⟨by decide +kernel, rfl⟩
theorem dX3_findLasts_111 : ml_j cX3_findLasts 111 .goto 6 114 := ⟨(-105), by decide +kernel, by decide, rfl⟩
theorem dX3_findLasts_114 : ml_d cX3_findLasts 114 (.return_) 1 115 := ⟨by decide +kernel, rfl⟩
def fX3_findLasts_102 (k6 : Nat → Int32 → ml_M → Option ml_M) (k32 : Nat → Int32 → Int32 → ml_M → Option ml_M) (l0 : Nat) (l1 : Int32) (l2 : Int32) (m : ml_M) : Option ml_M :=
    k32 l0 l1 (l2 + (1 : Int32)) m
theorem vX3_findLasts_102 {E : ml_E} (hL : ml_eL E = 3) {rm : ml_M} (hr : ∀ (pc pc' : Nat) (lv : List (Nat × ml_X)), ml_d cX3_findLasts pc .return_ 1 pc' → True → ml_V E "LostRoom$Journeys" cX3_findLasts 3 false rm pc lv []) {k6 : Nat → Int32 → ml_M → Option ml_M} (hk6 : ∀ (l0 : Nat) (l1 : Int32) (m : ml_M), k6 l0 l1 m = some rm → ml_V E "LostRoom$Journeys" cX3_findLasts 3 false m 6 [(0, ml_r l0), (1, ml_i l1)] []) {k32 : Nat → Int32 → Int32 → ml_M → Option ml_M} (hk32 : ∀ (l0 : Nat) (l1 : Int32) (l2 : Int32) (m : ml_M), k32 l0 l1 l2 m = some rm → ml_V E "LostRoom$Journeys" cX3_findLasts 3 false m 32 [(0, ml_r l0), (1, ml_i l1), (2, ml_i l2)] []) : ∀ (l0 : Nat) (l1 : Int32) (l2 : Int32) (m : ml_M), fX3_findLasts_102 k6 k32 l0 l1 l2 m = some rm → ml_V E "LostRoom$Journeys" cX3_findLasts 3 false m 102 [(0, ml_r l0), (1, ml_i l1), (2, ml_i l2)] [] := by
  intro l0 l1 l2 m h
  unfold fX3_findLasts_102 at h
  exact ml_iinc (lv' := [(2, ml_i (l2 + (1 : Int32))), (0, ml_r l0), (1, ml_i l1)]) dX3_findLasts_102 2 rfl (congrArg (l2 + ·) kc_i1) (ml_hn hL rfl) rfl <| ml_goto dX3_findLasts_105 <| ml_V.sub [1, 2, 0] rfl (hk32 _ _ _ _ h)
def fX3_findLasts_108 (k6 : Nat → Int32 → ml_M → Option ml_M) (l0 : Nat) (l1 : Int32) (m : ml_M) : Option ml_M :=
    k6 l0 (l1 + (1 : Int32)) m
theorem vX3_findLasts_108 {E : ml_E} (hL : ml_eL E = 3) {rm : ml_M} (hr : ∀ (pc pc' : Nat) (lv : List (Nat × ml_X)), ml_d cX3_findLasts pc .return_ 1 pc' → True → ml_V E "LostRoom$Journeys" cX3_findLasts 3 false rm pc lv []) {k6 : Nat → Int32 → ml_M → Option ml_M} (hk6 : ∀ (l0 : Nat) (l1 : Int32) (m : ml_M), k6 l0 l1 m = some rm → ml_V E "LostRoom$Journeys" cX3_findLasts 3 false m 6 [(0, ml_r l0), (1, ml_i l1)] []) : ∀ (l0 : Nat) (l1 : Int32) (m : ml_M), fX3_findLasts_108 k6 l0 l1 m = some rm → ml_V E "LostRoom$Journeys" cX3_findLasts 3 false m 108 [(0, ml_r l0), (1, ml_i l1)] [] := by
  intro l0 l1 m h
  unfold fX3_findLasts_108 at h
  exact ml_iinc (lv' := [(1, ml_i (l1 + (1 : Int32))), (0, ml_r l0)]) dX3_findLasts_108 1 rfl (congrArg (l1 + ·) kc_i1) (ml_hn hL rfl) rfl <| ml_goto dX3_findLasts_111 <| ml_V.sub [1, 0] rfl (hk6 _ _ _ h)
def fX3_findLasts_32 (k6 : Nat → Int32 → ml_M → Option ml_M) : Nat → Nat → Int32 → Int32 → ml_M → Option ml_M
  | 0, _, _, _, _ => none
  | fu + 1, l0, l1, l2, m =>
    if (ml_K m l0).1 = 3 then
    if (ml_I m l0 1) ≤ l2 then
    fX3_findLasts_108 k6 l0 l1 m
    else
    ml_b1 (fX10_has l1 l2 m) fun r1312 =>
    if r1312 = 0 then
    fX3_findLasts_102 k6 (fX3_findLasts_32 k6 fu) l0 l1 l2 m
    else
    ml_let (ml_R m l0 4) fun a1313 =>
    ml_let (ml_R m l0 4) fun a1314 =>
    if ml_in m a1314 20 l1 then
    ml_let (ml_R m l0 0) fun a1316 =>
    if ml_in m a1316 29 l2 then
    ml_let (ml_R m a1316 l2.toNatClampNeg) fun a1318 =>
    if (ml_K m a1318).1 = 8 then
    if ml_in m a1313 20 l1 then
    ml_let (ml_sI m a1313 l1.toNatClampNeg (if (ml_I m a1314 l1.toNatClampNeg) < (ml_I m a1318 1) then (ml_I m a1318 1) else (ml_I m a1314 l1.toNatClampNeg))) fun m1321 =>
    ml_b1 (fX3_canEnd l0 (l1 &&& (((1 : Int32) <<< (l2 &&& 31)) ^^^ (-1 : Int32))) l2 m1321) fun r1324 =>
    if r1324 = 0 then
    fX3_findLasts_102 k6 (fX3_findLasts_32 k6 fu) l0 l1 l2 m1321
    else
    ml_let (ml_R m1321 l0 3) fun a1325 =>
    if ml_in m1321 a1325 20 l1 then
    if ml_in m1321 a1325 20 l1 then
    ml_let (ml_sI m1321 a1325 l1.toNatClampNeg ((ml_I m1321 a1325 l1.toNatClampNeg) ||| ((1 : Int32) <<< (l2 &&& 31)))) fun m1328 =>
    fX3_findLasts_102 k6 (fX3_findLasts_32 k6 fu) l0 l1 l2 m1328
    else none
    else none
    else none
    else none
    else none
    else none
    else none
theorem vX3_findLasts_32 {E : ml_E} (hL : ml_eL E = 3) {rm : ml_M} (hr : ∀ (pc pc' : Nat) (lv : List (Nat × ml_X)), ml_d cX3_findLasts pc .return_ 1 pc' → True → ml_V E "LostRoom$Journeys" cX3_findLasts 3 false rm pc lv []) {k6 : Nat → Int32 → ml_M → Option ml_M} (hk6 : ∀ (l0 : Nat) (l1 : Int32) (m : ml_M), k6 l0 l1 m = some rm → ml_V E "LostRoom$Journeys" cX3_findLasts 3 false m 6 [(0, ml_r l0), (1, ml_i l1)] []) : ∀ (fu : Nat) (l0 : Nat) (l1 : Int32) (l2 : Int32) (m : ml_M), fX3_findLasts_32 k6 fu l0 l1 l2 m = some rm → ml_V E "LostRoom$Journeys" cX3_findLasts 3 false m 32 [(0, ml_r l0), (1, ml_i l1), (2, ml_i l2)] [] := by
  intro fu
  induction fu with
  | zero => intro l0 l1 l2 m h; exact ml_none h
  | succ fu ih =>
    intro l0 l1 l2 m h
    have hk32 := ih
    unfold fX3_findLasts_32 at h
    exact ml_iload_n dX3_findLasts_32 2 rfl <| ml_aload_n dX3_findLasts_33 0 rfl <| ml_ck_of h fun hc1310 h => ml_getI dX3_findLasts_34 wb_238 hc1310 <| ml_icmp_ge dX3_findLasts_37 h (fun _ h => ml_V.sub [0, 1] rfl (vX3_findLasts_108 hL hr hk6 _ _ _ h)) (fun _ h => ml_iload_n dX3_findLasts_40 1 rfl <| ml_iload_n dX3_findLasts_41 2 rfl <| ml_b1_of h fun r1312 hv1311 h => ml_callSN (host := "LostRoom") dX3_findLasts_42 (by decide) wb_190 (sX10_has hv1311) rfl (Nat.le_of_ble_eq_true rfl) (Nat.le_of_ble_eq_true rfl) rfl <| ml_if_ne dX3_findLasts_45 h (fun _ h => ml_aload_n dX3_findLasts_51 0 rfl <| ml_getR dX3_findLasts_52 wb_241 hc1310 <| ml_lx (mk := ml_r) h fun a1313 h => ml_iload_n dX3_findLasts_55 1 rfl <| ml_aload_n dX3_findLasts_56 0 rfl <| ml_getR dX3_findLasts_57 wb_241 hc1310 <| ml_lx (mk := ml_r) h fun a1314 h => ml_iload_n dX3_findLasts_60 1 rfl <| ml_ck_of h fun hi1315 h => ml_iald dX3_findLasts_61 hi1315 <| ml_aload_n dX3_findLasts_62 0 rfl <| ml_getR dX3_findLasts_63 wb_237 hc1310 <| ml_lx (mk := ml_r) h fun a1316 h => ml_iload_n dX3_findLasts_66 2 rfl <| ml_ck_of h fun hi1317 h => ml_aald (kd := 29) dX3_findLasts_67 (by decide) hi1317 <| ml_lx (mk := ml_r) h fun a1318 h => ml_ck_of h fun hc1319 h => ml_getI dX3_findLasts_68 wb_244 hc1319 <| ml_mmax dX3_findLasts_71 wb_245 (Nat.le_of_ble_eq_true rfl) (Nat.le_of_ble_eq_true rfl) <| ml_ck_of h fun hi1320 h => ml_iast dX3_findLasts_74 hi1320 <| ml_lt (m := m) rfl h fun m1321 em1322 h => ml_aload_n dX3_findLasts_75 0 rfl <| ml_iload_n dX3_findLasts_76 1 rfl <| ml_iconst dX3_findLasts_77 kc_i1 <| ml_iload_n dX3_findLasts_78 2 rfl <| ml_ishl dX3_findLasts_79 <| ml_iconst dX3_findLasts_80 kc_im1 <| ml_ixor dX3_findLasts_81 <| ml_iand dX3_findLasts_82 <| ml_iload_n dX3_findLasts_83 2 rfl <| ml_b1_of h fun r1324 hv1323 h => ml_callV dX3_findLasts_84 wm_392 wb_246 (ml_kk em1322 hc1310) (sX3_canEnd hv1323) rfl (Nat.le_of_ble_eq_true rfl) (Nat.le_of_ble_eq_true rfl) rfl <| ml_if_eq dX3_findLasts_87 h (fun _ h => ml_V.sub [0, 1, 2] rfl (vX3_findLasts_102 hL hr hk6 hk32 _ _ _ _ h)) (fun _ h => ml_aload_n dX3_findLasts_90 0 rfl <| ml_getR dX3_findLasts_91 wb_243 (ml_kk em1322 hc1310) <| ml_lx (mk := ml_r) h fun a1325 h => ml_iload_n dX3_findLasts_94 1 rfl <| ml_dup2 dX3_findLasts_95 rfl rfl <| ml_ck_of h fun hi1326 h => ml_iald dX3_findLasts_96 hi1326 <| ml_iconst dX3_findLasts_97 kc_i1 <| ml_iload_n dX3_findLasts_98 2 rfl <| ml_ishl dX3_findLasts_99 <| ml_ior dX3_findLasts_100 <| ml_ck_of h fun hi1327 h => ml_iast dX3_findLasts_101 hi1327 <| ml_lt (m := m1321) rfl h fun m1328 em1329 h => ml_V.sub [0, 1, 2] rfl (vX3_findLasts_102 hL hr hk6 hk32 _ _ _ _ h))) (fun _ h => ml_goto dX3_findLasts_48 <| ml_V.sub [0, 1, 2] rfl (vX3_findLasts_102 hL hr hk6 hk32 _ _ _ _ h)))
def fX3_findLasts_6 : Nat → Nat → Int32 → ml_M → Option ml_M
  | 0, _, _, _ => none
  | fu + 1, l0, l1, m =>
    if (ml_K m l0).1 = 3 then
    if ((1 : Int32) <<< ((ml_I m l0 1) &&& 31)) ≤ l1 then
    some m
    else
    ml_let (ml_R m l0 3) fun a1331 =>
    if ml_in m a1331 20 l1 then
    ml_let (ml_sI m a1331 l1.toNatClampNeg (0 : Int32)) fun m1333 =>
    ml_let (ml_R m1333 l0 4) fun a1335 =>
    if ml_in m1333 a1335 20 l1 then
    ml_let (ml_sI m1333 a1335 l1.toNatClampNeg (0 : Int32)) fun m1337 =>
    fX3_findLasts_32 (fX3_findLasts_6 fu) ml_fu l0 l1 (0 : Int32) m1337
    else none
    else none
    else none
theorem vX3_findLasts_6 {E : ml_E} (hL : ml_eL E = 3) {rm : ml_M} (hr : ∀ (pc pc' : Nat) (lv : List (Nat × ml_X)), ml_d cX3_findLasts pc .return_ 1 pc' → True → ml_V E "LostRoom$Journeys" cX3_findLasts 3 false rm pc lv []) : ∀ (fu : Nat) (l0 : Nat) (l1 : Int32) (m : ml_M), fX3_findLasts_6 fu l0 l1 m = some rm → ml_V E "LostRoom$Journeys" cX3_findLasts 3 false m 6 [(0, ml_r l0), (1, ml_i l1)] [] := by
  intro fu
  induction fu with
  | zero => intro l0 l1 m h; exact ml_none h
  | succ fu ih =>
    intro l0 l1 m h
    have hk6 := ih
    unfold fX3_findLasts_6 at h
    exact ml_iload_n dX3_findLasts_6 1 rfl <| ml_iconst dX3_findLasts_7 kc_i1 <| ml_aload_n dX3_findLasts_8 0 rfl <| ml_ck_of h fun hc1330 h => ml_getI dX3_findLasts_9 wb_238 hc1330 <| ml_ishl dX3_findLasts_12 <| ml_icmp_ge dX3_findLasts_13 h (fun _ h => ml_rv hr dX3_findLasts_114 trivial h) (fun _ h => ml_aload_n dX3_findLasts_16 0 rfl <| ml_getR dX3_findLasts_17 wb_243 hc1330 <| ml_lx (mk := ml_r) h fun a1331 h => ml_iload_n dX3_findLasts_20 1 rfl <| ml_iconst dX3_findLasts_21 kc_i0 <| ml_ck_of h fun hi1332 h => ml_iast dX3_findLasts_22 hi1332 <| ml_lt (m := m) rfl h fun m1333 em1334 h => ml_aload_n dX3_findLasts_23 0 rfl <| ml_getR dX3_findLasts_24 wb_241 (ml_kk em1334 hc1330) <| ml_lx (mk := ml_r) h fun a1335 h => ml_iload_n dX3_findLasts_27 1 rfl <| ml_iconst dX3_findLasts_28 kc_i0 <| ml_ck_of h fun hi1336 h => ml_iast dX3_findLasts_29 hi1336 <| ml_lt (m := m1333) rfl h fun m1337 em1338 h => ml_iconst dX3_findLasts_30 kc_i0 <| ml_istore_n (lv' := [(2, ml_i (0 : Int32)), (0, ml_r l0), (1, ml_i l1)]) dX3_findLasts_31 (ml_hn hL rfl) rfl <| ml_V.sub [1, 2, 0] rfl (vX3_findLasts_32 hL hr hk6 ml_fu _ _ _ _ h))
def fX3_findLasts (l0 : Nat) (m : ml_M) : Option ml_M :=
    if (ml_K m l0).1 = 3 then
    ml_b1 (fX3_findAhead l0 m) fun m1341 =>
    fX3_findLasts_6 ml_fu l0 (1 : Int32) m1341
    else none
theorem wX3_findLasts_0 {E : ml_E} (hL : ml_eL E = 3) {rm : ml_M} (hr : ∀ (pc pc' : Nat) (lv : List (Nat × ml_X)), ml_d cX3_findLasts pc .return_ 1 pc' → True → ml_V E "LostRoom$Journeys" cX3_findLasts 3 false rm pc lv []) : ∀ (l0 : Nat) (m : ml_M), fX3_findLasts l0 m = some rm → ml_V E "LostRoom$Journeys" cX3_findLasts 3 false m 0 [(0, ml_r l0)] [] := by
  intro l0 m h
  unfold fX3_findLasts at h
  exact ml_aload_n dX3_findLasts_0 0 rfl <| ml_ck_of h fun hc1340 h => ml_b1_of h fun m1341 hv1339 h => ml_callV dX3_findLasts_1 wm_396 wb_247 hc1340 (sX3_findAhead hv1339) rfl (Nat.le_of_ble_eq_true rfl) (Nat.le_of_ble_eq_true rfl) rfl <| ml_iconst dX3_findLasts_4 kc_i1 <| ml_istore_n (lv' := [(1, ml_i (1 : Int32)), (0, ml_r l0)]) dX3_findLasts_5 (ml_hn hL rfl) rfl <| ml_V.sub [1, 0] rfl (vX3_findLasts_6 hL hr  ml_fu _ _ _ h)
theorem sX3_findLasts {l0 : Nat} {m : ml_M} {rm : ml_M} (h : fX3_findLasts l0 m = some rm) : ml_Sn yX3_findLasts cX3_findLasts 3 none 3 [ml_r l0] m none rm :=
  ml_Sn_of (P := True) (ini := false) (by decide +kernel) (Nat.le_of_ble_eq_true rfl) (fun h => by cases h) (fun _ => ml_RkV) fun E hL hr => wX3_findLasts_0 hL hr _ _ h
theorem dX3_fewestPeople_0 : ml_d cX3_fewestPeople 0 (.aload_n 0) 1 1 := ⟨by decide +kernel, rfl⟩
theorem dX3_fewestPeople_1 : ml_d cX3_fewestPeople 1 (.invokevirtual 47) 3 4 := ⟨by decide +kernel, rfl⟩
theorem dX3_fewestPeople_4 : ml_d cX3_fewestPeople 4 (.iconst 1) 1 5 := ⟨by decide +kernel, rfl⟩
theorem dX3_fewestPeople_5 : ml_d cX3_fewestPeople 5 (.istore_n 1) 1 6 := ⟨by decide +kernel, rfl⟩
theorem dX3_fewestPeople_6 : ml_d cX3_fewestPeople 6 (.iload_n 1) 1 7 := ⟨by decide +kernel, rfl⟩
theorem dX3_fewestPeople_7 : ml_d cX3_fewestPeople 7 (.iconst 1) 1 8 := ⟨by decide +kernel, rfl⟩
theorem dX3_fewestPeople_8 : ml_d cX3_fewestPeople 8 (.aload_n 0) 1 9 := ⟨by decide +kernel, rfl⟩
theorem dX3_fewestPeople_9 : ml_d cX3_fewestPeople 9 (.getfield 44) 3 12 := ⟨by decide +kernel, rfl⟩
theorem dX3_fewestPeople_12 : ml_d cX3_fewestPeople 12 (.ishl) 1 13 := ⟨by decide +kernel, rfl⟩
theorem dX3_fewestPeople_13 : ml_j cX3_fewestPeople 13 (.if_icmp .ge) 83 16 := ⟨70, by decide +kernel, by decide, rfl⟩
theorem dX3_fewestPeople_16 : ml_d cX3_fewestPeople 16 (.aload_n 0) 1 17 := ⟨by decide +kernel, rfl⟩
theorem dX3_fewestPeople_17 : ml_d cX3_fewestPeople 17 (.getfield 27) 3 20 := ⟨by decide +kernel, rfl⟩
theorem dX3_fewestPeople_20 : ml_d cX3_fewestPeople 20 (.iload_n 1) 1 21 := ⟨by decide +kernel, rfl⟩
theorem dX3_fewestPeople_21 : ml_d cX3_fewestPeople 21 (.aload_n 0) 1 22 := ⟨by decide +kernel, rfl⟩
theorem dX3_fewestPeople_22 : ml_d cX3_fewestPeople 22 (.getfield 44) 3 25 := ⟨by decide +kernel, rfl⟩
theorem dX3_fewestPeople_25 : ml_d cX3_fewestPeople 25 (.iastore) 1 26 := ⟨by decide +kernel, rfl⟩
theorem dX3_fewestPeople_26 : ml_d cX3_fewestPeople 26 (.iload_n 1) 1 27 := ⟨by decide +kernel, rfl⟩
theorem dX3_fewestPeople_27 : ml_d cX3_fewestPeople 27 (.istore_n 2) 1 28 := ⟨by decide +kernel, rfl⟩
theorem dX3_fewestPeople_28 : ml_d cX3_fewestPeople 28 (.iload_n 2) 1 29 := ⟨by decide +kernel, rfl⟩
theorem dX3_fewestPeople_29 : ml_j cX3_fewestPeople 29 (.ifCond .le) 77 32 := ⟨48, by decide +kernel, by decide, rfl⟩
theorem dX3_fewestPeople_32 : ml_d cX3_fewestPeople 32 (.aload_n 0) 1 33 := ⟨by decide +kernel, rfl⟩
theorem dX3_fewestPeople_33 : ml_d cX3_fewestPeople 33 (.getfield 21) 3 36 := ⟨by decide +kernel, rfl⟩
theorem dX3_fewestPeople_36 : ml_d cX3_fewestPeople 36 (.iload_n 2) 1 37 := ⟨by decide +kernel, rfl⟩
theorem dX3_fewestPeople_37 : ml_d cX3_fewestPeople 37 (.iaload) 1 38 := ⟨by decide +kernel, rfl⟩
theorem dX3_fewestPeople_38 : ml_j cX3_fewestPeople 38 (.ifCond .eq) 68 41 := ⟨30, by decide +kernel, by decide, rfl⟩
theorem dX3_fewestPeople_41 : ml_d cX3_fewestPeople 41 (.aload_n 0) 1 42 := ⟨by decide +kernel, rfl⟩
theorem dX3_fewestPeople_42 : ml_d cX3_fewestPeople 42 (.getfield 27) 3 45 := ⟨by decide +kernel, rfl⟩
theorem dX3_fewestPeople_45 : ml_d cX3_fewestPeople 45 (.iload_n 1) 1 46 := ⟨by decide +kernel, rfl⟩
theorem dX3_fewestPeople_46 : ml_d cX3_fewestPeople 46 (.aload_n 0) 1 47 := ⟨by decide +kernel, rfl⟩
theorem dX3_fewestPeople_47 : ml_d cX3_fewestPeople 47 (.getfield 27) 3 50 := ⟨by decide +kernel, rfl⟩
theorem dX3_fewestPeople_50 : ml_d cX3_fewestPeople 50 (.iload_n 1) 1 51 := ⟨by decide +kernel, rfl⟩
theorem dX3_fewestPeople_51 : ml_d cX3_fewestPeople 51 (.iaload) 1 52 := ⟨by decide +kernel, rfl⟩
theorem dX3_fewestPeople_52 : ml_d cX3_fewestPeople 52 (.aload_n 0) 1 53 := ⟨by decide +kernel, rfl⟩
theorem dX3_fewestPeople_53 : ml_d cX3_fewestPeople 53 (.getfield 27) 3 56 := ⟨by decide +kernel, rfl⟩
theorem dX3_fewestPeople_56 : ml_d cX3_fewestPeople 56 (.iload_n 1) 1 57 := ⟨by decide +kernel, rfl⟩
theorem dX3_fewestPeople_57 : ml_d cX3_fewestPeople 57 (.iload_n 2) 1 58 := ⟨by decide +kernel, rfl⟩
theorem dX3_fewestPeople_58 : ml_d cX3_fewestPeople 58 (.iconst (-1)) 1 59 := ⟨by decide +kernel, rfl⟩
theorem dX3_fewestPeople_59 : ml_d cX3_fewestPeople 59 (.ixor) 1 60 := ⟨by decide +kernel, rfl⟩
theorem dX3_fewestPeople_60 : ml_d cX3_fewestPeople 60 (.iand) 1 61 := ⟨by decide +kernel, rfl⟩
theorem dX3_fewestPeople_61 : ml_d cX3_fewestPeople 61 (.iaload) 1 62 := ⟨by decide +kernel, rfl⟩
theorem dX3_fewestPeople_62 : ml_d cX3_fewestPeople 62 (.iconst 1) 1 63 := ⟨by decide +kernel, rfl⟩
theorem dX3_fewestPeople_63 : ml_d cX3_fewestPeople 63 (.iadd) 1 64 := ⟨by decide +kernel, rfl⟩
theorem dX3_fewestPeople_64 : ml_d cX3_fewestPeople 64 (.invokestatic 38) 3 67 := ⟨by decide +kernel, rfl⟩
theorem dX3_fewestPeople_67 : ml_d cX3_fewestPeople 67 (.iastore) 1 68 := ⟨by decide +kernel, rfl⟩
theorem dX3_fewestPeople_68 : ml_d cX3_fewestPeople 68 (.iload_n 2) 1 69 := ⟨by decide +kernel, rfl⟩
theorem dX3_fewestPeople_69 : ml_d cX3_fewestPeople 69 (.iconst 1) 1 70 := ⟨by decide +kernel, rfl⟩
theorem dX3_fewestPeople_70 : ml_d cX3_fewestPeople 70 (.isub) 1 71 := ⟨by decide +kernel, rfl⟩
theorem dX3_fewestPeople_71 : ml_d cX3_fewestPeople 71 (.iload_n 1) 1 72 := ⟨by decide +kernel, rfl⟩
theorem dX3_fewestPeople_72 : ml_d cX3_fewestPeople 72 (.iand) 1 73 := ⟨by decide +kernel, rfl⟩
theorem dX3_fewestPeople_73 : ml_d cX3_fewestPeople 73 (.istore_n 2) 1 74 := ⟨by decide +kernel, rfl⟩
theorem dX3_fewestPeople_74 : ml_j cX3_fewestPeople 74 .goto 28 77 := ⟨(-46), by decide +kernel, by decide, rfl⟩
theorem dX3_fewestPeople_77 : ml_d cX3_fewestPeople 77 (.iinc 1 1) 3 80 := ⟨by decide +kernel, rfl⟩
theorem dX3_fewestPeople_80 : ml_j cX3_fewestPeople 80 .goto 6 83 := ⟨(-74), by decide +kernel, by decide, rfl⟩
theorem dX3_fewestPeople_83 : ml_d cX3_fewestPeople 83 (.aload_n 0) 1 84 := ⟨by decide +kernel, rfl⟩
theorem dX3_fewestPeople_84 : ml_d cX3_fewestPeople 84 (.getfield 27) 3 87 := ⟨by decide +kernel, rfl⟩
theorem dX3_fewestPeople_87 : ml_d cX3_fewestPeople 87 (.iconst 1) 1 88 := ⟨by decide +kernel, rfl⟩
theorem dX3_fewestPeople_88 : ml_d cX3_fewestPeople 88 (.aload_n 0) 1 89 := ⟨by decide +kernel, rfl⟩
theorem dX3_fewestPeople_89 : ml_d cX3_fewestPeople 89 (.getfield 44) 3 92 := ⟨by decide +kernel, rfl⟩
theorem dX3_fewestPeople_92 : ml_d cX3_fewestPeople 92 (.ishl) 1 93 := ⟨by decide +kernel, rfl⟩
theorem dX3_fewestPeople_93 : ml_d cX3_fewestPeople 93 (.iconst 1) 1 94 := ⟨by decide +kernel, rfl⟩
theorem dX3_fewestPeople_94 : ml_d cX3_fewestPeople 94 (.isub) 1 95 := ⟨by decide +kernel, rfl⟩
theorem dX3_fewestPeople_95 : ml_d cX3_fewestPeople 95 (.iaload) 1 96 := ⟨by decide +kernel, rfl⟩
theorem dX3_fewestPeople_96 : ml_d cX3_fewestPeople 96 (.ireturn) 1 97 := ⟨by decide +kernel, rfl⟩
def fX3_fewestPeople_68 (k6 : Nat → Int32 → ml_M → Option (Int32 × ml_M)) (k28 : Nat → Int32 → Int32 → ml_M → Option (Int32 × ml_M)) (l0 : Nat) (l1 : Int32) (l2 : Int32) (m : ml_M) : Option (Int32 × ml_M) :=
    ml_let ((l2 - (1 : Int32)) &&& l1) fun x1342 =>
    k28 l0 l1 x1342 m
theorem vX3_fewestPeople_68 {E : ml_E} (hL : ml_eL E = 3) {rv : Int32} {rm : ml_M} (hr : ∀ (pc pc' : Nat) (lv : List (Nat × ml_X)), ml_d cX3_fewestPeople pc .ireturn 1 pc' → True → ml_V E "LostRoom$Journeys" cX3_fewestPeople 4 false rm pc lv [ml_i rv]) {k6 : Nat → Int32 → ml_M → Option (Int32 × ml_M)} (hk6 : ∀ (l0 : Nat) (l1 : Int32) (m : ml_M), k6 l0 l1 m = some (rv, rm) → ml_V E "LostRoom$Journeys" cX3_fewestPeople 4 false m 6 [(0, ml_r l0), (1, ml_i l1)] []) {k28 : Nat → Int32 → Int32 → ml_M → Option (Int32 × ml_M)} (hk28 : ∀ (l0 : Nat) (l1 : Int32) (l2 : Int32) (m : ml_M), k28 l0 l1 l2 m = some (rv, rm) → ml_V E "LostRoom$Journeys" cX3_fewestPeople 4 false m 28 [(0, ml_r l0), (1, ml_i l1), (2, ml_i l2)] []) : ∀ (l0 : Nat) (l1 : Int32) (l2 : Int32) (m : ml_M), fX3_fewestPeople_68 k6 k28 l0 l1 l2 m = some (rv, rm) → ml_V E "LostRoom$Journeys" cX3_fewestPeople 4 false m 68 [(0, ml_r l0), (1, ml_i l1), (2, ml_i l2)] [] := by
  intro l0 l1 l2 m h
  unfold fX3_fewestPeople_68 at h
  exact ml_iload_n dX3_fewestPeople_68 2 rfl <| ml_iconst dX3_fewestPeople_69 kc_i1 <| ml_isub dX3_fewestPeople_70 <| ml_iload_n dX3_fewestPeople_71 1 rfl <| ml_iand dX3_fewestPeople_72 <| ml_lx (mk := ml_i) h fun x1342 h => ml_istore_n (lv' := [(2, ml_i x1342), (0, ml_r l0), (1, ml_i l1)]) dX3_fewestPeople_73 (ml_hn hL rfl) rfl <| ml_goto dX3_fewestPeople_74 <| ml_V.sub [1, 2, 0] rfl (hk28 _ _ _ _ h)
def fX3_fewestPeople_77 (k6 : Nat → Int32 → ml_M → Option (Int32 × ml_M)) (l0 : Nat) (l1 : Int32) (m : ml_M) : Option (Int32 × ml_M) :=
    k6 l0 (l1 + (1 : Int32)) m
theorem vX3_fewestPeople_77 {E : ml_E} (hL : ml_eL E = 3) {rv : Int32} {rm : ml_M} (hr : ∀ (pc pc' : Nat) (lv : List (Nat × ml_X)), ml_d cX3_fewestPeople pc .ireturn 1 pc' → True → ml_V E "LostRoom$Journeys" cX3_fewestPeople 4 false rm pc lv [ml_i rv]) {k6 : Nat → Int32 → ml_M → Option (Int32 × ml_M)} (hk6 : ∀ (l0 : Nat) (l1 : Int32) (m : ml_M), k6 l0 l1 m = some (rv, rm) → ml_V E "LostRoom$Journeys" cX3_fewestPeople 4 false m 6 [(0, ml_r l0), (1, ml_i l1)] []) : ∀ (l0 : Nat) (l1 : Int32) (m : ml_M), fX3_fewestPeople_77 k6 l0 l1 m = some (rv, rm) → ml_V E "LostRoom$Journeys" cX3_fewestPeople 4 false m 77 [(0, ml_r l0), (1, ml_i l1)] [] := by
  intro l0 l1 m h
  unfold fX3_fewestPeople_77 at h
  exact ml_iinc (lv' := [(1, ml_i (l1 + (1 : Int32))), (0, ml_r l0)]) dX3_fewestPeople_77 1 rfl (congrArg (l1 + ·) kc_i1) (ml_hn hL rfl) rfl <| ml_goto dX3_fewestPeople_80 <| ml_V.sub [1, 0] rfl (hk6 _ _ _ h)
def fX3_fewestPeople_28 (k6 : Nat → Int32 → ml_M → Option (Int32 × ml_M)) : Nat → Nat → Int32 → Int32 → ml_M → Option (Int32 × ml_M)
  | 0, _, _, _, _ => none
  | fu + 1, l0, l1, l2, m =>
    if l2 ≤ 0 then
    fX3_fewestPeople_77 k6 l0 l1 m
    else
    if (ml_K m l0).1 = 3 then
    ml_let (ml_R m l0 3) fun a1344 =>
    if ml_in m a1344 20 l2 then
    if (ml_I m a1344 l2.toNatClampNeg) = 0 then
    fX3_fewestPeople_68 k6 (fX3_fewestPeople_28 k6 fu) l0 l1 l2 m
    else
    ml_let (ml_R m l0 5) fun a1346 =>
    ml_let (ml_R m l0 5) fun a1347 =>
    if ml_in m a1347 20 l1 then
    ml_let (ml_R m l0 5) fun a1349 =>
    if ml_in m a1349 20 (l1 &&& (l2 ^^^ (-1 : Int32))) then
    if ml_in m a1346 20 l1 then
    ml_let (ml_sI m a1346 l1.toNatClampNeg (if ((ml_I m a1349 (l1 &&& (l2 ^^^ (-1 : Int32))).toNatClampNeg) + (1 : Int32)) < (ml_I m a1347 l1.toNatClampNeg) then ((ml_I m a1349 (l1 &&& (l2 ^^^ (-1 : Int32))).toNatClampNeg) + (1 : Int32)) else (ml_I m a1347 l1.toNatClampNeg))) fun m1352 =>
    fX3_fewestPeople_68 k6 (fX3_fewestPeople_28 k6 fu) l0 l1 l2 m1352
    else none
    else none
    else none
    else none
    else none
theorem vX3_fewestPeople_28 {E : ml_E} (hL : ml_eL E = 3) {rv : Int32} {rm : ml_M} (hr : ∀ (pc pc' : Nat) (lv : List (Nat × ml_X)), ml_d cX3_fewestPeople pc .ireturn 1 pc' → True → ml_V E "LostRoom$Journeys" cX3_fewestPeople 4 false rm pc lv [ml_i rv]) {k6 : Nat → Int32 → ml_M → Option (Int32 × ml_M)} (hk6 : ∀ (l0 : Nat) (l1 : Int32) (m : ml_M), k6 l0 l1 m = some (rv, rm) → ml_V E "LostRoom$Journeys" cX3_fewestPeople 4 false m 6 [(0, ml_r l0), (1, ml_i l1)] []) : ∀ (fu : Nat) (l0 : Nat) (l1 : Int32) (l2 : Int32) (m : ml_M), fX3_fewestPeople_28 k6 fu l0 l1 l2 m = some (rv, rm) → ml_V E "LostRoom$Journeys" cX3_fewestPeople 4 false m 28 [(0, ml_r l0), (1, ml_i l1), (2, ml_i l2)] [] := by
  intro fu
  induction fu with
  | zero => intro l0 l1 l2 m h; exact ml_none h
  | succ fu ih =>
    intro l0 l1 l2 m h
    have hk28 := ih
    unfold fX3_fewestPeople_28 at h
    exact ml_iload_n dX3_fewestPeople_28 2 rfl <| ml_if_le dX3_fewestPeople_29 h (fun _ h => ml_V.sub [0, 1] rfl (vX3_fewestPeople_77 hL hr hk6 _ _ _ h)) (fun _ h => ml_aload_n dX3_fewestPeople_32 0 rfl <| ml_ck_of h fun hc1343 h => ml_getR dX3_fewestPeople_33 wb_243 hc1343 <| ml_lx (mk := ml_r) h fun a1344 h => ml_iload_n dX3_fewestPeople_36 2 rfl <| ml_ck_of h fun hi1345 h => ml_iald dX3_fewestPeople_37 hi1345 <| ml_if_eq dX3_fewestPeople_38 h (fun _ h => ml_V.sub [0, 1, 2] rfl (vX3_fewestPeople_68 hL hr hk6 hk28 _ _ _ _ h)) (fun _ h => ml_aload_n dX3_fewestPeople_41 0 rfl <| ml_getR dX3_fewestPeople_42 wb_248 hc1343 <| ml_lx (mk := ml_r) h fun a1346 h => ml_iload_n dX3_fewestPeople_45 1 rfl <| ml_aload_n dX3_fewestPeople_46 0 rfl <| ml_getR dX3_fewestPeople_47 wb_248 hc1343 <| ml_lx (mk := ml_r) h fun a1347 h => ml_iload_n dX3_fewestPeople_50 1 rfl <| ml_ck_of h fun hi1348 h => ml_iald dX3_fewestPeople_51 hi1348 <| ml_aload_n dX3_fewestPeople_52 0 rfl <| ml_getR dX3_fewestPeople_53 wb_248 hc1343 <| ml_lx (mk := ml_r) h fun a1349 h => ml_iload_n dX3_fewestPeople_56 1 rfl <| ml_iload_n dX3_fewestPeople_57 2 rfl <| ml_iconst dX3_fewestPeople_58 kc_im1 <| ml_ixor dX3_fewestPeople_59 <| ml_iand dX3_fewestPeople_60 <| ml_ck_of h fun hi1350 h => ml_iald dX3_fewestPeople_61 hi1350 <| ml_iconst dX3_fewestPeople_62 kc_i1 <| ml_iadd dX3_fewestPeople_63 <| ml_mmin dX3_fewestPeople_64 wb_234 (Nat.le_of_ble_eq_true rfl) (Nat.le_of_ble_eq_true rfl) <| ml_ck_of h fun hi1351 h => ml_iast dX3_fewestPeople_67 hi1351 <| ml_lt (m := m) rfl h fun m1352 em1353 h => ml_V.sub [0, 1, 2] rfl (vX3_fewestPeople_68 hL hr hk6 hk28 _ _ _ _ h)))
def fX3_fewestPeople_83 (l0 : Nat) (m : ml_M) : Option (Int32 × ml_M) :=
    if (ml_K m l0).1 = 3 then
    ml_let (ml_R m l0 5) fun a1355 =>
    if ml_in m a1355 20 (((1 : Int32) <<< ((ml_I m l0 1) &&& 31)) - (1 : Int32)) then
    some ((ml_I m a1355 (((1 : Int32) <<< ((ml_I m l0 1) &&& 31)) - (1 : Int32)).toNatClampNeg), m)
    else none
    else none
theorem vX3_fewestPeople_83 {E : ml_E} (hL : ml_eL E = 3) {rv : Int32} {rm : ml_M} (hr : ∀ (pc pc' : Nat) (lv : List (Nat × ml_X)), ml_d cX3_fewestPeople pc .ireturn 1 pc' → True → ml_V E "LostRoom$Journeys" cX3_fewestPeople 4 false rm pc lv [ml_i rv]) : ∀ (l0 : Nat) (m : ml_M), fX3_fewestPeople_83 l0 m = some (rv, rm) → ml_V E "LostRoom$Journeys" cX3_fewestPeople 4 false m 83 [(0, ml_r l0)] [] := by
  intro l0 m h
  unfold fX3_fewestPeople_83 at h
  exact ml_aload_n dX3_fewestPeople_83 0 rfl <| ml_ck_of h fun hc1354 h => ml_getR dX3_fewestPeople_84 wb_248 hc1354 <| ml_lx (mk := ml_r) h fun a1355 h => ml_iconst dX3_fewestPeople_87 kc_i1 <| ml_aload_n dX3_fewestPeople_88 0 rfl <| ml_getI dX3_fewestPeople_89 wb_238 hc1354 <| ml_ishl dX3_fewestPeople_92 <| ml_iconst dX3_fewestPeople_93 kc_i1 <| ml_isub dX3_fewestPeople_94 <| ml_ck_of h fun hi1356 h => ml_iald dX3_fewestPeople_95 hi1356 <| ml_rI (mk := ml_i) hr dX3_fewestPeople_96 (fun _ => trivial) h
def fX3_fewestPeople_6 : Nat → Nat → Int32 → ml_M → Option (Int32 × ml_M)
  | 0, _, _, _ => none
  | fu + 1, l0, l1, m =>
    if (ml_K m l0).1 = 3 then
    if ((1 : Int32) <<< ((ml_I m l0 1) &&& 31)) ≤ l1 then
    fX3_fewestPeople_83 l0 m
    else
    ml_let (ml_R m l0 5) fun a1358 =>
    if ml_in m a1358 20 l1 then
    ml_let (ml_sI m a1358 l1.toNatClampNeg (ml_I m l0 1)) fun m1360 =>
    fX3_fewestPeople_28 (fX3_fewestPeople_6 fu) ml_fu l0 l1 l1 m1360
    else none
    else none
theorem vX3_fewestPeople_6 {E : ml_E} (hL : ml_eL E = 3) {rv : Int32} {rm : ml_M} (hr : ∀ (pc pc' : Nat) (lv : List (Nat × ml_X)), ml_d cX3_fewestPeople pc .ireturn 1 pc' → True → ml_V E "LostRoom$Journeys" cX3_fewestPeople 4 false rm pc lv [ml_i rv]) : ∀ (fu : Nat) (l0 : Nat) (l1 : Int32) (m : ml_M), fX3_fewestPeople_6 fu l0 l1 m = some (rv, rm) → ml_V E "LostRoom$Journeys" cX3_fewestPeople 4 false m 6 [(0, ml_r l0), (1, ml_i l1)] [] := by
  intro fu
  induction fu with
  | zero => intro l0 l1 m h; exact ml_none h
  | succ fu ih =>
    intro l0 l1 m h
    have hk6 := ih
    unfold fX3_fewestPeople_6 at h
    exact ml_iload_n dX3_fewestPeople_6 1 rfl <| ml_iconst dX3_fewestPeople_7 kc_i1 <| ml_aload_n dX3_fewestPeople_8 0 rfl <| ml_ck_of h fun hc1357 h => ml_getI dX3_fewestPeople_9 wb_238 hc1357 <| ml_ishl dX3_fewestPeople_12 <| ml_icmp_ge dX3_fewestPeople_13 h (fun _ h => ml_V.sub [0] rfl (vX3_fewestPeople_83 hL hr  _ _ h)) (fun _ h => ml_aload_n dX3_fewestPeople_16 0 rfl <| ml_getR dX3_fewestPeople_17 wb_248 hc1357 <| ml_lx (mk := ml_r) h fun a1358 h => ml_iload_n dX3_fewestPeople_20 1 rfl <| ml_aload_n dX3_fewestPeople_21 0 rfl <| ml_getI dX3_fewestPeople_22 wb_238 hc1357 <| ml_ck_of h fun hi1359 h => ml_iast dX3_fewestPeople_25 hi1359 <| ml_lt (m := m) rfl h fun m1360 em1361 h => ml_iload_n dX3_fewestPeople_26 1 rfl <| ml_istore_n (lv' := [(2, ml_i l1), (0, ml_r l0), (1, ml_i l1)]) dX3_fewestPeople_27 (ml_hn hL rfl) rfl <| ml_V.sub [1, 2, 0] rfl (vX3_fewestPeople_28 hL hr hk6 ml_fu _ _ _ _ h))
def fX3_fewestPeople (l0 : Nat) (m : ml_M) : Option (Int32 × ml_M) :=
    if (ml_K m l0).1 = 3 then
    ml_b1 (fX3_findLasts l0 m) fun m1364 =>
    fX3_fewestPeople_6 ml_fu l0 (1 : Int32) m1364
    else none
theorem wX3_fewestPeople_0 {E : ml_E} (hL : ml_eL E = 3) {rv : Int32} {rm : ml_M} (hr : ∀ (pc pc' : Nat) (lv : List (Nat × ml_X)), ml_d cX3_fewestPeople pc .ireturn 1 pc' → True → ml_V E "LostRoom$Journeys" cX3_fewestPeople 4 false rm pc lv [ml_i rv]) : ∀ (l0 : Nat) (m : ml_M), fX3_fewestPeople l0 m = some (rv, rm) → ml_V E "LostRoom$Journeys" cX3_fewestPeople 4 false m 0 [(0, ml_r l0)] [] := by
  intro l0 m h
  unfold fX3_fewestPeople at h
  exact ml_aload_n dX3_fewestPeople_0 0 rfl <| ml_ck_of h fun hc1363 h => ml_b1_of h fun m1364 hv1362 h => ml_callV dX3_fewestPeople_1 wm_400 wb_249 hc1363 (sX3_findLasts hv1362) rfl (Nat.le_of_ble_eq_true rfl) (Nat.le_of_ble_eq_true rfl) rfl <| ml_iconst dX3_fewestPeople_4 kc_i1 <| ml_istore_n (lv' := [(1, ml_i (1 : Int32)), (0, ml_r l0)]) dX3_fewestPeople_5 (ml_hn hL rfl) rfl <| ml_V.sub [1, 0] rfl (vX3_fewestPeople_6 hL hr  ml_fu _ _ _ h)
theorem sX3_fewestPeople {l0 : Nat} {m : ml_M} {rv : Int32} {rm : ml_M} (h : fX3_fewestPeople l0 m = some (rv, rm)) : ml_Sn yX3_fewestPeople cX3_fewestPeople 3 (some .int) 4 [ml_r l0] m (some (ml_i rv)) rm :=
  ml_Sn_of (P := True) (ini := false) (by decide +kernel) (Nat.le_of_ble_eq_true rfl) (fun h => by cases h) (fun _ => ml_RkI rv) fun E hL hr => wX3_fewestPeople_0 hL hr _ _ h
theorem dX10_travellers_0 : ml_d cX10_travellers 0 (.aload_n 0) 1 1 := ⟨by decide +kernel, rfl⟩
theorem dX10_travellers_1 : ml_d cX10_travellers 1 (.getfield 75) 3 4 := ⟨by decide +kernel, rfl⟩
theorem dX10_travellers_4 : ml_d cX10_travellers 4 (.aload_n 0) 1 5 := ⟨by decide +kernel, rfl⟩
theorem dX10_travellers_5 : ml_d cX10_travellers 5 (.getfield 36) 3 8 := ⟨by decide +kernel, rfl⟩
theorem dX10_travellers_8 : ml_d cX10_travellers 8 (.aload_n 0) 1 9 := ⟨by decide +kernel, rfl⟩
theorem dX10_travellers_9 : ml_d cX10_travellers 9 (.getfield 118) 3 12 := ⟨by decide +kernel, rfl⟩
theorem dX10_travellers_12 : ml_d cX10_travellers 12 (.iconst 1) 1 13 := ⟨by decide +kernel, rfl⟩
theorem dX10_travellers_13 : ml_d cX10_travellers 13 (.aload_n 0) 1 14 := ⟨by decide +kernel, rfl⟩
theorem dX10_travellers_14 : ml_d cX10_travellers 14 (.getfield 118) 3 17 := ⟨by decide +kernel, rfl⟩
theorem dX10_travellers_17 : ml_d cX10_travellers 17 (.ishl) 1 18 := ⟨by decide +kernel, rfl⟩
theorem dX10_travellers_18 : ml_d cX10_travellers 18 (.iconst 1) 1 19 := ⟨by decide +kernel, rfl⟩
theorem dX10_travellers_19 : ml_d cX10_travellers 19 (.isub) 1 20 := ⟨by decide +kernel, rfl⟩
theorem dX10_travellers_20 : ml_d cX10_travellers 20 (.invokevirtual 297) 3 23 := ⟨by decide +kernel, rfl⟩
theorem dX10_travellers_23 : ml_d cX10_travellers 23 (.istore_n 1) 1 24 := ⟨by decide +kernel, rfl⟩
theorem dX10_travellers_24 : ml_d cX10_travellers 24 (.iload_n 1) 1 25 := ⟨by decide +kernel, rfl⟩
theorem dX10_travellers_25 : ml_d cX10_travellers 25 (.bipush 10) 2 27 := ⟨by decide +kernel, rfl⟩
theorem dX10_travellers_27 : ml_j cX10_travellers 27 (.if_icmp .le) 35 30 := ⟨8, by decide +kernel, by decide, rfl⟩
theorem dX10_travellers_30 : ml_d cX10_travellers 30 (.bipush (-6)) 2 32 := ⟨by decide +kernel, rfl⟩
theorem dX10_travellers_32 : ml_j cX10_travellers 32 .goto 42 35 := ⟨10, by decide +kernel, by decide, rfl⟩
theorem dX10_travellers_35 : ml_d cX10_travellers 35 (.aload_n 0) 1 36 := ⟨by decide +kernel, rfl⟩
theorem dX10_travellers_36 : ml_d cX10_travellers 36 (.getfield 75) 3 39 := ⟨by decide +kernel, rfl⟩
theorem dX10_travellers_39 : ml_d cX10_travellers 39 (.invokevirtual 301) 3 42 := ⟨by decide +kernel, rfl⟩
theorem dX10_travellers_42 : ml_d cX10_travellers 42 (.ireturn) 1 43 := ⟨by decide +kernel, rfl⟩
def fX10_travellers (l0 : Nat) (m : ml_M) : Option (Int32 × ml_M) :=
    if (ml_K m l0).1 = 10 then
    ml_let (ml_R m l0 14) fun a1366 =>
    ml_let (ml_R m l0 4) fun a1367 =>
    if (ml_K m a1366).1 = 3 then
    ml_b2 (fX3_gather a1366 a1367 (ml_I m l0 5) (((1 : Int32) <<< ((ml_I m l0 5) &&& 31)) - (1 : Int32)) m) fun r1370 m1371 =>
    if r1370 ≤ (10 : Int32) then
    if (ml_K m1371 l0).1 = 10 then
    ml_let (ml_R m1371 l0 14) fun a1373 =>
    if (ml_K m1371 a1373).1 = 3 then
    ml_b2 (fX3_fewestPeople a1373 m1371) fun r1376 m1377 =>
    some (r1376, m1377)
    else none
    else none
    else
    some ((-6 : Int32), m1371)
    else none
    else none
theorem wX10_travellers_0 {E : ml_E} (hL : ml_eL E = 2) {rv : Int32} {rm : ml_M} (hr : ∀ (pc pc' : Nat) (lv : List (Nat × ml_X)), ml_d cX10_travellers pc .ireturn 1 pc' → True → ml_V E "LostRoom" cX10_travellers 5 false rm pc lv [ml_i rv]) : ∀ (l0 : Nat) (m : ml_M), fX10_travellers l0 m = some (rv, rm) → ml_V E "LostRoom" cX10_travellers 5 false m 0 [(0, ml_r l0)] [] := by
  intro l0 m h
  unfold fX10_travellers at h
  exact ml_aload_n dX10_travellers_0 0 rfl <| ml_ck_of h fun hc1365 h => ml_getR dX10_travellers_1 wb_250 hc1365 <| ml_lx (mk := ml_r) h fun a1366 h => ml_aload_n dX10_travellers_4 0 rfl <| ml_getR dX10_travellers_5 wb_78 hc1365 <| ml_lx (mk := ml_r) h fun a1367 h => ml_aload_n dX10_travellers_8 0 rfl <| ml_getI dX10_travellers_9 wb_77 hc1365 <| ml_iconst dX10_travellers_12 kc_i1 <| ml_aload_n dX10_travellers_13 0 rfl <| ml_getI dX10_travellers_14 wb_77 hc1365 <| ml_ishl dX10_travellers_17 <| ml_iconst dX10_travellers_18 kc_i1 <| ml_isub dX10_travellers_19 <| ml_ck_of h fun hc1369 h => ml_b2_of h fun r1370 m1371 hv1368 h => ml_callV dX10_travellers_20 wm_404 wb_251 hc1369 (sX3_gather hv1368) rfl (Nat.le_of_ble_eq_true rfl) (Nat.le_of_ble_eq_true rfl) rfl <| ml_istore_n (lv' := [(1, ml_i r1370), (0, ml_r l0)]) dX10_travellers_23 (ml_hn hL rfl) rfl <| ml_iload_n dX10_travellers_24 0 rfl <| ml_bipush dX10_travellers_25 kc_b10 <| ml_icmp_le dX10_travellers_27 h (fun _ h => ml_aload_n dX10_travellers_35 1 rfl <| ml_ck_of h fun hc1372 h => ml_getR dX10_travellers_36 wb_250 hc1372 <| ml_lx (mk := ml_r) h fun a1373 h => ml_ck_of h fun hc1375 h => ml_b2_of h fun r1376 m1377 hv1374 h => ml_callV dX10_travellers_39 wm_408 wb_252 hc1375 (sX3_fewestPeople hv1374) rfl (Nat.le_of_ble_eq_true rfl) (Nat.le_of_ble_eq_true rfl) rfl <| ml_rI (mk := ml_i) hr dX10_travellers_42 (fun _ => trivial) h) (fun _ h => ml_bipush dX10_travellers_30 kc_bm6 <| ml_goto dX10_travellers_32 <| ml_rI (mk := ml_i) hr dX10_travellers_42 (fun _ => trivial) h)
theorem sX10_travellers {l0 : Nat} {m : ml_M} {rv : Int32} {rm : ml_M} (h : fX10_travellers l0 m = some (rv, rm)) : ml_Sn yX10_travellers cX10_travellers 2 (some .int) 5 [ml_r l0] m (some (ml_i rv)) rm :=
  ml_Sn_of (P := True) (ini := false) (by decide +kernel) (Nat.le_of_ble_eq_true rfl) (fun h => by cases h) (fun _ => ml_RkI rv) fun E hL hr => wX10_travellers_0 hL hr _ _ h
theorem dX10_water_0 : ml_d cX10_water 0 (.iconst 0) 1 1 := ⟨by decide +kernel, rfl⟩
theorem dX10_water_1 : ml_d cX10_water 1 (.istore_n 1) 1 2 := ⟨by decide +kernel, rfl⟩
theorem dX10_water_2 : ml_d cX10_water 2 (.bipush 10) 2 4 := ⟨by decide +kernel, rfl⟩
theorem dX10_water_4 : ml_d cX10_water 4 (.istore_n 2) 1 5 := ⟨by decide +kernel, rfl⟩
theorem dX10_water_5 : ml_d cX10_water 5 (.iconst 0) 1 6 := ⟨by decide +kernel, rfl⟩
theorem dX10_water_6 : ml_d cX10_water 6 (.istore_n 3) 1 7 := ⟨by decide +kernel, rfl⟩
theorem dX10_water_7 : ml_d cX10_water 7 (.iload_n 3) 1 8 := ⟨by decide +kernel, rfl⟩
theorem dX10_water_8 : ml_d cX10_water 8 (.aload_n 0) 1 9 := ⟨by decide +kernel, rfl⟩
theorem dX10_water_9 : ml_d cX10_water 9 (.getfield 118) 3 12 := ⟨by decide +kernel, rfl⟩
theorem dX10_water_12 : ml_j cX10_water 12 (.if_icmp .ge) 89 15 := ⟨77, by decide +kernel, by decide, rfl⟩
theorem dX10_water_15 : ml_d cX10_water 15 (.aload_n 0) 1 16 := ⟨by decide +kernel, rfl⟩
theorem dX10_water_16 : ml_d cX10_water 16 (.getfield 36) 3 19 := ⟨by decide +kernel, rfl⟩
theorem dX10_water_19 : ml_d cX10_water 19 (.iload_n 3) 1 20 := ⟨by decide +kernel, rfl⟩
theorem dX10_water_20 : ml_d cX10_water 20 (.aaload) 1 21 := ⟨by decide +kernel, rfl⟩
theorem dX10_water_21 : ml_d cX10_water 21 (.astore 4) 2 23 := ⟨by decide +kernel, rfl⟩
theorem dX10_water_23 : ml_d cX10_water 23 (.aload_n 0) 1 24 := ⟨by decide +kernel, rfl⟩
theorem dX10_water_24 : ml_d cX10_water 24 (.aload 4) 2 26 := ⟨by decide +kernel, rfl⟩
theorem dX10_water_26 : ml_d cX10_water 26 (.getfield 175) 3 29 := ⟨by decide +kernel, rfl⟩
theorem dX10_water_29 : ml_d cX10_water 29 (.invokevirtual 148) 3 32 := ⟨by decide +kernel, rfl⟩
theorem dX10_water_32 : ml_j cX10_water 32 (.ifCond .ne) 38 35 := ⟨6, by decide +kernel, by decide, rfl⟩
theorem dX10_water_35 : ml_j cX10_water 35 .goto 83 38 := ⟨48, by decide +kernel, by decide, rfl⟩
theorem dX10_water_38 : ml_d cX10_water 38 (.aload_n 0) 1 39 := ⟨by decide +kernel, rfl⟩
theorem dX10_water_39 : ml_d cX10_water 39 (.getfield 26) 3 42 := ⟨by decide +kernel, rfl⟩
theorem dX10_water_42 : ml_d cX10_water 42 (.getfield 219) 3 45 := ⟨by decide +kernel, rfl⟩
theorem dX10_water_45 : ml_d cX10_water 45 (.aload 4) 2 47 := ⟨by decide +kernel, rfl⟩
theorem dX10_water_47 : ml_d cX10_water 47 (.getfield 175) 3 50 := ⟨by decide +kernel, rfl⟩
theorem dX10_water_50 : ml_d cX10_water 50 (.aaload) 1 51 := ⟨by decide +kernel, rfl⟩
theorem dX10_water_51 : ml_d cX10_water 51 (.getfield 223) 3 54 := ⟨by decide +kernel, rfl⟩
theorem dX10_water_54 : ml_d cX10_water 54 (.istore 5) 2 56 := ⟨by decide +kernel, rfl⟩
theorem dX10_water_56 : ml_d cX10_water 56 (.aload 4) 2 58 := ⟨by decide +kernel, rfl⟩
theorem dX10_water_58 : ml_d cX10_water 58 (.getfield 178) 3 61 := ⟨by decide +kernel, rfl⟩
theorem dX10_water_61 : ml_j cX10_water 61 (.ifCond .eq) 76 64 := ⟨15, by decide +kernel, by decide, rfl⟩
theorem dX10_water_64 : ml_d cX10_water 64 (.iload_n 1) 1 65 := ⟨by decide +kernel, rfl⟩
theorem dX10_water_65 : ml_d cX10_water 65 (.iload 5) 2 67 := ⟨by decide +kernel, rfl⟩
theorem dX10_water_67 : ml_d cX10_water 67 (.iconst 1) 1 68 := ⟨by decide +kernel, rfl⟩
theorem dX10_water_68 : ml_d cX10_water 68 (.iadd) 1 69 := ⟨by decide +kernel, rfl⟩
theorem dX10_water_69 : ml_d cX10_water 69 (.invokestatic 228) 3 72 := ⟨by decide +kernel, rfl⟩
theorem dX10_water_72 : ml_d cX10_water 72 (.istore_n 1) 1 73 := ⟨by decide +kernel, rfl⟩
theorem dX10_water_73 : ml_j cX10_water 73 .goto 83 76 := ⟨10, by decide +kernel, by decide, rfl⟩
theorem dX10_water_76 : ml_d cX10_water 76 (.iload_n 2) 1 77 := ⟨by decide +kernel, rfl⟩
theorem dX10_water_77 : ml_d cX10_water 77 (.iload 5) 2 79 := ⟨by decide +kernel, rfl⟩
theorem dX10_water_79 : ml_d cX10_water 79 (.invokestatic 233) 3 82 := ⟨by decide +kernel, rfl⟩
theorem dX10_water_82 : ml_d cX10_water 82 (.istore_n 2) 1 83 := ⟨by decide +kernel, rfl⟩
theorem dX10_water_83 : ml_d cX10_water 83 (.iinc 3 1) 3 86 := ⟨by decide +kernel, rfl⟩
theorem dX10_water_86 : ml_j cX10_water 86 .goto 7 89 := ⟨(-79), by decide +kernel, by decide, rfl⟩
theorem dX10_water_89 : ml_d cX10_water 89 (.iload_n 1) 1 90 := ⟨by decide +kernel, rfl⟩
theorem dX10_water_90 : ml_d cX10_water 90 (.iload_n 2) 1 91 := ⟨by decide +kernel, rfl⟩
theorem dX10_water_91 : ml_j cX10_water 91 (.if_icmp .le) 97 94 := ⟨6, by decide +kernel, by decide, rfl⟩
theorem dX10_water_94 : ml_d cX10_water 94 (.bipush (-9)) 2 96 := ⟨by decide +kernel, rfl⟩
theorem dX10_water_96 : ml_d cX10_water 96 (.ireturn) 1 97 := ⟨by decide +kernel, rfl⟩
theorem dX10_water_97 : ml_d cX10_water 97 (.aload_n 0) 1 98 := ⟨by decide +kernel, rfl⟩
theorem dX10_water_98 : ml_d cX10_water 98 (.iload_n 2) 1 99 := ⟨by decide +kernel, rfl⟩
theorem dX10_water_99 : ml_d cX10_water 99 (.putfield 203) 3 102 := ⟨by decide +kernel, rfl⟩
theorem dX10_water_102 : ml_d cX10_water 102 (.iload_n 1) 1 103 := ⟨by decide +kernel, rfl⟩
theorem dX10_water_103 : ml_d cX10_water 103 (.ireturn) 1 104 := ⟨by decide +kernel, rfl⟩
def fX10_water_83 (k7 : Nat → Int32 → Int32 → Int32 → ml_M → Option (Int32 × ml_M)) (l0 : Nat) (l1 : Int32) (l2 : Int32) (l3 : Int32) (m : ml_M) : Option (Int32 × ml_M) :=
    k7 l0 l1 l2 (l3 + (1 : Int32)) m
theorem vX10_water_83 {E : ml_E} (hL : ml_eL E = 6) {rv : Int32} {rm : ml_M} (hr : ∀ (pc pc' : Nat) (lv : List (Nat × ml_X)), ml_d cX10_water pc .ireturn 1 pc' → True → ml_V E "LostRoom" cX10_water 4 false rm pc lv [ml_i rv]) {k7 : Nat → Int32 → Int32 → Int32 → ml_M → Option (Int32 × ml_M)} (hk7 : ∀ (l0 : Nat) (l1 : Int32) (l2 : Int32) (l3 : Int32) (m : ml_M), k7 l0 l1 l2 l3 m = some (rv, rm) → ml_V E "LostRoom" cX10_water 4 false m 7 [(0, ml_r l0), (1, ml_i l1), (2, ml_i l2), (3, ml_i l3)] []) : ∀ (l0 : Nat) (l1 : Int32) (l2 : Int32) (l3 : Int32) (m : ml_M), fX10_water_83 k7 l0 l1 l2 l3 m = some (rv, rm) → ml_V E "LostRoom" cX10_water 4 false m 83 [(0, ml_r l0), (1, ml_i l1), (2, ml_i l2), (3, ml_i l3)] [] := by
  intro l0 l1 l2 l3 m h
  unfold fX10_water_83 at h
  exact ml_iinc (lv' := [(3, ml_i (l3 + (1 : Int32))), (0, ml_r l0), (1, ml_i l1), (2, ml_i l2)]) dX10_water_83 3 rfl (congrArg (l3 + ·) kc_i1) (ml_hn hL rfl) rfl <| ml_goto dX10_water_86 <| ml_V.sub [1, 2, 3, 0] rfl (hk7 _ _ _ _ _ h)
def fX10_water_89 (l0 : Nat) (l1 : Int32) (l2 : Int32) (m : ml_M) : Option (Int32 × ml_M) :=
    if l1 ≤ l2 then
    if (ml_K m l0).1 = 10 then
    ml_let (ml_sI m l0 15 l2) fun m1379 =>
    some (l1, m1379)
    else none
    else
    some ((-9 : Int32), m)
theorem vX10_water_89 {E : ml_E} (hL : ml_eL E = 6) {rv : Int32} {rm : ml_M} (hr : ∀ (pc pc' : Nat) (lv : List (Nat × ml_X)), ml_d cX10_water pc .ireturn 1 pc' → True → ml_V E "LostRoom" cX10_water 4 false rm pc lv [ml_i rv]) : ∀ (l0 : Nat) (l1 : Int32) (l2 : Int32) (m : ml_M), fX10_water_89 l0 l1 l2 m = some (rv, rm) → ml_V E "LostRoom" cX10_water 4 false m 89 [(0, ml_r l0), (1, ml_i l1), (2, ml_i l2)] [] := by
  intro l0 l1 l2 m h
  unfold fX10_water_89 at h
  exact ml_iload_n dX10_water_89 1 rfl <| ml_iload_n dX10_water_90 2 rfl <| ml_icmp_le dX10_water_91 h (fun _ h => ml_aload_n dX10_water_97 0 rfl <| ml_iload_n dX10_water_98 2 rfl <| ml_ck_of h fun hc1378 h => ml_putI dX10_water_99 wb_81 hc1378 <| ml_lt (m := m) rfl h fun m1379 em1380 h => ml_iload_n dX10_water_102 1 rfl <| ml_rI (mk := ml_i) hr dX10_water_103 (fun _ => trivial) h) (fun _ h => ml_bipush dX10_water_94 kc_bm9 <| ml_rI (mk := ml_i) hr dX10_water_96 (fun _ => trivial) h)
def fX10_water_7 : Nat → Nat → Int32 → Int32 → Int32 → ml_M → Option (Int32 × ml_M)
  | 0, _, _, _, _, _ => none
  | fu + 1, l0, l1, l2, l3, m =>
    if (ml_K m l0).1 = 10 then
    if (ml_I m l0 5) ≤ l3 then
    fX10_water_89 l0 l1 l2 m
    else
    ml_let (ml_R m l0 4) fun a1382 =>
    if ml_in m a1382 29 l3 then
    ml_let (ml_R m a1382 l3.toNatClampNeg) fun a1384 =>
    if (ml_K m a1384).1 = 8 then
    ml_b1 (fX10_isTrunk l0 (ml_I m a1384 6) m) fun r1387 =>
    if r1387 = 0 then
    fX10_water_83 (fX10_water_7 fu) l0 l1 l2 l3 m
    else
    ml_let (ml_R m l0 2) fun a1388 =>
    if (ml_K m a1388).1 = 1 then
    ml_let (ml_R m a1388 1) fun a1390 =>
    if ml_in m a1390 30 (ml_I m a1384 6) then
    ml_let (ml_R m a1390 (ml_I m a1384 6).toNatClampNeg) fun a1392 =>
    if (ml_K m a1392).1 = 9 then
    ml_let (ml_I m a1392 1) fun x1394 =>
    if (ml_I m a1384 7) = 0 then
    ml_let (if x1394 < l2 then x1394 else l2) fun x1395 =>
    fX10_water_83 (fX10_water_7 fu) l0 l1 x1395 l3 m
    else
    ml_let (if l1 < (x1394 + (1 : Int32)) then (x1394 + (1 : Int32)) else l1) fun x1396 =>
    fX10_water_83 (fX10_water_7 fu) l0 x1396 l2 l3 m
    else none
    else none
    else none
    else none
    else none
    else none
theorem vX10_water_7 {E : ml_E} (hL : ml_eL E = 6) {rv : Int32} {rm : ml_M} (hr : ∀ (pc pc' : Nat) (lv : List (Nat × ml_X)), ml_d cX10_water pc .ireturn 1 pc' → True → ml_V E "LostRoom" cX10_water 4 false rm pc lv [ml_i rv]) : ∀ (fu : Nat) (l0 : Nat) (l1 : Int32) (l2 : Int32) (l3 : Int32) (m : ml_M), fX10_water_7 fu l0 l1 l2 l3 m = some (rv, rm) → ml_V E "LostRoom" cX10_water 4 false m 7 [(0, ml_r l0), (1, ml_i l1), (2, ml_i l2), (3, ml_i l3)] [] := by
  intro fu
  induction fu with
  | zero => intro l0 l1 l2 l3 m h; exact ml_none h
  | succ fu ih =>
    intro l0 l1 l2 l3 m h
    have hk7 := ih
    unfold fX10_water_7 at h
    exact ml_iload_n dX10_water_7 3 rfl <| ml_aload_n dX10_water_8 0 rfl <| ml_ck_of h fun hc1381 h => ml_getI dX10_water_9 wb_77 hc1381 <| ml_icmp_ge dX10_water_12 h (fun _ h => ml_V.sub [0, 1, 2] rfl (vX10_water_89 hL hr  _ _ _ _ h)) (fun _ h => ml_aload_n dX10_water_15 0 rfl <| ml_getR dX10_water_16 wb_78 hc1381 <| ml_lx (mk := ml_r) h fun a1382 h => ml_iload_n dX10_water_19 3 rfl <| ml_ck_of h fun hi1383 h => ml_aald (kd := 29) dX10_water_20 (by decide) hi1383 <| ml_lx (mk := ml_r) h fun a1384 h => ml_astore (lv' := [(4, ml_r a1384), (0, ml_r l0), (1, ml_i l1), (2, ml_i l2), (3, ml_i l3)]) dX10_water_21 (ml_hn hL rfl) rfl <| ml_aload_n dX10_water_23 1 rfl <| ml_aload dX10_water_24 0 rfl <| ml_ck_of h fun hc1385 h => ml_getI dX10_water_26 wb_233 hc1385 <| ml_b1_of h fun r1387 hv1386 h => ml_callV dX10_water_29 wm_286 wb_173 hc1381 (sX10_isTrunk hv1386) rfl (Nat.le_of_ble_eq_true rfl) (Nat.le_of_ble_eq_true rfl) rfl <| ml_if_ne dX10_water_32 h (fun _ h => ml_aload_n dX10_water_38 1 rfl <| ml_getR dX10_water_39 wb_71 hc1381 <| ml_lx (mk := ml_r) h fun a1388 h => ml_ck_of h fun hc1389 h => ml_getR dX10_water_42 wb_180 hc1389 <| ml_lx (mk := ml_r) h fun a1390 h => ml_aload dX10_water_45 0 rfl <| ml_getI dX10_water_47 wb_233 hc1385 <| ml_ck_of h fun hi1391 h => ml_aald (kd := 30) dX10_water_50 (by decide) hi1391 <| ml_lx (mk := ml_r) h fun a1392 h => ml_ck_of h fun hc1393 h => ml_getI dX10_water_51 wb_253 hc1393 <| ml_lx (mk := ml_i) h fun x1394 h => ml_istore (lv' := [(5, ml_i x1394), (4, ml_r a1384), (0, ml_r l0), (1, ml_i l1), (2, ml_i l2), (3, ml_i l3)]) dX10_water_54 (ml_hn hL rfl) rfl <| ml_aload dX10_water_56 1 rfl <| ml_getI dX10_water_58 wb_254 hc1385 <| ml_if_eq dX10_water_61 h (fun _ h => ml_iload_n dX10_water_76 4 rfl <| ml_iload dX10_water_77 0 rfl <| ml_mmin dX10_water_79 wb_255 (Nat.le_of_ble_eq_true rfl) (Nat.le_of_ble_eq_true rfl) <| ml_lx (mk := ml_i) h fun x1395 h => ml_istore_n (lv' := [(2, ml_i x1395), (5, ml_i x1394), (4, ml_r a1384), (0, ml_r l0), (1, ml_i l1), (3, ml_i l3)]) dX10_water_82 (ml_hn hL rfl) rfl <| ml_V.sub [3, 4, 0, 5] rfl (vX10_water_83 hL hr hk7 _ _ _ _ _ h)) (fun _ h => ml_iload_n dX10_water_64 3 rfl <| ml_iload dX10_water_65 0 rfl <| ml_iconst dX10_water_67 kc_i1 <| ml_iadd dX10_water_68 <| ml_mmax dX10_water_69 wb_256 (Nat.le_of_ble_eq_true rfl) (Nat.le_of_ble_eq_true rfl) <| ml_lx (mk := ml_i) h fun x1396 h => ml_istore_n (lv' := [(1, ml_i x1396), (5, ml_i x1394), (4, ml_r a1384), (0, ml_r l0), (2, ml_i l2), (3, ml_i l3)]) dX10_water_72 (ml_hn hL rfl) rfl <| ml_goto dX10_water_73 <| ml_V.sub [3, 0, 4, 5] rfl (vX10_water_83 hL hr hk7 _ _ _ _ _ h))) (fun _ h => ml_goto dX10_water_35 <| ml_V.sub [1, 2, 3, 4] rfl (vX10_water_83 hL hr hk7 _ _ _ _ _ h)))
def fX10_water (l0 : Nat) (m : ml_M) : Option (Int32 × ml_M) :=
    fX10_water_7 ml_fu l0 (0 : Int32) (10 : Int32) (0 : Int32) m
theorem wX10_water_0 {E : ml_E} (hL : ml_eL E = 6) {rv : Int32} {rm : ml_M} (hr : ∀ (pc pc' : Nat) (lv : List (Nat × ml_X)), ml_d cX10_water pc .ireturn 1 pc' → True → ml_V E "LostRoom" cX10_water 4 false rm pc lv [ml_i rv]) : ∀ (l0 : Nat) (m : ml_M), fX10_water l0 m = some (rv, rm) → ml_V E "LostRoom" cX10_water 4 false m 0 [(0, ml_r l0)] [] := by
  intro l0 m h
  unfold fX10_water at h
  exact ml_iconst dX10_water_0 kc_i0 <| ml_istore_n (lv' := [(1, ml_i (0 : Int32)), (0, ml_r l0)]) dX10_water_1 (ml_hn hL rfl) rfl <| ml_bipush dX10_water_2 kc_b10 <| ml_istore_n (lv' := [(2, ml_i (10 : Int32)), (1, ml_i (0 : Int32)), (0, ml_r l0)]) dX10_water_4 (ml_hn hL rfl) rfl <| ml_iconst dX10_water_5 kc_i0 <| ml_istore_n (lv' := [(3, ml_i (0 : Int32)), (2, ml_i (10 : Int32)), (1, ml_i (0 : Int32)), (0, ml_r l0)]) dX10_water_6 (ml_hn hL rfl) rfl <| ml_V.sub [3, 2, 1, 0] rfl (vX10_water_7 hL hr  ml_fu _ _ _ _ _ h)
theorem sX10_water {l0 : Nat} {m : ml_M} {rv : Int32} {rm : ml_M} (h : fX10_water l0 m = some (rv, rm)) : ml_Sn yX10_water cX10_water 6 (some .int) 4 [ml_r l0] m (some (ml_i rv)) rm :=
  ml_Sn_of (P := True) (ini := false) (by decide +kernel) (Nat.le_of_ble_eq_true rfl) (fun h => by cases h) (fun _ => ml_RkI rv) fun E hL hr => wX10_water_0 hL hr _ _ h
theorem dX10_ways_0 : ml_d cX10_ways 0 (.iload_n 1) 1 1 := ⟨by decide +kernel, rfl⟩
theorem dX10_ways_1 : ml_d cX10_ways 1 (.iconst 0) 1 2 := ⟨by decide +kernel, rfl⟩
theorem dX10_ways_2 : ml_d cX10_ways 2 (.bipush 20) 2 4 := ⟨by decide +kernel, rfl⟩
theorem dX10_ways_4 : ml_d cX10_ways 4 (.invokestatic 138) 3 7 := ⟨by decide +kernel, rfl⟩
theorem dX10_ways_7 : ml_j cX10_ways 7 (.ifCond .ne) 12 10 := ⟨5, by decide +kernel, by decide, rfl⟩
theorem dX10_ways_10 : ml_d cX10_ways 10 (.iconst (-1)) 1 11 := ⟨by decide +kernel, rfl⟩
theorem dX10_ways_11 : ml_d cX10_ways 11 (.ireturn) 1 12 := ⟨by decide +kernel, rfl⟩
theorem dX10_ways_12 : ml_d cX10_ways 12 (.aload_n 0) 1 13 := ⟨by decide +kernel, rfl⟩
theorem dX10_ways_13 : ml_d cX10_ways 13 (.invokevirtual 243) 3 16 := ⟨by decide +kernel, rfl⟩
theorem dX10_ways_16 : ml_d cX10_ways 16 (.aload_n 0) 1 17 := ⟨by decide +kernel, rfl⟩
theorem dX10_ways_17 : ml_d cX10_ways 17 (.getfield 61) 3 20 := ⟨by decide +kernel, rfl⟩
theorem dX10_ways_20 : ml_d cX10_ways 20 (.getfield 256) 3 23 := ⟨by decide +kernel, rfl⟩
theorem dX10_ways_23 : ml_d cX10_ways 23 (.iload_n 1) 1 24 := ⟨by decide +kernel, rfl⟩
theorem dX10_ways_24 : ml_d cX10_ways 24 (.iaload) 1 25 := ⟨by decide +kernel, rfl⟩
theorem dX10_ways_25 : ml_d cX10_ways 25 (.ireturn) 1 26 := ⟨by decide +kernel, rfl⟩
def fX10_ways (l0 : Nat) (l1 : Int32) (m : ml_M) : Option (Int32 × ml_M) :=
    ml_b1 (fX10_within l1 (0 : Int32) (20 : Int32) m) fun r1398 =>
    if r1398 = 0 then
    some ((-1 : Int32), m)
    else
    if (ml_K m l0).1 = 10 then
    ml_b1 (fX10_refreshSharings l0 m) fun m1401 =>
    if (ml_K m1401 l0).1 = 10 then
    ml_let (ml_R m1401 l0 12) fun a1403 =>
    if (ml_K m1401 a1403).1 = 7 then
    ml_let (ml_R m1401 a1403 3) fun a1405 =>
    if ml_in m1401 a1405 20 l1 then
    some ((ml_I m1401 a1405 l1.toNatClampNeg), m1401)
    else none
    else none
    else none
    else none
theorem wX10_ways_0 {E : ml_E} (hL : ml_eL E = 2) {rv : Int32} {rm : ml_M} (hr : ∀ (pc pc' : Nat) (lv : List (Nat × ml_X)), ml_d cX10_ways pc .ireturn 1 pc' → True → ml_V E "LostRoom" cX10_ways 19 false rm pc lv [ml_i rv]) : ∀ (l0 : Nat) (l1 : Int32) (m : ml_M), fX10_ways l0 l1 m = some (rv, rm) → ml_V E "LostRoom" cX10_ways 19 false m 0 [(0, ml_r l0), (1, ml_i l1)] [] := by
  intro l0 l1 m h
  unfold fX10_ways at h
  exact ml_iload_n dX10_ways_0 1 rfl <| ml_iconst dX10_ways_1 kc_i0 <| ml_bipush dX10_ways_2 kc_b20 <| ml_b1_of h fun r1398 hv1397 h => ml_callS dX10_ways_4 wm_21 wb_4 (sX10_within hv1397) rfl (Nat.le_of_ble_eq_true rfl) (Nat.le_of_ble_eq_true rfl) rfl <| ml_if_ne dX10_ways_7 h (fun _ h => ml_aload_n dX10_ways_12 0 rfl <| ml_ck_of h fun hc1400 h => ml_b1_of h fun m1401 hv1399 h => ml_callV dX10_ways_13 wm_360 wb_223 hc1400 (sX10_refreshSharings hv1399) rfl (Nat.le_of_ble_eq_true rfl) (Nat.le_of_ble_eq_true rfl) rfl <| ml_aload_n dX10_ways_16 0 rfl <| ml_ck_of h fun hc1402 h => ml_getR dX10_ways_17 wb_67 hc1402 <| ml_lx (mk := ml_r) h fun a1403 h => ml_ck_of h fun hc1404 h => ml_getR dX10_ways_20 wb_257 hc1404 <| ml_lx (mk := ml_r) h fun a1405 h => ml_iload_n dX10_ways_23 1 rfl <| ml_ck_of h fun hi1406 h => ml_iald dX10_ways_24 hi1406 <| ml_rI (mk := ml_i) hr dX10_ways_25 (fun _ => trivial) h) (fun _ h => ml_iconst dX10_ways_10 kc_im1 <| ml_rI (mk := ml_i) hr dX10_ways_11 (fun _ => trivial) h)
theorem sX10_ways {l0 : Nat} {l1 : Int32} {m : ml_M} {rv : Int32} {rm : ml_M} (h : fX10_ways l0 l1 m = some (rv, rm)) : ml_Sn yX10_ways cX10_ways 2 (some .int) 19 [ml_r l0, ml_i l1] m (some (ml_i rv)) rm :=
  ml_Sn_of (P := True) (ini := false) (by decide +kernel) (Nat.le_of_ble_eq_true rfl) (fun h => by cases h) (fun _ => ml_RkI rv) fun E hL hr => wX10_ways_0 hL hr _ _ _ h
theorem dX7_withPair_0 : ml_d cX7_withPair 0 (.aload_n 0) 1 1 := ⟨by decide +kernel, rfl⟩
theorem dX7_withPair_1 : ml_d cX7_withPair 1 (.getfield 22) 3 4 := ⟨by decide +kernel, rfl⟩
theorem dX7_withPair_4 : ml_d cX7_withPair 4 (.iload_n 1) 1 5 := ⟨by decide +kernel, rfl⟩
theorem dX7_withPair_5 : ml_d cX7_withPair 5 (.bipush 64) 2 7 := ⟨by decide +kernel, rfl⟩
theorem dX7_withPair_7 : ml_d cX7_withPair 7 (.imul) 1 8 := ⟨by decide +kernel, rfl⟩
theorem dX7_withPair_8 : ml_d cX7_withPair 8 (.iload_n 2) 1 9 := ⟨by decide +kernel, rfl⟩
theorem dX7_withPair_9 : ml_d cX7_withPair 9 (.bipush 8) 2 11 := ⟨by decide +kernel, rfl⟩
theorem dX7_withPair_11 : ml_d cX7_withPair 11 (.imul) 1 12 := ⟨by decide +kernel, rfl⟩
theorem dX7_withPair_12 : ml_d cX7_withPair 12 (.iadd) 1 13 := ⟨by decide +kernel, rfl⟩
theorem dX7_withPair_13 : ml_d cX7_withPair 13 (.iload_n 3) 1 14 := ⟨by decide +kernel, rfl⟩
theorem dX7_withPair_14 : ml_d cX7_withPair 14 (.iadd) 1 15 := ⟨by decide +kernel, rfl⟩
theorem dX7_withPair_15 : ml_d cX7_withPair 15 (.iaload) 1 16 := ⟨by decide +kernel, rfl⟩
theorem dX7_withPair_16 : ml_d cX7_withPair 16 (.ireturn) 1 17 := ⟨by decide +kernel, rfl⟩
def fX7_withPair (l0 : Nat) (l1 : Int32) (l2 : Int32) (l3 : Int32) (m : ml_M) : Option Int32 :=
    if (ml_K m l0).1 = 7 then
    ml_let (ml_R m l0 4) fun a1408 =>
    if ml_in m a1408 20 (((l1 * (64 : Int32)) + (l2 * (8 : Int32))) + l3) then
    some (ml_I m a1408 (((l1 * (64 : Int32)) + (l2 * (8 : Int32))) + l3).toNatClampNeg)
    else none
    else none
theorem wX7_withPair_0 {E : ml_E} (hL : ml_eL E = 4) {rv : Int32} {m : ml_M} (hr : ∀ (pc pc' : Nat) (lv : List (Nat × ml_X)), ml_d cX7_withPair pc .ireturn 1 pc' → True → ml_V E "LostRoom$Sharings" cX7_withPair 2 false m pc lv [ml_i rv]) : ∀ (l0 : Nat) (l1 : Int32) (l2 : Int32) (l3 : Int32), fX7_withPair l0 l1 l2 l3 m = some rv → ml_V E "LostRoom$Sharings" cX7_withPair 2 false m 0 [(0, ml_r l0), (1, ml_i l1), (2, ml_i l2), (3, ml_i l3)] [] := by
  intro l0 l1 l2 l3 h
  unfold fX7_withPair at h
  exact ml_aload_n dX7_withPair_0 0 rfl <| ml_ck_of h fun hc1407 h => ml_getR dX7_withPair_1 wb_201 hc1407 <| ml_lx (mk := ml_r) h fun a1408 h => ml_iload_n dX7_withPair_4 1 rfl <| ml_bipush dX7_withPair_5 kc_b64 <| ml_imul dX7_withPair_7 <| ml_iload_n dX7_withPair_8 2 rfl <| ml_bipush dX7_withPair_9 kc_b8 <| ml_imul dX7_withPair_11 <| ml_iadd dX7_withPair_12 <| ml_iload_n dX7_withPair_13 3 rfl <| ml_iadd dX7_withPair_14 <| ml_ck_of h fun hi1409 h => ml_iald dX7_withPair_15 hi1409 <| ml_rp (mk := ml_i) hr dX7_withPair_16 (fun _ => trivial) h
theorem sX7_withPair {l0 : Nat} {l1 : Int32} {l2 : Int32} {l3 : Int32} {m : ml_M} {rv : Int32} (h : fX7_withPair l0 l1 l2 l3 m = some rv) : ml_Sn yX7_withPair cX7_withPair 4 (some .int) 2 [ml_r l0, ml_i l1, ml_i l2, ml_i l3] m (some (ml_i rv)) m :=
  ml_Sn_of (P := True) (ini := false) (by decide +kernel) (Nat.le_of_ble_eq_true rfl) (fun h => by cases h) (fun _ => ml_RkI rv) fun E hL hr => wX7_withPair_0 hL hr _ _ _ _ h
theorem dX10_sure_0 : ml_d cX10_sure 0 (.iload_n 1) 1 1 := ⟨by decide +kernel, rfl⟩
theorem dX10_sure_1 : ml_d cX10_sure 1 (.iconst 0) 1 2 := ⟨by decide +kernel, rfl⟩
theorem dX10_sure_2 : ml_d cX10_sure 2 (.bipush 20) 2 4 := ⟨by decide +kernel, rfl⟩
theorem dX10_sure_4 : ml_d cX10_sure 4 (.invokestatic 138) 3 7 := ⟨by decide +kernel, rfl⟩
theorem dX10_sure_7 : ml_j cX10_sure 7 (.ifCond .ne) 12 10 := ⟨5, by decide +kernel, by decide, rfl⟩
theorem dX10_sure_10 : ml_d cX10_sure 10 (.iconst (-1)) 1 11 := ⟨by decide +kernel, rfl⟩
theorem dX10_sure_11 : ml_d cX10_sure 11 (.ireturn) 1 12 := ⟨by decide +kernel, rfl⟩
theorem dX10_sure_12 : ml_d cX10_sure 12 (.aload_n 0) 1 13 := ⟨by decide +kernel, rfl⟩
theorem dX10_sure_13 : ml_d cX10_sure 13 (.invokevirtual 243) 3 16 := ⟨by decide +kernel, rfl⟩
theorem dX10_sure_16 : ml_d cX10_sure 16 (.aload_n 0) 1 17 := ⟨by decide +kernel, rfl⟩
theorem dX10_sure_17 : ml_d cX10_sure 17 (.getfield 61) 3 20 := ⟨by decide +kernel, rfl⟩
theorem dX10_sure_20 : ml_d cX10_sure 20 (.getfield 256) 3 23 := ⟨by decide +kernel, rfl⟩
theorem dX10_sure_23 : ml_d cX10_sure 23 (.iload_n 1) 1 24 := ⟨by decide +kernel, rfl⟩
theorem dX10_sure_24 : ml_d cX10_sure 24 (.iaload) 1 25 := ⟨by decide +kernel, rfl⟩
theorem dX10_sure_25 : ml_d cX10_sure 25 (.istore_n 2) 1 26 := ⟨by decide +kernel, rfl⟩
theorem dX10_sure_26 : ml_d cX10_sure 26 (.iload_n 2) 1 27 := ⟨by decide +kernel, rfl⟩
theorem dX10_sure_27 : ml_j cX10_sure 27 (.ifCond .ne) 33 30 := ⟨6, by decide +kernel, by decide, rfl⟩
theorem dX10_sure_30 : ml_d cX10_sure 30 (.bipush (-9)) 2 32 := ⟨by decide +kernel, rfl⟩
theorem dX10_sure_32 : ml_d cX10_sure 32 (.ireturn) 1 33 := ⟨by decide +kernel, rfl⟩
theorem dX10_sure_33 : ml_d cX10_sure 33 (.iconst 0) 1 34 := ⟨by decide +kernel, rfl⟩
theorem dX10_sure_34 : ml_d cX10_sure 34 (.istore_n 3) 1 35 := ⟨by decide +kernel, rfl⟩
theorem dX10_sure_35 : ml_d cX10_sure 35 (.iconst 0) 1 36 := ⟨by decide +kernel, rfl⟩
theorem dX10_sure_36 : ml_d cX10_sure 36 (.istore 4) 2 38 := ⟨by decide +kernel, rfl⟩
theorem dX10_sure_38 : ml_d cX10_sure 38 (.iconst 0) 1 39 := ⟨by decide +kernel, rfl⟩
theorem dX10_sure_39 : ml_d cX10_sure 39 (.istore 5) 2 41 := ⟨by decide +kernel, rfl⟩
theorem dX10_sure_41 : ml_d cX10_sure 41 (.iload 5) 2 43 := ⟨by decide +kernel, rfl⟩
theorem dX10_sure_43 : ml_d cX10_sure 43 (.aload_n 0) 1 44 := ⟨by decide +kernel, rfl⟩
theorem dX10_sure_44 : ml_d cX10_sure 44 (.getfield 26) 3 47 := ⟨by decide +kernel, rfl⟩
theorem dX10_sure_47 : ml_d cX10_sure 47 (.getfield 193) 3 50 := ⟨by decide +kernel, rfl⟩
theorem dX10_sure_50 : ml_j cX10_sure 50 (.if_icmp .ge) 127 53 := ⟨77, by decide +kernel, by decide, rfl⟩
theorem dX10_sure_53 : ml_d cX10_sure 53 (.iconst 0) 1 54 := ⟨by decide +kernel, rfl⟩
theorem dX10_sure_54 : ml_d cX10_sure 54 (.istore 6) 2 56 := ⟨by decide +kernel, rfl⟩
theorem dX10_sure_56 : ml_d cX10_sure 56 (.iconst 0) 1 57 := ⟨by decide +kernel, rfl⟩
theorem dX10_sure_57 : ml_d cX10_sure 57 (.istore 7) 2 59 := ⟨by decide +kernel, rfl⟩
theorem dX10_sure_59 : ml_d cX10_sure 59 (.iload 7) 2 61 := ⟨by decide +kernel, rfl⟩
theorem dX10_sure_61 : ml_d cX10_sure 61 (.aload_n 0) 1 62 := ⟨by decide +kernel, rfl⟩
theorem dX10_sure_62 : ml_d cX10_sure 62 (.getfield 26) 3 65 := ⟨by decide +kernel, rfl⟩
theorem dX10_sure_65 : ml_d cX10_sure 65 (.getfield 135) 3 68 := ⟨by decide +kernel, rfl⟩
theorem dX10_sure_68 : ml_j cX10_sure 68 (.if_icmp .ge) 94 71 := ⟨26, by decide +kernel, by decide, rfl⟩
theorem dX10_sure_71 : ml_d cX10_sure 71 (.iload 6) 2 73 := ⟨by decide +kernel, rfl⟩
theorem dX10_sure_73 : ml_d cX10_sure 73 (.aload_n 0) 1 74 := ⟨by decide +kernel, rfl⟩
theorem dX10_sure_74 : ml_d cX10_sure 74 (.getfield 61) 3 77 := ⟨by decide +kernel, rfl⟩
theorem dX10_sure_77 : ml_d cX10_sure 77 (.iload_n 1) 1 78 := ⟨by decide +kernel, rfl⟩
theorem dX10_sure_78 : ml_d cX10_sure 78 (.iload 7) 2 80 := ⟨by decide +kernel, rfl⟩
theorem dX10_sure_80 : ml_d cX10_sure 80 (.iload 5) 2 82 := ⟨by decide +kernel, rfl⟩
theorem dX10_sure_82 : ml_d cX10_sure 82 (.invokevirtual 259) 3 85 := ⟨by decide +kernel, rfl⟩
theorem dX10_sure_85 : ml_d cX10_sure 85 (.iadd) 1 86 := ⟨by decide +kernel, rfl⟩
theorem dX10_sure_86 : ml_d cX10_sure 86 (.istore 6) 2 88 := ⟨by decide +kernel, rfl⟩
theorem dX10_sure_88 : ml_d cX10_sure 88 (.iinc 7 1) 3 91 := ⟨by decide +kernel, rfl⟩
theorem dX10_sure_91 : ml_j cX10_sure 91 .goto 59 94 := ⟨(-32), by decide +kernel, by decide, rfl⟩
theorem dX10_sure_94 : ml_d cX10_sure 94 (.iload 6) 2 96 := ⟨by decide +kernel, rfl⟩
theorem dX10_sure_96 : ml_d cX10_sure 96 (.iload_n 2) 1 97 := ⟨by decide +kernel, rfl⟩
theorem dX10_sure_97 : ml_j cX10_sure 97 (.if_icmp .ne) 107 100 := ⟨10, by decide +kernel, by decide, rfl⟩
theorem dX10_sure_100 : ml_d cX10_sure 100 (.iload_n 3) 1 101 := ⟨by decide +kernel, rfl⟩
theorem dX10_sure_101 : ml_d cX10_sure 101 (.iconst 1) 1 102 := ⟨by decide +kernel, rfl⟩
theorem dX10_sure_102 : ml_d cX10_sure 102 (.iload 5) 2 104 := ⟨by decide +kernel, rfl⟩
theorem dX10_sure_104 : ml_d cX10_sure 104 (.ishl) 1 105 := ⟨by decide +kernel, rfl⟩
theorem dX10_sure_105 : ml_d cX10_sure 105 (.ior) 1 106 := ⟨by decide +kernel, rfl⟩
theorem dX10_sure_106 : ml_d cX10_sure 106 (.istore_n 3) 1 107 := ⟨by decide +kernel, rfl⟩
theorem dX10_sure_107 : ml_d cX10_sure 107 (.iload 6) 2 109 := ⟨by decide +kernel, rfl⟩
theorem dX10_sure_109 : ml_j cX10_sure 109 (.ifCond .le) 121 112 := ⟨12, by decide +kernel, by decide, rfl⟩
theorem dX10_sure_112 : ml_d cX10_sure 112 (.iload 4) 2 114 := ⟨by decide +kernel, rfl⟩
theorem dX10_sure_114 : ml_d cX10_sure 114 (.iconst 1) 1 115 := ⟨by decide +kernel, rfl⟩
theorem dX10_sure_115 : ml_d cX10_sure 115 (.iload 5) 2 117 := ⟨by decide +kernel, rfl⟩
theorem dX10_sure_117 : ml_d cX10_sure 117 (.ishl) 1 118 := ⟨by decide +kernel, rfl⟩
theorem dX10_sure_118 : ml_d cX10_sure 118 (.ior) 1 119 := ⟨by decide +kernel, rfl⟩
theorem dX10_sure_119 : ml_d cX10_sure 119 (.istore 4) 2 121 := ⟨by decide +kernel, rfl⟩
theorem dX10_sure_121 : ml_d cX10_sure 121 (.iinc 5 1) 3 124 := ⟨by decide +kernel, rfl⟩
theorem dX10_sure_124 : ml_j cX10_sure 124 .goto 41 127 := ⟨(-83), by decide +kernel, by decide, rfl⟩
theorem dX10_sure_127 : ml_d cX10_sure 127 (.aload_n 0) 1 128 := ⟨by decide +kernel, rfl⟩
theorem dX10_sure_128 : ml_d cX10_sure 128 (.iload 4) 2 130 := ⟨by decide +kernel, rfl⟩
theorem dX10_sure_130 : ml_d cX10_sure 130 (.putfield 203) 3 133 := ⟨by decide +kernel, rfl⟩
theorem dX10_sure_133 : ml_d cX10_sure 133 (.iload_n 3) 1 134 := ⟨by decide +kernel, rfl⟩
theorem dX10_sure_134 : ml_d cX10_sure 134 (.ireturn) 1 135 := ⟨by decide +kernel, rfl⟩
def fX10_sure_121 (k41 : Nat → Int32 → Int32 → Int32 → Int32 → Int32 → ml_M → Option (Int32 × ml_M)) (l0 : Nat) (l1 : Int32) (l2 : Int32) (l3 : Int32) (l4 : Int32) (l5 : Int32) (m : ml_M) : Option (Int32 × ml_M) :=
    k41 l0 l1 l2 l3 l4 (l5 + (1 : Int32)) m
theorem vX10_sure_121 {E : ml_E} (hL : ml_eL E = 8) {rv : Int32} {rm : ml_M} (hr : ∀ (pc pc' : Nat) (lv : List (Nat × ml_X)), ml_d cX10_sure pc .ireturn 1 pc' → True → ml_V E "LostRoom" cX10_sure 19 false rm pc lv [ml_i rv]) {k41 : Nat → Int32 → Int32 → Int32 → Int32 → Int32 → ml_M → Option (Int32 × ml_M)} (hk41 : ∀ (l0 : Nat) (l1 : Int32) (l2 : Int32) (l3 : Int32) (l4 : Int32) (l5 : Int32) (m : ml_M), k41 l0 l1 l2 l3 l4 l5 m = some (rv, rm) → ml_V E "LostRoom" cX10_sure 19 false m 41 [(0, ml_r l0), (1, ml_i l1), (2, ml_i l2), (3, ml_i l3), (4, ml_i l4), (5, ml_i l5)] []) : ∀ (l0 : Nat) (l1 : Int32) (l2 : Int32) (l3 : Int32) (l4 : Int32) (l5 : Int32) (m : ml_M), fX10_sure_121 k41 l0 l1 l2 l3 l4 l5 m = some (rv, rm) → ml_V E "LostRoom" cX10_sure 19 false m 121 [(0, ml_r l0), (1, ml_i l1), (2, ml_i l2), (3, ml_i l3), (4, ml_i l4), (5, ml_i l5)] [] := by
  intro l0 l1 l2 l3 l4 l5 m h
  unfold fX10_sure_121 at h
  exact ml_iinc (lv' := [(5, ml_i (l5 + (1 : Int32))), (0, ml_r l0), (1, ml_i l1), (2, ml_i l2), (3, ml_i l3), (4, ml_i l4)]) dX10_sure_121 5 rfl (congrArg (l5 + ·) kc_i1) (ml_hn hL rfl) rfl <| ml_goto dX10_sure_124 <| ml_V.sub [1, 2, 3, 4, 5, 0] rfl (hk41 _ _ _ _ _ _ _ h)
def fX10_sure_107 (k41 : Nat → Int32 → Int32 → Int32 → Int32 → Int32 → ml_M → Option (Int32 × ml_M)) (l0 : Nat) (l1 : Int32) (l2 : Int32) (l3 : Int32) (l4 : Int32) (l5 : Int32) (l6 : Int32) (m : ml_M) : Option (Int32 × ml_M) :=
    if l6 ≤ 0 then
    fX10_sure_121 k41 l0 l1 l2 l3 l4 l5 m
    else
    ml_let (l4 ||| ((1 : Int32) <<< (l5 &&& 31))) fun x1410 =>
    fX10_sure_121 k41 l0 l1 l2 l3 x1410 l5 m
theorem vX10_sure_107 {E : ml_E} (hL : ml_eL E = 8) {rv : Int32} {rm : ml_M} (hr : ∀ (pc pc' : Nat) (lv : List (Nat × ml_X)), ml_d cX10_sure pc .ireturn 1 pc' → True → ml_V E "LostRoom" cX10_sure 19 false rm pc lv [ml_i rv]) {k41 : Nat → Int32 → Int32 → Int32 → Int32 → Int32 → ml_M → Option (Int32 × ml_M)} (hk41 : ∀ (l0 : Nat) (l1 : Int32) (l2 : Int32) (l3 : Int32) (l4 : Int32) (l5 : Int32) (m : ml_M), k41 l0 l1 l2 l3 l4 l5 m = some (rv, rm) → ml_V E "LostRoom" cX10_sure 19 false m 41 [(0, ml_r l0), (1, ml_i l1), (2, ml_i l2), (3, ml_i l3), (4, ml_i l4), (5, ml_i l5)] []) : ∀ (l0 : Nat) (l1 : Int32) (l2 : Int32) (l3 : Int32) (l4 : Int32) (l5 : Int32) (l6 : Int32) (m : ml_M), fX10_sure_107 k41 l0 l1 l2 l3 l4 l5 l6 m = some (rv, rm) → ml_V E "LostRoom" cX10_sure 19 false m 107 [(0, ml_r l0), (1, ml_i l1), (2, ml_i l2), (3, ml_i l3), (4, ml_i l4), (5, ml_i l5), (6, ml_i l6)] [] := by
  intro l0 l1 l2 l3 l4 l5 l6 m h
  unfold fX10_sure_107 at h
  exact ml_iload dX10_sure_107 6 rfl <| ml_if_le dX10_sure_109 h (fun _ h => ml_V.sub [0, 1, 2, 3, 4, 5] rfl (vX10_sure_121 hL hr hk41 _ _ _ _ _ _ _ h)) (fun _ h => ml_iload dX10_sure_112 4 rfl <| ml_iconst dX10_sure_114 kc_i1 <| ml_iload dX10_sure_115 5 rfl <| ml_ishl dX10_sure_117 <| ml_ior dX10_sure_118 <| ml_lx (mk := ml_i) h fun x1410 h => ml_istore (lv' := [(4, ml_i x1410), (0, ml_r l0), (1, ml_i l1), (2, ml_i l2), (3, ml_i l3), (5, ml_i l5), (6, ml_i l6)]) dX10_sure_119 (ml_hn hL rfl) rfl <| ml_V.sub [1, 2, 3, 4, 0, 5] rfl (vX10_sure_121 hL hr hk41 _ _ _ _ _ _ _ h))
def fX10_sure_94 (k41 : Nat → Int32 → Int32 → Int32 → Int32 → Int32 → ml_M → Option (Int32 × ml_M)) (l0 : Nat) (l1 : Int32) (l2 : Int32) (l3 : Int32) (l4 : Int32) (l5 : Int32) (l6 : Int32) (m : ml_M) : Option (Int32 × ml_M) :=
    if l6 = l2 then
    ml_let (l3 ||| ((1 : Int32) <<< (l5 &&& 31))) fun x1411 =>
    fX10_sure_107 k41 l0 l1 l2 x1411 l4 l5 l6 m
    else
    fX10_sure_107 k41 l0 l1 l2 l3 l4 l5 l6 m
theorem vX10_sure_94 {E : ml_E} (hL : ml_eL E = 8) {rv : Int32} {rm : ml_M} (hr : ∀ (pc pc' : Nat) (lv : List (Nat × ml_X)), ml_d cX10_sure pc .ireturn 1 pc' → True → ml_V E "LostRoom" cX10_sure 19 false rm pc lv [ml_i rv]) {k41 : Nat → Int32 → Int32 → Int32 → Int32 → Int32 → ml_M → Option (Int32 × ml_M)} (hk41 : ∀ (l0 : Nat) (l1 : Int32) (l2 : Int32) (l3 : Int32) (l4 : Int32) (l5 : Int32) (m : ml_M), k41 l0 l1 l2 l3 l4 l5 m = some (rv, rm) → ml_V E "LostRoom" cX10_sure 19 false m 41 [(0, ml_r l0), (1, ml_i l1), (2, ml_i l2), (3, ml_i l3), (4, ml_i l4), (5, ml_i l5)] []) : ∀ (l0 : Nat) (l1 : Int32) (l2 : Int32) (l3 : Int32) (l4 : Int32) (l5 : Int32) (l6 : Int32) (m : ml_M), fX10_sure_94 k41 l0 l1 l2 l3 l4 l5 l6 m = some (rv, rm) → ml_V E "LostRoom" cX10_sure 19 false m 94 [(0, ml_r l0), (1, ml_i l1), (2, ml_i l2), (3, ml_i l3), (4, ml_i l4), (5, ml_i l5), (6, ml_i l6)] [] := by
  intro l0 l1 l2 l3 l4 l5 l6 m h
  unfold fX10_sure_94 at h
  exact ml_iload dX10_sure_94 6 rfl <| ml_iload_n dX10_sure_96 2 rfl <| ml_icmp_ne dX10_sure_97 h (fun _ h => ml_V.sub [0, 1, 2, 3, 4, 5, 6] rfl (vX10_sure_107 hL hr hk41 _ _ _ _ _ _ _ _ h)) (fun _ h => ml_iload_n dX10_sure_100 3 rfl <| ml_iconst dX10_sure_101 kc_i1 <| ml_iload dX10_sure_102 5 rfl <| ml_ishl dX10_sure_104 <| ml_ior dX10_sure_105 <| ml_lx (mk := ml_i) h fun x1411 h => ml_istore_n (lv' := [(3, ml_i x1411), (0, ml_r l0), (1, ml_i l1), (2, ml_i l2), (4, ml_i l4), (5, ml_i l5), (6, ml_i l6)]) dX10_sure_106 (ml_hn hL rfl) rfl <| ml_V.sub [1, 2, 3, 0, 4, 5, 6] rfl (vX10_sure_107 hL hr hk41 _ _ _ _ _ _ _ _ h))
def fX10_sure_59 (k41 : Nat → Int32 → Int32 → Int32 → Int32 → Int32 → ml_M → Option (Int32 × ml_M)) : Nat → Nat → Int32 → Int32 → Int32 → Int32 → Int32 → Int32 → Int32 → ml_M → Option (Int32 × ml_M)
  | 0, _, _, _, _, _, _, _, _, _ => none
  | fu + 1, l0, l1, l2, l3, l4, l5, l6, l7, m =>
    if (ml_K m l0).1 = 10 then
    ml_let (ml_R m l0 2) fun a1413 =>
    if (ml_K m a1413).1 = 1 then
    if (ml_I m a1413 3) ≤ l7 then
    fX10_sure_94 k41 l0 l1 l2 l3 l4 l5 l6 m
    else
    ml_let (ml_R m l0 12) fun a1415 =>
    if (ml_K m a1415).1 = 7 then
    ml_b1 (fX7_withPair a1415 l1 l7 l5 m) fun r1418 =>
    ml_let (l6 + r1418) fun x1419 =>
    (fX10_sure_59 k41 fu) l0 l1 l2 l3 l4 l5 x1419 (l7 + (1 : Int32)) m
    else none
    else none
    else none
theorem vX10_sure_59 {E : ml_E} (hL : ml_eL E = 8) {rv : Int32} {rm : ml_M} (hr : ∀ (pc pc' : Nat) (lv : List (Nat × ml_X)), ml_d cX10_sure pc .ireturn 1 pc' → True → ml_V E "LostRoom" cX10_sure 19 false rm pc lv [ml_i rv]) {k41 : Nat → Int32 → Int32 → Int32 → Int32 → Int32 → ml_M → Option (Int32 × ml_M)} (hk41 : ∀ (l0 : Nat) (l1 : Int32) (l2 : Int32) (l3 : Int32) (l4 : Int32) (l5 : Int32) (m : ml_M), k41 l0 l1 l2 l3 l4 l5 m = some (rv, rm) → ml_V E "LostRoom" cX10_sure 19 false m 41 [(0, ml_r l0), (1, ml_i l1), (2, ml_i l2), (3, ml_i l3), (4, ml_i l4), (5, ml_i l5)] []) : ∀ (fu : Nat) (l0 : Nat) (l1 : Int32) (l2 : Int32) (l3 : Int32) (l4 : Int32) (l5 : Int32) (l6 : Int32) (l7 : Int32) (m : ml_M), fX10_sure_59 k41 fu l0 l1 l2 l3 l4 l5 l6 l7 m = some (rv, rm) → ml_V E "LostRoom" cX10_sure 19 false m 59 [(0, ml_r l0), (1, ml_i l1), (2, ml_i l2), (3, ml_i l3), (4, ml_i l4), (5, ml_i l5), (6, ml_i l6), (7, ml_i l7)] [] := by
  intro fu
  induction fu with
  | zero => intro l0 l1 l2 l3 l4 l5 l6 l7 m h; exact ml_none h
  | succ fu ih =>
    intro l0 l1 l2 l3 l4 l5 l6 l7 m h
    have hk59 := ih
    unfold fX10_sure_59 at h
    exact ml_iload dX10_sure_59 7 rfl <| ml_aload_n dX10_sure_61 0 rfl <| ml_ck_of h fun hc1412 h => ml_getR dX10_sure_62 wb_71 hc1412 <| ml_lx (mk := ml_r) h fun a1413 h => ml_ck_of h fun hc1414 h => ml_getI dX10_sure_65 wb_72 hc1414 <| ml_icmp_ge dX10_sure_68 h (fun _ h => ml_V.sub [0, 1, 2, 3, 4, 5, 6] rfl (vX10_sure_94 hL hr hk41 _ _ _ _ _ _ _ _ h)) (fun _ h => ml_iload dX10_sure_71 6 rfl <| ml_aload_n dX10_sure_73 0 rfl <| ml_getR dX10_sure_74 wb_67 hc1412 <| ml_lx (mk := ml_r) h fun a1415 h => ml_iload_n dX10_sure_77 1 rfl <| ml_iload dX10_sure_78 7 rfl <| ml_iload dX10_sure_80 5 rfl <| ml_ck_of h fun hc1417 h => ml_b1_of h fun r1418 hv1416 h => ml_callV dX10_sure_82 wm_416 wb_258 hc1417 (sX7_withPair hv1416) rfl (Nat.le_of_ble_eq_true rfl) (Nat.le_of_ble_eq_true rfl) rfl <| ml_iadd dX10_sure_85 <| ml_lx (mk := ml_i) h fun x1419 h => ml_istore (lv' := [(6, ml_i x1419), (0, ml_r l0), (1, ml_i l1), (2, ml_i l2), (3, ml_i l3), (4, ml_i l4), (5, ml_i l5), (7, ml_i l7)]) dX10_sure_86 (ml_hn hL rfl) rfl <| ml_iinc (lv' := [(7, ml_i (l7 + (1 : Int32))), (6, ml_i x1419), (0, ml_r l0), (1, ml_i l1), (2, ml_i l2), (3, ml_i l3), (4, ml_i l4), (5, ml_i l5)]) dX10_sure_88 7 rfl (congrArg (l7 + ·) kc_i1) (ml_hn hL rfl) rfl <| ml_goto dX10_sure_91 <| ml_V.sub [2, 3, 4, 5, 6, 7, 1, 0] rfl (hk59 _ _ _ _ _ _ _ _ _ h))
def fX10_sure_127 (l0 : Nat) (l3 : Int32) (l4 : Int32) (m : ml_M) : Option (Int32 × ml_M) :=
    if (ml_K m l0).1 = 10 then
    ml_let (ml_sI m l0 15 l4) fun m1421 =>
    some (l3, m1421)
    else none
theorem vX10_sure_127 {E : ml_E} (hL : ml_eL E = 8) {rv : Int32} {rm : ml_M} (hr : ∀ (pc pc' : Nat) (lv : List (Nat × ml_X)), ml_d cX10_sure pc .ireturn 1 pc' → True → ml_V E "LostRoom" cX10_sure 19 false rm pc lv [ml_i rv]) : ∀ (l0 : Nat) (l3 : Int32) (l4 : Int32) (m : ml_M), fX10_sure_127 l0 l3 l4 m = some (rv, rm) → ml_V E "LostRoom" cX10_sure 19 false m 127 [(0, ml_r l0), (3, ml_i l3), (4, ml_i l4)] [] := by
  intro l0 l3 l4 m h
  unfold fX10_sure_127 at h
  exact ml_aload_n dX10_sure_127 0 rfl <| ml_iload dX10_sure_128 2 rfl <| ml_ck_of h fun hc1420 h => ml_putI dX10_sure_130 wb_81 hc1420 <| ml_lt (m := m) rfl h fun m1421 em1422 h => ml_iload_n dX10_sure_133 1 rfl <| ml_rI (mk := ml_i) hr dX10_sure_134 (fun _ => trivial) h
def fX10_sure_41 : Nat → Nat → Int32 → Int32 → Int32 → Int32 → Int32 → ml_M → Option (Int32 × ml_M)
  | 0, _, _, _, _, _, _, _ => none
  | fu + 1, l0, l1, l2, l3, l4, l5, m =>
    if (ml_K m l0).1 = 10 then
    ml_let (ml_R m l0 2) fun a1424 =>
    if (ml_K m a1424).1 = 1 then
    if (ml_I m a1424 2) ≤ l5 then
    fX10_sure_127 l0 l3 l4 m
    else
    fX10_sure_59 (fX10_sure_41 fu) ml_fu l0 l1 l2 l3 l4 l5 (0 : Int32) (0 : Int32) m
    else none
    else none
theorem vX10_sure_41 {E : ml_E} (hL : ml_eL E = 8) {rv : Int32} {rm : ml_M} (hr : ∀ (pc pc' : Nat) (lv : List (Nat × ml_X)), ml_d cX10_sure pc .ireturn 1 pc' → True → ml_V E "LostRoom" cX10_sure 19 false rm pc lv [ml_i rv]) : ∀ (fu : Nat) (l0 : Nat) (l1 : Int32) (l2 : Int32) (l3 : Int32) (l4 : Int32) (l5 : Int32) (m : ml_M), fX10_sure_41 fu l0 l1 l2 l3 l4 l5 m = some (rv, rm) → ml_V E "LostRoom" cX10_sure 19 false m 41 [(0, ml_r l0), (1, ml_i l1), (2, ml_i l2), (3, ml_i l3), (4, ml_i l4), (5, ml_i l5)] [] := by
  intro fu
  induction fu with
  | zero => intro l0 l1 l2 l3 l4 l5 m h; exact ml_none h
  | succ fu ih =>
    intro l0 l1 l2 l3 l4 l5 m h
    have hk41 := ih
    unfold fX10_sure_41 at h
    exact ml_iload dX10_sure_41 5 rfl <| ml_aload_n dX10_sure_43 0 rfl <| ml_ck_of h fun hc1423 h => ml_getR dX10_sure_44 wb_71 hc1423 <| ml_lx (mk := ml_r) h fun a1424 h => ml_ck_of h fun hc1425 h => ml_getI dX10_sure_47 wb_83 hc1425 <| ml_icmp_ge dX10_sure_50 h (fun _ h => ml_V.sub [0, 3, 4] rfl (vX10_sure_127 hL hr  _ _ _ _ h)) (fun _ h => ml_iconst dX10_sure_53 kc_i0 <| ml_istore (lv' := [(6, ml_i (0 : Int32)), (0, ml_r l0), (1, ml_i l1), (2, ml_i l2), (3, ml_i l3), (4, ml_i l4), (5, ml_i l5)]) dX10_sure_54 (ml_hn hL rfl) rfl <| ml_iconst dX10_sure_56 kc_i0 <| ml_istore (lv' := [(7, ml_i (0 : Int32)), (6, ml_i (0 : Int32)), (0, ml_r l0), (1, ml_i l1), (2, ml_i l2), (3, ml_i l3), (4, ml_i l4), (5, ml_i l5)]) dX10_sure_57 (ml_hn hL rfl) rfl <| ml_V.sub [2, 3, 4, 5, 6, 7, 1, 0] rfl (vX10_sure_59 hL hr hk41 ml_fu _ _ _ _ _ _ _ _ _ h))
def fX10_sure (l0 : Nat) (l1 : Int32) (m : ml_M) : Option (Int32 × ml_M) :=
    ml_b1 (fX10_within l1 (0 : Int32) (20 : Int32) m) fun r1427 =>
    if r1427 = 0 then
    some ((-1 : Int32), m)
    else
    if (ml_K m l0).1 = 10 then
    ml_b1 (fX10_refreshSharings l0 m) fun m1430 =>
    if (ml_K m1430 l0).1 = 10 then
    ml_let (ml_R m1430 l0 12) fun a1432 =>
    if (ml_K m1430 a1432).1 = 7 then
    ml_let (ml_R m1430 a1432 3) fun a1434 =>
    if ml_in m1430 a1434 20 l1 then
    ml_let (ml_I m1430 a1434 l1.toNatClampNeg) fun x1436 =>
    if x1436 = 0 then
    some ((-9 : Int32), m1430)
    else
    fX10_sure_41 ml_fu l0 l1 x1436 (0 : Int32) (0 : Int32) (0 : Int32) m1430
    else none
    else none
    else none
    else none
theorem wX10_sure_0 {E : ml_E} (hL : ml_eL E = 8) {rv : Int32} {rm : ml_M} (hr : ∀ (pc pc' : Nat) (lv : List (Nat × ml_X)), ml_d cX10_sure pc .ireturn 1 pc' → True → ml_V E "LostRoom" cX10_sure 19 false rm pc lv [ml_i rv]) : ∀ (l0 : Nat) (l1 : Int32) (m : ml_M), fX10_sure l0 l1 m = some (rv, rm) → ml_V E "LostRoom" cX10_sure 19 false m 0 [(0, ml_r l0), (1, ml_i l1)] [] := by
  intro l0 l1 m h
  unfold fX10_sure at h
  exact ml_iload_n dX10_sure_0 1 rfl <| ml_iconst dX10_sure_1 kc_i0 <| ml_bipush dX10_sure_2 kc_b20 <| ml_b1_of h fun r1427 hv1426 h => ml_callS dX10_sure_4 wm_21 wb_4 (sX10_within hv1426) rfl (Nat.le_of_ble_eq_true rfl) (Nat.le_of_ble_eq_true rfl) rfl <| ml_if_ne dX10_sure_7 h (fun _ h => ml_aload_n dX10_sure_12 0 rfl <| ml_ck_of h fun hc1429 h => ml_b1_of h fun m1430 hv1428 h => ml_callV dX10_sure_13 wm_360 wb_223 hc1429 (sX10_refreshSharings hv1428) rfl (Nat.le_of_ble_eq_true rfl) (Nat.le_of_ble_eq_true rfl) rfl <| ml_aload_n dX10_sure_16 0 rfl <| ml_ck_of h fun hc1431 h => ml_getR dX10_sure_17 wb_67 hc1431 <| ml_lx (mk := ml_r) h fun a1432 h => ml_ck_of h fun hc1433 h => ml_getR dX10_sure_20 wb_257 hc1433 <| ml_lx (mk := ml_r) h fun a1434 h => ml_iload_n dX10_sure_23 1 rfl <| ml_ck_of h fun hi1435 h => ml_iald dX10_sure_24 hi1435 <| ml_lx (mk := ml_i) h fun x1436 h => ml_istore_n (lv' := [(2, ml_i x1436), (0, ml_r l0), (1, ml_i l1)]) dX10_sure_25 (ml_hn hL rfl) rfl <| ml_iload_n dX10_sure_26 0 rfl <| ml_if_ne dX10_sure_27 h (fun _ h => ml_iconst dX10_sure_33 kc_i0 <| ml_istore_n (lv' := [(3, ml_i (0 : Int32)), (2, ml_i x1436), (0, ml_r l0), (1, ml_i l1)]) dX10_sure_34 (ml_hn hL rfl) rfl <| ml_iconst dX10_sure_35 kc_i0 <| ml_istore (lv' := [(4, ml_i (0 : Int32)), (3, ml_i (0 : Int32)), (2, ml_i x1436), (0, ml_r l0), (1, ml_i l1)]) dX10_sure_36 (ml_hn hL rfl) rfl <| ml_iconst dX10_sure_38 kc_i0 <| ml_istore (lv' := [(5, ml_i (0 : Int32)), (4, ml_i (0 : Int32)), (3, ml_i (0 : Int32)), (2, ml_i x1436), (0, ml_r l0), (1, ml_i l1)]) dX10_sure_39 (ml_hn hL rfl) rfl <| ml_V.sub [4, 5, 3, 2, 1, 0] rfl (vX10_sure_41 hL hr  ml_fu _ _ _ _ _ _ _ h)) (fun _ h => ml_bipush dX10_sure_30 kc_bm9 <| ml_rI (mk := ml_i) hr dX10_sure_32 (fun _ => trivial) h)) (fun _ h => ml_iconst dX10_sure_10 kc_im1 <| ml_rI (mk := ml_i) hr dX10_sure_11 (fun _ => trivial) h)
theorem sX10_sure {l0 : Nat} {l1 : Int32} {m : ml_M} {rv : Int32} {rm : ml_M} (h : fX10_sure l0 l1 m = some (rv, rm)) : ml_Sn yX10_sure cX10_sure 8 (some .int) 19 [ml_r l0, ml_i l1] m (some (ml_i rv)) rm :=
  ml_Sn_of (P := True) (ini := false) (by decide +kernel) (Nat.le_of_ble_eq_true rfl) (fun h => by cases h) (fun _ => ml_RkI rv) fun E hL hr => wX10_sure_0 hL hr _ _ _ h
theorem dX10_next_0 : ml_d cX10_next 0 (.iload_n 1) 1 1 := ⟨by decide +kernel, rfl⟩
theorem dX10_next_1 : ml_d cX10_next 1 (.iconst 0) 1 2 := ⟨by decide +kernel, rfl⟩
theorem dX10_next_2 : ml_d cX10_next 2 (.bipush 20) 2 4 := ⟨by decide +kernel, rfl⟩
theorem dX10_next_4 : ml_d cX10_next 4 (.invokestatic 138) 3 7 := ⟨by decide +kernel, rfl⟩
theorem dX10_next_7 : ml_j cX10_next 7 (.ifCond .ne) 12 10 := ⟨5, by decide +kernel, by decide, rfl⟩
theorem dX10_next_10 : ml_d cX10_next 10 (.iconst (-1)) 1 11 := ⟨by decide +kernel, rfl⟩
theorem dX10_next_11 : ml_d cX10_next 11 (.ireturn) 1 12 := ⟨by decide +kernel, rfl⟩
theorem dX10_next_12 : ml_d cX10_next 12 (.aload_n 0) 1 13 := ⟨by decide +kernel, rfl⟩
theorem dX10_next_13 : ml_d cX10_next 13 (.invokevirtual 243) 3 16 := ⟨by decide +kernel, rfl⟩
theorem dX10_next_16 : ml_d cX10_next 16 (.aload_n 0) 1 17 := ⟨by decide +kernel, rfl⟩
theorem dX10_next_17 : ml_d cX10_next 17 (.getfield 61) 3 20 := ⟨by decide +kernel, rfl⟩
theorem dX10_next_20 : ml_d cX10_next 20 (.getfield 256) 3 23 := ⟨by decide +kernel, rfl⟩
theorem dX10_next_23 : ml_d cX10_next 23 (.iload_n 1) 1 24 := ⟨by decide +kernel, rfl⟩
theorem dX10_next_24 : ml_d cX10_next 24 (.iaload) 1 25 := ⟨by decide +kernel, rfl⟩
theorem dX10_next_25 : ml_j cX10_next 25 (.ifCond .eq) 38 28 := ⟨13, by decide +kernel, by decide, rfl⟩
theorem dX10_next_28 : ml_d cX10_next 28 (.aload_n 0) 1 29 := ⟨by decide +kernel, rfl⟩
theorem dX10_next_29 : ml_d cX10_next 29 (.getfield 26) 3 32 := ⟨by decide +kernel, rfl⟩
theorem dX10_next_32 : ml_d cX10_next 32 (.getfield 135) 3 35 := ⟨by decide +kernel, rfl⟩
theorem dX10_next_35 : ml_j cX10_next 35 (.ifCond .ne) 41 38 := ⟨6, by decide +kernel, by decide, rfl⟩
theorem dX10_next_38 : ml_d cX10_next 38 (.bipush (-9)) 2 40 := ⟨by decide +kernel, rfl⟩
theorem dX10_next_40 : ml_d cX10_next 40 (.ireturn) 1 41 := ⟨by decide +kernel, rfl⟩
theorem dX10_next_41 : ml_d cX10_next 41 (.bipush (-9)) 2 43 := ⟨by decide +kernel, rfl⟩
theorem dX10_next_43 : ml_d cX10_next 43 (.istore_n 2) 1 44 := ⟨by decide +kernel, rfl⟩
theorem dX10_next_44 : ml_d cX10_next 44 (.iconst 0) 1 45 := ⟨by decide +kernel, rfl⟩
theorem dX10_next_45 : ml_d cX10_next 45 (.istore_n 3) 1 46 := ⟨by decide +kernel, rfl⟩
theorem dX10_next_46 : ml_d cX10_next 46 (.iconst 0) 1 47 := ⟨by decide +kernel, rfl⟩
theorem dX10_next_47 : ml_d cX10_next 47 (.istore 4) 2 49 := ⟨by decide +kernel, rfl⟩
theorem dX10_next_49 : ml_d cX10_next 49 (.iload 4) 2 51 := ⟨by decide +kernel, rfl⟩
theorem dX10_next_51 : ml_d cX10_next 51 (.aload_n 0) 1 52 := ⟨by decide +kernel, rfl⟩
theorem dX10_next_52 : ml_d cX10_next 52 (.getfield 26) 3 55 := ⟨by decide +kernel, rfl⟩
theorem dX10_next_55 : ml_d cX10_next 55 (.getfield 135) 3 58 := ⟨by decide +kernel, rfl⟩
theorem dX10_next_58 : ml_j cX10_next 58 (.if_icmp .ge) 128 61 := ⟨70, by decide +kernel, by decide, rfl⟩
theorem dX10_next_61 : ml_d cX10_next 61 (.iconst 0) 1 62 := ⟨by decide +kernel, rfl⟩
theorem dX10_next_62 : ml_d cX10_next 62 (.istore 5) 2 64 := ⟨by decide +kernel, rfl⟩
theorem dX10_next_64 : ml_d cX10_next 64 (.iconst 0) 1 65 := ⟨by decide +kernel, rfl⟩
theorem dX10_next_65 : ml_d cX10_next 65 (.istore 6) 2 67 := ⟨by decide +kernel, rfl⟩
theorem dX10_next_67 : ml_d cX10_next 67 (.iload 6) 2 69 := ⟨by decide +kernel, rfl⟩
theorem dX10_next_69 : ml_d cX10_next 69 (.aload_n 0) 1 70 := ⟨by decide +kernel, rfl⟩
theorem dX10_next_70 : ml_d cX10_next 70 (.getfield 26) 3 73 := ⟨by decide +kernel, rfl⟩
theorem dX10_next_73 : ml_d cX10_next 73 (.getfield 193) 3 76 := ⟨by decide +kernel, rfl⟩
theorem dX10_next_76 : ml_j cX10_next 76 (.if_icmp .ge) 104 79 := ⟨28, by decide +kernel, by decide, rfl⟩
theorem dX10_next_79 : ml_d cX10_next 79 (.iload 5) 2 81 := ⟨by decide +kernel, rfl⟩
theorem dX10_next_81 : ml_d cX10_next 81 (.aload_n 0) 1 82 := ⟨by decide +kernel, rfl⟩
theorem dX10_next_82 : ml_d cX10_next 82 (.getfield 61) 3 85 := ⟨by decide +kernel, rfl⟩
theorem dX10_next_85 : ml_d cX10_next 85 (.iload_n 1) 1 86 := ⟨by decide +kernel, rfl⟩
theorem dX10_next_86 : ml_d cX10_next 86 (.iload 4) 2 88 := ⟨by decide +kernel, rfl⟩
theorem dX10_next_88 : ml_d cX10_next 88 (.iload 6) 2 90 := ⟨by decide +kernel, rfl⟩
theorem dX10_next_90 : ml_d cX10_next 90 (.invokevirtual 259) 3 93 := ⟨by decide +kernel, rfl⟩
theorem dX10_next_93 : ml_d cX10_next 93 (.invokestatic 228) 3 96 := ⟨by decide +kernel, rfl⟩
theorem dX10_next_96 : ml_d cX10_next 96 (.istore 5) 2 98 := ⟨by decide +kernel, rfl⟩
theorem dX10_next_98 : ml_d cX10_next 98 (.iinc 6 1) 3 101 := ⟨by decide +kernel, rfl⟩
theorem dX10_next_101 : ml_j cX10_next 101 .goto 67 104 := ⟨(-34), by decide +kernel, by decide, rfl⟩
theorem dX10_next_104 : ml_d cX10_next 104 (.iload_n 2) 1 105 := ⟨by decide +kernel, rfl⟩
theorem dX10_next_105 : ml_d cX10_next 105 (.bipush (-9)) 2 107 := ⟨by decide +kernel, rfl⟩
theorem dX10_next_107 : ml_j cX10_next 107 (.if_icmp .eq) 116 110 := ⟨9, by decide +kernel, by decide, rfl⟩
theorem dX10_next_110 : ml_d cX10_next 110 (.iload 5) 2 112 := ⟨by decide +kernel, rfl⟩
theorem dX10_next_112 : ml_d cX10_next 112 (.iload_n 3) 1 113 := ⟨by decide +kernel, rfl⟩
theorem dX10_next_113 : ml_j cX10_next 113 (.if_icmp .ge) 122 116 := ⟨9, by decide +kernel, by decide, rfl⟩
theorem dX10_next_116 : ml_d cX10_next 116 (.iload 4) 2 118 := ⟨by decide +kernel, rfl⟩
theorem dX10_next_118 : ml_d cX10_next 118 (.istore_n 2) 1 119 := ⟨by decide +kernel, rfl⟩
theorem dX10_next_119 : ml_d cX10_next 119 (.iload 5) 2 121 := ⟨by decide +kernel, rfl⟩
theorem dX10_next_121 : ml_d cX10_next 121 (.istore_n 3) 1 122 := ⟨by decide +kernel, rfl⟩
theorem dX10_next_122 : ml_d cX10_next 122 (.iinc 4 1) 3 125 := ⟨by decide +kernel, rfl⟩
theorem dX10_next_125 : ml_j cX10_next 125 .goto 49 128 := ⟨(-76), by decide +kernel, by decide, rfl⟩
theorem dX10_next_128 : ml_d cX10_next 128 (.aload_n 0) 1 129 := ⟨by decide +kernel, rfl⟩
theorem dX10_next_129 : ml_d cX10_next 129 (.iload_n 3) 1 130 := ⟨by decide +kernel, rfl⟩
theorem dX10_next_130 : ml_d cX10_next 130 (.putfield 203) 3 133 := ⟨by decide +kernel, rfl⟩
theorem dX10_next_133 : ml_d cX10_next 133 (.iload_n 2) 1 134 := ⟨by decide +kernel, rfl⟩
theorem dX10_next_134 : ml_d cX10_next 134 (.ireturn) 1 135 := ⟨by decide +kernel, rfl⟩
def fX10_next_122 (k49 : Nat → Int32 → Int32 → Int32 → Int32 → ml_M → Option (Int32 × ml_M)) (l0 : Nat) (l1 : Int32) (l2 : Int32) (l3 : Int32) (l4 : Int32) (m : ml_M) : Option (Int32 × ml_M) :=
    k49 l0 l1 l2 l3 (l4 + (1 : Int32)) m
theorem vX10_next_122 {E : ml_E} (hL : ml_eL E = 7) {rv : Int32} {rm : ml_M} (hr : ∀ (pc pc' : Nat) (lv : List (Nat × ml_X)), ml_d cX10_next pc .ireturn 1 pc' → True → ml_V E "LostRoom" cX10_next 19 false rm pc lv [ml_i rv]) {k49 : Nat → Int32 → Int32 → Int32 → Int32 → ml_M → Option (Int32 × ml_M)} (hk49 : ∀ (l0 : Nat) (l1 : Int32) (l2 : Int32) (l3 : Int32) (l4 : Int32) (m : ml_M), k49 l0 l1 l2 l3 l4 m = some (rv, rm) → ml_V E "LostRoom" cX10_next 19 false m 49 [(0, ml_r l0), (1, ml_i l1), (2, ml_i l2), (3, ml_i l3), (4, ml_i l4)] []) : ∀ (l0 : Nat) (l1 : Int32) (l2 : Int32) (l3 : Int32) (l4 : Int32) (m : ml_M), fX10_next_122 k49 l0 l1 l2 l3 l4 m = some (rv, rm) → ml_V E "LostRoom" cX10_next 19 false m 122 [(0, ml_r l0), (1, ml_i l1), (2, ml_i l2), (3, ml_i l3), (4, ml_i l4)] [] := by
  intro l0 l1 l2 l3 l4 m h
  unfold fX10_next_122 at h
  exact ml_iinc (lv' := [(4, ml_i (l4 + (1 : Int32))), (0, ml_r l0), (1, ml_i l1), (2, ml_i l2), (3, ml_i l3)]) dX10_next_122 4 rfl (congrArg (l4 + ·) kc_i1) (ml_hn hL rfl) rfl <| ml_goto dX10_next_125 <| ml_V.sub [1, 2, 3, 4, 0] rfl (hk49 _ _ _ _ _ _ h)
def fX10_next_116 (k49 : Nat → Int32 → Int32 → Int32 → Int32 → ml_M → Option (Int32 × ml_M)) (l0 : Nat) (l1 : Int32) (l4 : Int32) (l5 : Int32) (m : ml_M) : Option (Int32 × ml_M) :=
    fX10_next_122 k49 l0 l1 l4 l5 l4 m
theorem vX10_next_116 {E : ml_E} (hL : ml_eL E = 7) {rv : Int32} {rm : ml_M} (hr : ∀ (pc pc' : Nat) (lv : List (Nat × ml_X)), ml_d cX10_next pc .ireturn 1 pc' → True → ml_V E "LostRoom" cX10_next 19 false rm pc lv [ml_i rv]) {k49 : Nat → Int32 → Int32 → Int32 → Int32 → ml_M → Option (Int32 × ml_M)} (hk49 : ∀ (l0 : Nat) (l1 : Int32) (l2 : Int32) (l3 : Int32) (l4 : Int32) (m : ml_M), k49 l0 l1 l2 l3 l4 m = some (rv, rm) → ml_V E "LostRoom" cX10_next 19 false m 49 [(0, ml_r l0), (1, ml_i l1), (2, ml_i l2), (3, ml_i l3), (4, ml_i l4)] []) : ∀ (l0 : Nat) (l1 : Int32) (l4 : Int32) (l5 : Int32) (m : ml_M), fX10_next_116 k49 l0 l1 l4 l5 m = some (rv, rm) → ml_V E "LostRoom" cX10_next 19 false m 116 [(0, ml_r l0), (1, ml_i l1), (4, ml_i l4), (5, ml_i l5)] [] := by
  intro l0 l1 l4 l5 m h
  unfold fX10_next_116 at h
  exact ml_iload dX10_next_116 2 rfl <| ml_istore_n (lv' := [(2, ml_i l4), (0, ml_r l0), (1, ml_i l1), (4, ml_i l4), (5, ml_i l5)]) dX10_next_118 (ml_hn hL rfl) rfl <| ml_iload dX10_next_119 4 rfl <| ml_istore_n (lv' := [(3, ml_i l5), (2, ml_i l4), (0, ml_r l0), (1, ml_i l1), (4, ml_i l4), (5, ml_i l5)]) dX10_next_121 (ml_hn hL rfl) rfl <| ml_V.sub [2, 3, 1, 0, 4] rfl (vX10_next_122 hL hr hk49 _ _ _ _ _ _ h)
def fX10_next_104 (k49 : Nat → Int32 → Int32 → Int32 → Int32 → ml_M → Option (Int32 × ml_M)) (l0 : Nat) (l1 : Int32) (l2 : Int32) (l3 : Int32) (l4 : Int32) (l5 : Int32) (m : ml_M) : Option (Int32 × ml_M) :=
    if l2 = (-9 : Int32) then
    fX10_next_116 k49 l0 l1 l4 l5 m
    else
    if l3 ≤ l5 then
    fX10_next_122 k49 l0 l1 l2 l3 l4 m
    else
    fX10_next_116 k49 l0 l1 l4 l5 m
theorem vX10_next_104 {E : ml_E} (hL : ml_eL E = 7) {rv : Int32} {rm : ml_M} (hr : ∀ (pc pc' : Nat) (lv : List (Nat × ml_X)), ml_d cX10_next pc .ireturn 1 pc' → True → ml_V E "LostRoom" cX10_next 19 false rm pc lv [ml_i rv]) {k49 : Nat → Int32 → Int32 → Int32 → Int32 → ml_M → Option (Int32 × ml_M)} (hk49 : ∀ (l0 : Nat) (l1 : Int32) (l2 : Int32) (l3 : Int32) (l4 : Int32) (m : ml_M), k49 l0 l1 l2 l3 l4 m = some (rv, rm) → ml_V E "LostRoom" cX10_next 19 false m 49 [(0, ml_r l0), (1, ml_i l1), (2, ml_i l2), (3, ml_i l3), (4, ml_i l4)] []) : ∀ (l0 : Nat) (l1 : Int32) (l2 : Int32) (l3 : Int32) (l4 : Int32) (l5 : Int32) (m : ml_M), fX10_next_104 k49 l0 l1 l2 l3 l4 l5 m = some (rv, rm) → ml_V E "LostRoom" cX10_next 19 false m 104 [(0, ml_r l0), (1, ml_i l1), (2, ml_i l2), (3, ml_i l3), (4, ml_i l4), (5, ml_i l5)] [] := by
  intro l0 l1 l2 l3 l4 l5 m h
  unfold fX10_next_104 at h
  exact ml_iload_n dX10_next_104 2 rfl <| ml_bipush dX10_next_105 kc_bm9 <| ml_icmp_eq dX10_next_107 h (fun _ h => ml_V.sub [0, 1, 4, 5] rfl (vX10_next_116 hL hr hk49 _ _ _ _ _ h)) (fun _ h => ml_iload dX10_next_110 5 rfl <| ml_iload_n dX10_next_112 3 rfl <| ml_icmp_ge dX10_next_113 h (fun _ h => ml_V.sub [0, 1, 2, 3, 4] rfl (vX10_next_122 hL hr hk49 _ _ _ _ _ _ h)) (fun _ h => ml_V.sub [0, 1, 4, 5] rfl (vX10_next_116 hL hr hk49 _ _ _ _ _ h)))
def fX10_next_67 (k49 : Nat → Int32 → Int32 → Int32 → Int32 → ml_M → Option (Int32 × ml_M)) : Nat → Nat → Int32 → Int32 → Int32 → Int32 → Int32 → Int32 → ml_M → Option (Int32 × ml_M)
  | 0, _, _, _, _, _, _, _, _ => none
  | fu + 1, l0, l1, l2, l3, l4, l5, l6, m =>
    if (ml_K m l0).1 = 10 then
    ml_let (ml_R m l0 2) fun a1438 =>
    if (ml_K m a1438).1 = 1 then
    if (ml_I m a1438 2) ≤ l6 then
    fX10_next_104 k49 l0 l1 l2 l3 l4 l5 m
    else
    ml_let (ml_R m l0 12) fun a1440 =>
    if (ml_K m a1440).1 = 7 then
    ml_b1 (fX7_withPair a1440 l1 l4 l6 m) fun r1443 =>
    ml_let (if l5 < r1443 then r1443 else l5) fun x1444 =>
    (fX10_next_67 k49 fu) l0 l1 l2 l3 l4 x1444 (l6 + (1 : Int32)) m
    else none
    else none
    else none
theorem vX10_next_67 {E : ml_E} (hL : ml_eL E = 7) {rv : Int32} {rm : ml_M} (hr : ∀ (pc pc' : Nat) (lv : List (Nat × ml_X)), ml_d cX10_next pc .ireturn 1 pc' → True → ml_V E "LostRoom" cX10_next 19 false rm pc lv [ml_i rv]) {k49 : Nat → Int32 → Int32 → Int32 → Int32 → ml_M → Option (Int32 × ml_M)} (hk49 : ∀ (l0 : Nat) (l1 : Int32) (l2 : Int32) (l3 : Int32) (l4 : Int32) (m : ml_M), k49 l0 l1 l2 l3 l4 m = some (rv, rm) → ml_V E "LostRoom" cX10_next 19 false m 49 [(0, ml_r l0), (1, ml_i l1), (2, ml_i l2), (3, ml_i l3), (4, ml_i l4)] []) : ∀ (fu : Nat) (l0 : Nat) (l1 : Int32) (l2 : Int32) (l3 : Int32) (l4 : Int32) (l5 : Int32) (l6 : Int32) (m : ml_M), fX10_next_67 k49 fu l0 l1 l2 l3 l4 l5 l6 m = some (rv, rm) → ml_V E "LostRoom" cX10_next 19 false m 67 [(0, ml_r l0), (1, ml_i l1), (2, ml_i l2), (3, ml_i l3), (4, ml_i l4), (5, ml_i l5), (6, ml_i l6)] [] := by
  intro fu
  induction fu with
  | zero => intro l0 l1 l2 l3 l4 l5 l6 m h; exact ml_none h
  | succ fu ih =>
    intro l0 l1 l2 l3 l4 l5 l6 m h
    have hk67 := ih
    unfold fX10_next_67 at h
    exact ml_iload dX10_next_67 6 rfl <| ml_aload_n dX10_next_69 0 rfl <| ml_ck_of h fun hc1437 h => ml_getR dX10_next_70 wb_71 hc1437 <| ml_lx (mk := ml_r) h fun a1438 h => ml_ck_of h fun hc1439 h => ml_getI dX10_next_73 wb_83 hc1439 <| ml_icmp_ge dX10_next_76 h (fun _ h => ml_V.sub [0, 1, 2, 3, 4, 5] rfl (vX10_next_104 hL hr hk49 _ _ _ _ _ _ _ h)) (fun _ h => ml_iload dX10_next_79 5 rfl <| ml_aload_n dX10_next_81 0 rfl <| ml_getR dX10_next_82 wb_67 hc1437 <| ml_lx (mk := ml_r) h fun a1440 h => ml_iload_n dX10_next_85 1 rfl <| ml_iload dX10_next_86 4 rfl <| ml_iload dX10_next_88 6 rfl <| ml_ck_of h fun hc1442 h => ml_b1_of h fun r1443 hv1441 h => ml_callV dX10_next_90 wm_416 wb_258 hc1442 (sX7_withPair hv1441) rfl (Nat.le_of_ble_eq_true rfl) (Nat.le_of_ble_eq_true rfl) rfl <| ml_mmax dX10_next_93 wb_256 (Nat.le_of_ble_eq_true rfl) (Nat.le_of_ble_eq_true rfl) <| ml_lx (mk := ml_i) h fun x1444 h => ml_istore (lv' := [(5, ml_i x1444), (0, ml_r l0), (1, ml_i l1), (2, ml_i l2), (3, ml_i l3), (4, ml_i l4), (6, ml_i l6)]) dX10_next_96 (ml_hn hL rfl) rfl <| ml_iinc (lv' := [(6, ml_i (l6 + (1 : Int32))), (5, ml_i x1444), (0, ml_r l0), (1, ml_i l1), (2, ml_i l2), (3, ml_i l3), (4, ml_i l4)]) dX10_next_98 6 rfl (congrArg (l6 + ·) kc_i1) (ml_hn hL rfl) rfl <| ml_goto dX10_next_101 <| ml_V.sub [2, 3, 4, 5, 6, 1, 0] rfl (hk67 _ _ _ _ _ _ _ _ h))
def fX10_next_128 (l0 : Nat) (l2 : Int32) (l3 : Int32) (m : ml_M) : Option (Int32 × ml_M) :=
    if (ml_K m l0).1 = 10 then
    ml_let (ml_sI m l0 15 l3) fun m1446 =>
    some (l2, m1446)
    else none
theorem vX10_next_128 {E : ml_E} (hL : ml_eL E = 7) {rv : Int32} {rm : ml_M} (hr : ∀ (pc pc' : Nat) (lv : List (Nat × ml_X)), ml_d cX10_next pc .ireturn 1 pc' → True → ml_V E "LostRoom" cX10_next 19 false rm pc lv [ml_i rv]) : ∀ (l0 : Nat) (l2 : Int32) (l3 : Int32) (m : ml_M), fX10_next_128 l0 l2 l3 m = some (rv, rm) → ml_V E "LostRoom" cX10_next 19 false m 128 [(0, ml_r l0), (2, ml_i l2), (3, ml_i l3)] [] := by
  intro l0 l2 l3 m h
  unfold fX10_next_128 at h
  exact ml_aload_n dX10_next_128 0 rfl <| ml_iload_n dX10_next_129 2 rfl <| ml_ck_of h fun hc1445 h => ml_putI dX10_next_130 wb_81 hc1445 <| ml_lt (m := m) rfl h fun m1446 em1447 h => ml_iload_n dX10_next_133 1 rfl <| ml_rI (mk := ml_i) hr dX10_next_134 (fun _ => trivial) h
def fX10_next_49 : Nat → Nat → Int32 → Int32 → Int32 → Int32 → ml_M → Option (Int32 × ml_M)
  | 0, _, _, _, _, _, _ => none
  | fu + 1, l0, l1, l2, l3, l4, m =>
    if (ml_K m l0).1 = 10 then
    ml_let (ml_R m l0 2) fun a1449 =>
    if (ml_K m a1449).1 = 1 then
    if (ml_I m a1449 3) ≤ l4 then
    fX10_next_128 l0 l2 l3 m
    else
    fX10_next_67 (fX10_next_49 fu) ml_fu l0 l1 l2 l3 l4 (0 : Int32) (0 : Int32) m
    else none
    else none
theorem vX10_next_49 {E : ml_E} (hL : ml_eL E = 7) {rv : Int32} {rm : ml_M} (hr : ∀ (pc pc' : Nat) (lv : List (Nat × ml_X)), ml_d cX10_next pc .ireturn 1 pc' → True → ml_V E "LostRoom" cX10_next 19 false rm pc lv [ml_i rv]) : ∀ (fu : Nat) (l0 : Nat) (l1 : Int32) (l2 : Int32) (l3 : Int32) (l4 : Int32) (m : ml_M), fX10_next_49 fu l0 l1 l2 l3 l4 m = some (rv, rm) → ml_V E "LostRoom" cX10_next 19 false m 49 [(0, ml_r l0), (1, ml_i l1), (2, ml_i l2), (3, ml_i l3), (4, ml_i l4)] [] := by
  intro fu
  induction fu with
  | zero => intro l0 l1 l2 l3 l4 m h; exact ml_none h
  | succ fu ih =>
    intro l0 l1 l2 l3 l4 m h
    have hk49 := ih
    unfold fX10_next_49 at h
    exact ml_iload dX10_next_49 4 rfl <| ml_aload_n dX10_next_51 0 rfl <| ml_ck_of h fun hc1448 h => ml_getR dX10_next_52 wb_71 hc1448 <| ml_lx (mk := ml_r) h fun a1449 h => ml_ck_of h fun hc1450 h => ml_getI dX10_next_55 wb_72 hc1450 <| ml_icmp_ge dX10_next_58 h (fun _ h => ml_V.sub [0, 2, 3] rfl (vX10_next_128 hL hr  _ _ _ _ h)) (fun _ h => ml_iconst dX10_next_61 kc_i0 <| ml_istore (lv' := [(5, ml_i (0 : Int32)), (0, ml_r l0), (1, ml_i l1), (2, ml_i l2), (3, ml_i l3), (4, ml_i l4)]) dX10_next_62 (ml_hn hL rfl) rfl <| ml_iconst dX10_next_64 kc_i0 <| ml_istore (lv' := [(6, ml_i (0 : Int32)), (5, ml_i (0 : Int32)), (0, ml_r l0), (1, ml_i l1), (2, ml_i l2), (3, ml_i l3), (4, ml_i l4)]) dX10_next_65 (ml_hn hL rfl) rfl <| ml_V.sub [2, 3, 4, 5, 6, 1, 0] rfl (vX10_next_67 hL hr hk49 ml_fu _ _ _ _ _ _ _ _ h))
def fX10_next (l0 : Nat) (l1 : Int32) (m : ml_M) : Option (Int32 × ml_M) :=
    ml_b1 (fX10_within l1 (0 : Int32) (20 : Int32) m) fun r1452 =>
    if r1452 = 0 then
    some ((-1 : Int32), m)
    else
    if (ml_K m l0).1 = 10 then
    ml_b1 (fX10_refreshSharings l0 m) fun m1455 =>
    if (ml_K m1455 l0).1 = 10 then
    ml_let (ml_R m1455 l0 12) fun a1457 =>
    if (ml_K m1455 a1457).1 = 7 then
    ml_let (ml_R m1455 a1457 3) fun a1459 =>
    if ml_in m1455 a1459 20 l1 then
    if (ml_I m1455 a1459 l1.toNatClampNeg) = 0 then
    some ((-9 : Int32), m1455)
    else
    ml_let (ml_R m1455 l0 2) fun a1461 =>
    if (ml_K m1455 a1461).1 = 1 then
    if (ml_I m1455 a1461 3) = 0 then
    some ((-9 : Int32), m1455)
    else
    fX10_next_49 ml_fu l0 l1 (-9 : Int32) (0 : Int32) (0 : Int32) m1455
    else none
    else none
    else none
    else none
    else none
theorem wX10_next_0 {E : ml_E} (hL : ml_eL E = 7) {rv : Int32} {rm : ml_M} (hr : ∀ (pc pc' : Nat) (lv : List (Nat × ml_X)), ml_d cX10_next pc .ireturn 1 pc' → True → ml_V E "LostRoom" cX10_next 19 false rm pc lv [ml_i rv]) : ∀ (l0 : Nat) (l1 : Int32) (m : ml_M), fX10_next l0 l1 m = some (rv, rm) → ml_V E "LostRoom" cX10_next 19 false m 0 [(0, ml_r l0), (1, ml_i l1)] [] := by
  intro l0 l1 m h
  unfold fX10_next at h
  exact ml_iload_n dX10_next_0 1 rfl <| ml_iconst dX10_next_1 kc_i0 <| ml_bipush dX10_next_2 kc_b20 <| ml_b1_of h fun r1452 hv1451 h => ml_callS dX10_next_4 wm_21 wb_4 (sX10_within hv1451) rfl (Nat.le_of_ble_eq_true rfl) (Nat.le_of_ble_eq_true rfl) rfl <| ml_if_ne dX10_next_7 h (fun _ h => ml_aload_n dX10_next_12 0 rfl <| ml_ck_of h fun hc1454 h => ml_b1_of h fun m1455 hv1453 h => ml_callV dX10_next_13 wm_360 wb_223 hc1454 (sX10_refreshSharings hv1453) rfl (Nat.le_of_ble_eq_true rfl) (Nat.le_of_ble_eq_true rfl) rfl <| ml_aload_n dX10_next_16 0 rfl <| ml_ck_of h fun hc1456 h => ml_getR dX10_next_17 wb_67 hc1456 <| ml_lx (mk := ml_r) h fun a1457 h => ml_ck_of h fun hc1458 h => ml_getR dX10_next_20 wb_257 hc1458 <| ml_lx (mk := ml_r) h fun a1459 h => ml_iload_n dX10_next_23 1 rfl <| ml_ck_of h fun hi1460 h => ml_iald dX10_next_24 hi1460 <| ml_if_eq dX10_next_25 h (fun _ h => ml_bipush dX10_next_38 kc_bm9 <| ml_rI (mk := ml_i) hr dX10_next_40 (fun _ => trivial) h) (fun _ h => ml_aload_n dX10_next_28 0 rfl <| ml_getR dX10_next_29 wb_71 hc1456 <| ml_lx (mk := ml_r) h fun a1461 h => ml_ck_of h fun hc1462 h => ml_getI dX10_next_32 wb_72 hc1462 <| ml_if_ne dX10_next_35 h (fun _ h => ml_bipush dX10_next_41 kc_bm9 <| ml_istore_n (lv' := [(2, ml_i (-9 : Int32)), (0, ml_r l0), (1, ml_i l1)]) dX10_next_43 (ml_hn hL rfl) rfl <| ml_iconst dX10_next_44 kc_i0 <| ml_istore_n (lv' := [(3, ml_i (0 : Int32)), (2, ml_i (-9 : Int32)), (0, ml_r l0), (1, ml_i l1)]) dX10_next_45 (ml_hn hL rfl) rfl <| ml_iconst dX10_next_46 kc_i0 <| ml_istore (lv' := [(4, ml_i (0 : Int32)), (3, ml_i (0 : Int32)), (2, ml_i (-9 : Int32)), (0, ml_r l0), (1, ml_i l1)]) dX10_next_47 (ml_hn hL rfl) rfl <| ml_V.sub [3, 4, 2, 1, 0] rfl (vX10_next_49 hL hr  ml_fu _ _ _ _ _ _ h)) (fun _ h => ml_bipush dX10_next_38 kc_bm9 <| ml_rI (mk := ml_i) hr dX10_next_40 (fun _ => trivial) h))) (fun _ h => ml_iconst dX10_next_10 kc_im1 <| ml_rI (mk := ml_i) hr dX10_next_11 (fun _ => trivial) h)
theorem sX10_next {l0 : Nat} {l1 : Int32} {m : ml_M} {rv : Int32} {rm : ml_M} (h : fX10_next l0 l1 m = some (rv, rm)) : ml_Sn yX10_next cX10_next 7 (some .int) 19 [ml_r l0, ml_i l1] m (some (ml_i rv)) rm :=
  ml_Sn_of (P := True) (ini := false) (by decide +kernel) (Nat.le_of_ble_eq_true rfl) (fun h => by cases h) (fun _ => ml_RkI rv) fun E hL hr => wX10_next_0 hL hr _ _ _ h
theorem dX10_whose_0 : ml_d cX10_whose 0 (.aload_n 0) 1 1 := ⟨by decide +kernel, rfl⟩
theorem dX10_whose_1 : ml_d cX10_whose 1 (.iload_n 1) 1 2 := ⟨by decide +kernel, rfl⟩
theorem dX10_whose_2 : ml_d cX10_whose 2 (.invokevirtual 148) 3 5 := ⟨by decide +kernel, rfl⟩
theorem dX10_whose_5 : ml_j cX10_whose 5 (.ifCond .eq) 18 8 := ⟨13, by decide +kernel, by decide, rfl⟩
theorem dX10_whose_8 : ml_d cX10_whose 8 (.iload_n 2) 1 9 := ⟨by decide +kernel, rfl⟩
theorem dX10_whose_9 : ml_d cX10_whose 9 (.iconst 0) 1 10 := ⟨by decide +kernel, rfl⟩
theorem dX10_whose_10 : ml_d cX10_whose 10 (.bipush 20) 2 12 := ⟨by decide +kernel, rfl⟩
theorem dX10_whose_12 : ml_d cX10_whose 12 (.invokestatic 138) 3 15 := ⟨by decide +kernel, rfl⟩
theorem dX10_whose_15 : ml_j cX10_whose 15 (.ifCond .ne) 20 18 := ⟨5, by decide +kernel, by decide, rfl⟩
theorem dX10_whose_18 : ml_d cX10_whose 18 (.iconst (-1)) 1 19 := ⟨by decide +kernel, rfl⟩
theorem dX10_whose_19 : ml_d cX10_whose 19 (.ireturn) 1 20 := ⟨by decide +kernel, rfl⟩
theorem dX10_whose_20 : ml_d cX10_whose 20 (.aload_n 0) 1 21 := ⟨by decide +kernel, rfl⟩
theorem dX10_whose_21 : ml_d cX10_whose 21 (.invokevirtual 243) 3 24 := ⟨by decide +kernel, rfl⟩
theorem dX10_whose_24 : ml_d cX10_whose 24 (.iconst 0) 1 25 := ⟨by decide +kernel, rfl⟩
theorem dX10_whose_25 : ml_d cX10_whose 25 (.istore_n 3) 1 26 := ⟨by decide +kernel, rfl⟩
theorem dX10_whose_26 : ml_d cX10_whose 26 (.iconst 0) 1 27 := ⟨by decide +kernel, rfl⟩
theorem dX10_whose_27 : ml_d cX10_whose 27 (.istore 4) 2 29 := ⟨by decide +kernel, rfl⟩
theorem dX10_whose_29 : ml_d cX10_whose 29 (.iload 4) 2 31 := ⟨by decide +kernel, rfl⟩
theorem dX10_whose_31 : ml_d cX10_whose 31 (.aload_n 0) 1 32 := ⟨by decide +kernel, rfl⟩
theorem dX10_whose_32 : ml_d cX10_whose 32 (.getfield 26) 3 35 := ⟨by decide +kernel, rfl⟩
theorem dX10_whose_35 : ml_d cX10_whose 35 (.getfield 193) 3 38 := ⟨by decide +kernel, rfl⟩
theorem dX10_whose_38 : ml_j cX10_whose 38 (.if_icmp .ge) 68 41 := ⟨30, by decide +kernel, by decide, rfl⟩
theorem dX10_whose_41 : ml_d cX10_whose 41 (.aload_n 0) 1 42 := ⟨by decide +kernel, rfl⟩
theorem dX10_whose_42 : ml_d cX10_whose 42 (.getfield 61) 3 45 := ⟨by decide +kernel, rfl⟩
theorem dX10_whose_45 : ml_d cX10_whose 45 (.iload_n 2) 1 46 := ⟨by decide +kernel, rfl⟩
theorem dX10_whose_46 : ml_d cX10_whose 46 (.iload_n 1) 1 47 := ⟨by decide +kernel, rfl⟩
theorem dX10_whose_47 : ml_d cX10_whose 47 (.iload 4) 2 49 := ⟨by decide +kernel, rfl⟩
theorem dX10_whose_49 : ml_d cX10_whose 49 (.invokevirtual 259) 3 52 := ⟨by decide +kernel, rfl⟩
theorem dX10_whose_52 : ml_j cX10_whose 52 (.ifCond .le) 62 55 := ⟨10, by decide +kernel, by decide, rfl⟩
theorem dX10_whose_55 : ml_d cX10_whose 55 (.iload_n 3) 1 56 := ⟨by decide +kernel, rfl⟩
theorem dX10_whose_56 : ml_d cX10_whose 56 (.iconst 1) 1 57 := ⟨by decide +kernel, rfl⟩
theorem dX10_whose_57 : ml_d cX10_whose 57 (.iload 4) 2 59 := ⟨by decide +kernel, rfl⟩
theorem dX10_whose_59 : ml_d cX10_whose 59 (.ishl) 1 60 := ⟨by decide +kernel, rfl⟩
theorem dX10_whose_60 : ml_d cX10_whose 60 (.ior) 1 61 := ⟨by decide +kernel, rfl⟩
theorem dX10_whose_61 : ml_d cX10_whose 61 (.istore_n 3) 1 62 := ⟨by decide +kernel, rfl⟩
theorem dX10_whose_62 : ml_d cX10_whose 62 (.iinc 4 1) 3 65 := ⟨by decide +kernel, rfl⟩
theorem dX10_whose_65 : ml_j cX10_whose 65 .goto 29 68 := ⟨(-36), by decide +kernel, by decide, rfl⟩
theorem dX10_whose_68 : ml_d cX10_whose 68 (.iload_n 3) 1 69 := ⟨by decide +kernel, rfl⟩
theorem dX10_whose_69 : ml_d cX10_whose 69 (.ireturn) 1 70 := ⟨by decide +kernel, rfl⟩
def fX10_whose_62 (k29 : Nat → Int32 → Int32 → Int32 → Int32 → ml_M → Option (Int32 × ml_M)) (l0 : Nat) (l1 : Int32) (l2 : Int32) (l3 : Int32) (l4 : Int32) (m : ml_M) : Option (Int32 × ml_M) :=
    k29 l0 l1 l2 l3 (l4 + (1 : Int32)) m
theorem vX10_whose_62 {E : ml_E} (hL : ml_eL E = 5) {rv : Int32} {rm : ml_M} (hr : ∀ (pc pc' : Nat) (lv : List (Nat × ml_X)), ml_d cX10_whose pc .ireturn 1 pc' → True → ml_V E "LostRoom" cX10_whose 19 false rm pc lv [ml_i rv]) {k29 : Nat → Int32 → Int32 → Int32 → Int32 → ml_M → Option (Int32 × ml_M)} (hk29 : ∀ (l0 : Nat) (l1 : Int32) (l2 : Int32) (l3 : Int32) (l4 : Int32) (m : ml_M), k29 l0 l1 l2 l3 l4 m = some (rv, rm) → ml_V E "LostRoom" cX10_whose 19 false m 29 [(0, ml_r l0), (1, ml_i l1), (2, ml_i l2), (3, ml_i l3), (4, ml_i l4)] []) : ∀ (l0 : Nat) (l1 : Int32) (l2 : Int32) (l3 : Int32) (l4 : Int32) (m : ml_M), fX10_whose_62 k29 l0 l1 l2 l3 l4 m = some (rv, rm) → ml_V E "LostRoom" cX10_whose 19 false m 62 [(0, ml_r l0), (1, ml_i l1), (2, ml_i l2), (3, ml_i l3), (4, ml_i l4)] [] := by
  intro l0 l1 l2 l3 l4 m h
  unfold fX10_whose_62 at h
  exact ml_iinc (lv' := [(4, ml_i (l4 + (1 : Int32))), (0, ml_r l0), (1, ml_i l1), (2, ml_i l2), (3, ml_i l3)]) dX10_whose_62 4 rfl (congrArg (l4 + ·) kc_i1) (ml_hn hL rfl) rfl <| ml_goto dX10_whose_65 <| ml_V.sub [1, 2, 3, 4, 0] rfl (hk29 _ _ _ _ _ _ h)
def fX10_whose_29 : Nat → Nat → Int32 → Int32 → Int32 → Int32 → ml_M → Option (Int32 × ml_M)
  | 0, _, _, _, _, _, _ => none
  | fu + 1, l0, l1, l2, l3, l4, m =>
    if (ml_K m l0).1 = 10 then
    ml_let (ml_R m l0 2) fun a1464 =>
    if (ml_K m a1464).1 = 1 then
    if (ml_I m a1464 2) ≤ l4 then
    some (l3, m)
    else
    ml_let (ml_R m l0 12) fun a1466 =>
    if (ml_K m a1466).1 = 7 then
    ml_b1 (fX7_withPair a1466 l2 l1 l4 m) fun r1469 =>
    if r1469 ≤ 0 then
    fX10_whose_62 (fX10_whose_29 fu) l0 l1 l2 l3 l4 m
    else
    ml_let (l3 ||| ((1 : Int32) <<< (l4 &&& 31))) fun x1470 =>
    fX10_whose_62 (fX10_whose_29 fu) l0 l1 l2 x1470 l4 m
    else none
    else none
    else none
theorem vX10_whose_29 {E : ml_E} (hL : ml_eL E = 5) {rv : Int32} {rm : ml_M} (hr : ∀ (pc pc' : Nat) (lv : List (Nat × ml_X)), ml_d cX10_whose pc .ireturn 1 pc' → True → ml_V E "LostRoom" cX10_whose 19 false rm pc lv [ml_i rv]) : ∀ (fu : Nat) (l0 : Nat) (l1 : Int32) (l2 : Int32) (l3 : Int32) (l4 : Int32) (m : ml_M), fX10_whose_29 fu l0 l1 l2 l3 l4 m = some (rv, rm) → ml_V E "LostRoom" cX10_whose 19 false m 29 [(0, ml_r l0), (1, ml_i l1), (2, ml_i l2), (3, ml_i l3), (4, ml_i l4)] [] := by
  intro fu
  induction fu with
  | zero => intro l0 l1 l2 l3 l4 m h; exact ml_none h
  | succ fu ih =>
    intro l0 l1 l2 l3 l4 m h
    have hk29 := ih
    unfold fX10_whose_29 at h
    exact ml_iload dX10_whose_29 4 rfl <| ml_aload_n dX10_whose_31 0 rfl <| ml_ck_of h fun hc1463 h => ml_getR dX10_whose_32 wb_71 hc1463 <| ml_lx (mk := ml_r) h fun a1464 h => ml_ck_of h fun hc1465 h => ml_getI dX10_whose_35 wb_83 hc1465 <| ml_icmp_ge dX10_whose_38 h (fun _ h => ml_iload_n dX10_whose_68 3 rfl <| ml_rI (mk := ml_i) hr dX10_whose_69 (fun _ => trivial) h) (fun _ h => ml_aload_n dX10_whose_41 0 rfl <| ml_getR dX10_whose_42 wb_67 hc1463 <| ml_lx (mk := ml_r) h fun a1466 h => ml_iload_n dX10_whose_45 2 rfl <| ml_iload_n dX10_whose_46 1 rfl <| ml_iload dX10_whose_47 4 rfl <| ml_ck_of h fun hc1468 h => ml_b1_of h fun r1469 hv1467 h => ml_callV dX10_whose_49 wm_416 wb_258 hc1468 (sX7_withPair hv1467) rfl (Nat.le_of_ble_eq_true rfl) (Nat.le_of_ble_eq_true rfl) rfl <| ml_if_le dX10_whose_52 h (fun _ h => ml_V.sub [0, 1, 2, 3, 4] rfl (vX10_whose_62 hL hr hk29 _ _ _ _ _ _ h)) (fun _ h => ml_iload_n dX10_whose_55 3 rfl <| ml_iconst dX10_whose_56 kc_i1 <| ml_iload dX10_whose_57 4 rfl <| ml_ishl dX10_whose_59 <| ml_ior dX10_whose_60 <| ml_lx (mk := ml_i) h fun x1470 h => ml_istore_n (lv' := [(3, ml_i x1470), (0, ml_r l0), (1, ml_i l1), (2, ml_i l2), (4, ml_i l4)]) dX10_whose_61 (ml_hn hL rfl) rfl <| ml_V.sub [1, 2, 3, 0, 4] rfl (vX10_whose_62 hL hr hk29 _ _ _ _ _ _ h)))
def fX10_whose (l0 : Nat) (l1 : Int32) (l2 : Int32) (m : ml_M) : Option (Int32 × ml_M) :=
    if (ml_K m l0).1 = 10 then
    ml_b1 (fX10_isTrunk l0 l1 m) fun r1473 =>
    if r1473 = 0 then
    some ((-1 : Int32), m)
    else
    ml_b1 (fX10_within l2 (0 : Int32) (20 : Int32) m) fun r1475 =>
    if r1475 = 0 then
    some ((-1 : Int32), m)
    else
    ml_b1 (fX10_refreshSharings l0 m) fun m1477 =>
    fX10_whose_29 ml_fu l0 l1 l2 (0 : Int32) (0 : Int32) m1477
    else none
theorem wX10_whose_0 {E : ml_E} (hL : ml_eL E = 5) {rv : Int32} {rm : ml_M} (hr : ∀ (pc pc' : Nat) (lv : List (Nat × ml_X)), ml_d cX10_whose pc .ireturn 1 pc' → True → ml_V E "LostRoom" cX10_whose 19 false rm pc lv [ml_i rv]) : ∀ (l0 : Nat) (l1 : Int32) (l2 : Int32) (m : ml_M), fX10_whose l0 l1 l2 m = some (rv, rm) → ml_V E "LostRoom" cX10_whose 19 false m 0 [(0, ml_r l0), (1, ml_i l1), (2, ml_i l2)] [] := by
  intro l0 l1 l2 m h
  unfold fX10_whose at h
  exact ml_aload_n dX10_whose_0 0 rfl <| ml_iload_n dX10_whose_1 1 rfl <| ml_ck_of h fun hc1472 h => ml_b1_of h fun r1473 hv1471 h => ml_callV dX10_whose_2 wm_286 wb_173 hc1472 (sX10_isTrunk hv1471) rfl (Nat.le_of_ble_eq_true rfl) (Nat.le_of_ble_eq_true rfl) rfl <| ml_if_eq dX10_whose_5 h (fun _ h => ml_iconst dX10_whose_18 kc_im1 <| ml_rI (mk := ml_i) hr dX10_whose_19 (fun _ => trivial) h) (fun _ h => ml_iload_n dX10_whose_8 2 rfl <| ml_iconst dX10_whose_9 kc_i0 <| ml_bipush dX10_whose_10 kc_b20 <| ml_b1_of h fun r1475 hv1474 h => ml_callS dX10_whose_12 wm_21 wb_4 (sX10_within hv1474) rfl (Nat.le_of_ble_eq_true rfl) (Nat.le_of_ble_eq_true rfl) rfl <| ml_if_ne dX10_whose_15 h (fun _ h => ml_aload_n dX10_whose_20 0 rfl <| ml_b1_of h fun m1477 hv1476 h => ml_callV dX10_whose_21 wm_360 wb_223 hc1472 (sX10_refreshSharings hv1476) rfl (Nat.le_of_ble_eq_true rfl) (Nat.le_of_ble_eq_true rfl) rfl <| ml_iconst dX10_whose_24 kc_i0 <| ml_istore_n (lv' := [(3, ml_i (0 : Int32)), (0, ml_r l0), (1, ml_i l1), (2, ml_i l2)]) dX10_whose_25 (ml_hn hL rfl) rfl <| ml_iconst dX10_whose_26 kc_i0 <| ml_istore (lv' := [(4, ml_i (0 : Int32)), (3, ml_i (0 : Int32)), (0, ml_r l0), (1, ml_i l1), (2, ml_i l2)]) dX10_whose_27 (ml_hn hL rfl) rfl <| ml_V.sub [2, 3, 4, 1, 0] rfl (vX10_whose_29 hL hr  ml_fu _ _ _ _ _ _ h)) (fun _ h => ml_iconst dX10_whose_18 kc_im1 <| ml_rI (mk := ml_i) hr dX10_whose_19 (fun _ => trivial) h))
theorem sX10_whose {l0 : Nat} {l1 : Int32} {l2 : Int32} {m : ml_M} {rv : Int32} {rm : ml_M} (h : fX10_whose l0 l1 l2 m = some (rv, rm)) : ml_Sn yX10_whose cX10_whose 5 (some .int) 19 [ml_r l0, ml_i l1, ml_i l2] m (some (ml_i rv)) rm :=
  ml_Sn_of (P := True) (ini := false) (by decide +kernel) (Nat.le_of_ble_eq_true rfl) (fun h => by cases h) (fun _ => ml_RkI rv) fun E hL hr => wX10_whose_0 hL hr _ _ _ _ h
theorem dX7_isSharing_0 : ml_d cX7_isSharing 0 (.aload_n 1) 1 1 := ⟨by decide +kernel, rfl⟩
theorem dX7_isSharing_1 : ml_d cX7_isSharing 1 (.arraylength) 1 2 := ⟨by decide +kernel, rfl⟩
theorem dX7_isSharing_2 : ml_d cX7_isSharing 2 (.aload_n 0) 1 3 := ⟨by decide +kernel, rfl⟩
theorem dX7_isSharing_3 : ml_d cX7_isSharing 3 (.getfield 52) 3 6 := ⟨by decide +kernel, rfl⟩
theorem dX7_isSharing_6 : ml_j cX7_isSharing 6 (.if_icmp .eq) 11 9 := ⟨5, by decide +kernel, by decide, rfl⟩
theorem dX7_isSharing_9 : ml_d cX7_isSharing 9 (.iconst 0) 1 10 := ⟨by decide +kernel, rfl⟩
theorem dX7_isSharing_10 : ml_d cX7_isSharing 10 (.ireturn) 1 11 := ⟨by decide +kernel, rfl⟩
theorem dX7_isSharing_11 : ml_d cX7_isSharing 11 (.iconst 0) 1 12 := ⟨by decide +kernel, rfl⟩
theorem dX7_isSharing_12 : ml_d cX7_isSharing 12 (.istore_n 2) 1 13 := ⟨by decide +kernel, rfl⟩
theorem dX7_isSharing_13 : ml_d cX7_isSharing 13 (.iconst 0) 1 14 := ⟨by decide +kernel, rfl⟩
theorem dX7_isSharing_14 : ml_d cX7_isSharing 14 (.istore_n 3) 1 15 := ⟨by decide +kernel, rfl⟩
theorem dX7_isSharing_15 : ml_d cX7_isSharing 15 (.iload_n 3) 1 16 := ⟨by decide +kernel, rfl⟩
theorem dX7_isSharing_16 : ml_d cX7_isSharing 16 (.aload_n 0) 1 17 := ⟨by decide +kernel, rfl⟩
theorem dX7_isSharing_17 : ml_d cX7_isSharing 17 (.getfield 52) 3 20 := ⟨by decide +kernel, rfl⟩
theorem dX7_isSharing_20 : ml_j cX7_isSharing 20 (.if_icmp .ge) 80 23 := ⟨60, by decide +kernel, by decide, rfl⟩
theorem dX7_isSharing_23 : ml_d cX7_isSharing 23 (.aload_n 1) 1 24 := ⟨by decide +kernel, rfl⟩
theorem dX7_isSharing_24 : ml_d cX7_isSharing 24 (.iload_n 3) 1 25 := ⟨by decide +kernel, rfl⟩
theorem dX7_isSharing_25 : ml_d cX7_isSharing 25 (.iaload) 1 26 := ⟨by decide +kernel, rfl⟩
theorem dX7_isSharing_26 : ml_d cX7_isSharing 26 (.istore 4) 2 28 := ⟨by decide +kernel, rfl⟩
theorem dX7_isSharing_28 : ml_d cX7_isSharing 28 (.iload 4) 2 30 := ⟨by decide +kernel, rfl⟩
theorem dX7_isSharing_30 : ml_d cX7_isSharing 30 (.iconst 0) 1 31 := ⟨by decide +kernel, rfl⟩
theorem dX7_isSharing_31 : ml_d cX7_isSharing 31 (.aload_n 0) 1 32 := ⟨by decide +kernel, rfl⟩
theorem dX7_isSharing_32 : ml_d cX7_isSharing 32 (.getfield 56) 3 35 := ⟨by decide +kernel, rfl⟩
theorem dX7_isSharing_35 : ml_d cX7_isSharing 35 (.iconst 1) 1 36 := ⟨by decide +kernel, rfl⟩
theorem dX7_isSharing_36 : ml_d cX7_isSharing 36 (.isub) 1 37 := ⟨by decide +kernel, rfl⟩
theorem dX7_isSharing_37 : ml_d cX7_isSharing 37 (.invokestatic 85) 3 40 := ⟨by decide +kernel, rfl⟩
theorem dX7_isSharing_40 : ml_j cX7_isSharing 40 (.ifCond .eq) 57 43 := ⟨17, by decide +kernel, by decide, rfl⟩
theorem dX7_isSharing_43 : ml_d cX7_isSharing 43 (.aload_n 0) 1 44 := ⟨by decide +kernel, rfl⟩
theorem dX7_isSharing_44 : ml_d cX7_isSharing 44 (.iload_n 3) 1 45 := ⟨by decide +kernel, rfl⟩
theorem dX7_isSharing_45 : ml_d cX7_isSharing 45 (.iload_n 2) 1 46 := ⟨by decide +kernel, rfl⟩
theorem dX7_isSharing_46 : ml_d cX7_isSharing 46 (.invokevirtual 89) 3 49 := ⟨by decide +kernel, rfl⟩
theorem dX7_isSharing_49 : ml_d cX7_isSharing 49 (.iload 4) 2 51 := ⟨by decide +kernel, rfl⟩
theorem dX7_isSharing_51 : ml_d cX7_isSharing 51 (.invokestatic 93) 3 54 := ⟨by decide +kernel, rfl⟩
theorem dX7_isSharing_54 : ml_j cX7_isSharing 54 (.ifCond .ne) 59 57 := ⟨5, by decide +kernel, by decide, rfl⟩
theorem dX7_isSharing_57 : ml_d cX7_isSharing 57 (.iconst 0) 1 58 := ⟨by decide +kernel, rfl⟩
theorem dX7_isSharing_58 : ml_d cX7_isSharing 58 (.ireturn) 1 59 := ⟨by decide +kernel, rfl⟩
theorem dX7_isSharing_59 : ml_d cX7_isSharing 59 (.aload_n 0) 1 60 := ⟨by decide +kernel, rfl⟩
theorem dX7_isSharing_60 : ml_d cX7_isSharing 60 (.getfield 38) 3 63 := ⟨by decide +kernel, rfl⟩
theorem dX7_isSharing_63 : ml_d cX7_isSharing 63 (.iload_n 3) 1 64 := ⟨by decide +kernel, rfl⟩
theorem dX7_isSharing_64 : ml_d cX7_isSharing 64 (.iload 4) 2 66 := ⟨by decide +kernel, rfl⟩
theorem dX7_isSharing_66 : ml_d cX7_isSharing 66 (.iastore) 1 67 := ⟨by decide +kernel, rfl⟩
theorem dX7_isSharing_67 : ml_d cX7_isSharing 67 (.iload_n 2) 1 68 := ⟨by decide +kernel, rfl⟩
theorem dX7_isSharing_68 : ml_d cX7_isSharing 68 (.iconst 1) 1 69 := ⟨by decide +kernel, rfl⟩
theorem dX7_isSharing_69 : ml_d cX7_isSharing 69 (.iload 4) 2 71 := ⟨by decide +kernel, rfl⟩
theorem dX7_isSharing_71 : ml_d cX7_isSharing 71 (.ishl) 1 72 := ⟨by decide +kernel, rfl⟩
theorem dX7_isSharing_72 : ml_d cX7_isSharing 72 (.ior) 1 73 := ⟨by decide +kernel, rfl⟩
theorem dX7_isSharing_73 : ml_d cX7_isSharing 73 (.istore_n 2) 1 74 := ⟨by decide +kernel, rfl⟩
theorem dX7_isSharing_74 : ml_d cX7_isSharing 74 (.iinc 3 1) 3 77 := ⟨by decide +kernel, rfl⟩
theorem dX7_isSharing_77 : ml_j cX7_isSharing 77 .goto 15 80 := ⟨(-62), by decide +kernel, by decide, rfl⟩
theorem dX7_isSharing_80 : ml_d cX7_isSharing 80 (.aload_n 0) 1 81 := ⟨by decide +kernel, rfl⟩
theorem dX7_isSharing_81 : ml_d cX7_isSharing 81 (.getfield 28) 3 84 := ⟨by decide +kernel, rfl⟩
theorem dX7_isSharing_84 : ml_d cX7_isSharing 84 (.iload_n 2) 1 85 := ⟨by decide +kernel, rfl⟩
theorem dX7_isSharing_85 : ml_d cX7_isSharing 85 (.baload) 1 86 := ⟨by decide +kernel, rfl⟩
theorem dX7_isSharing_86 : ml_d cX7_isSharing 86 (.ireturn) 1 87 := ⟨by decide +kernel, rfl⟩
def fX7_isSharing_80 (l0 : Nat) (l2 : Int32) (m : ml_M) : Option (Int32 × ml_M) :=
    if (ml_K m l0).1 = 7 then
    ml_let (ml_R m l0 9) fun a1479 =>
    if ml_in m a1479 22 l2 then
    if (ml_I m a1479 l2.toNatClampNeg) = 0 ∨ (ml_I m a1479 l2.toNatClampNeg) = 1 then some ((ml_I m a1479 l2.toNatClampNeg), m) else none
    else none
    else none
theorem vX7_isSharing_80 {E : ml_E} (hL : ml_eL E = 5) {rv : Int32} {rm : ml_M} (hr : ∀ (pc pc' : Nat) (lv : List (Nat × ml_X)), ml_d cX7_isSharing pc .ireturn 1 pc' → (rv = 0 ∨ rv = 1) → ml_V E "LostRoom$Sharings" cX7_isSharing 4 false rm pc lv [ml_i rv]) : ∀ (l0 : Nat) (l2 : Int32) (m : ml_M), fX7_isSharing_80 l0 l2 m = some (rv, rm) → ml_V E "LostRoom$Sharings" cX7_isSharing 4 false m 80 [(0, ml_r l0), (2, ml_i l2)] [] := by
  intro l0 l2 m h
  unfold fX7_isSharing_80 at h
  exact ml_aload_n dX7_isSharing_80 0 rfl <| ml_ck_of h fun hc1478 h => ml_getR dX7_isSharing_81 wb_194 hc1478 <| ml_lx (mk := ml_r) h fun a1479 h => ml_iload_n dX7_isSharing_84 1 rfl <| ml_ck_of h fun hi1480 h => ml_zald dX7_isSharing_85 hi1480 <| ml_ck_of h fun hz1481 h => ml_rI (mk := ml_i) hr dX7_isSharing_86 (fun e => e ▸ hz1481) h
def fX7_isSharing_15 : Nat → Nat → Nat → Int32 → Int32 → ml_M → Option (Int32 × ml_M)
  | 0, _, _, _, _, _ => none
  | fu + 1, l0, l1, l2, l3, m =>
    if (ml_K m l0).1 = 7 then
    if (ml_I m l0 6) ≤ l3 then
    fX7_isSharing_80 l0 l2 m
    else
    if ml_in m l1 20 l3 then
    ml_let (ml_I m l1 l3.toNatClampNeg) fun x1484 =>
    ml_b1 (fX10_within x1484 (0 : Int32) ((ml_I m l0 7) - (1 : Int32)) m) fun r1486 =>
    if r1486 = 0 then
    some ((0 : Int32), m)
    else
    ml_b1 (fX7_open l0 l3 l2 m) fun r1488 =>
    ml_b1 (fX10_has r1488 x1484 m) fun r1490 =>
    if r1490 = 0 then
    some ((0 : Int32), m)
    else
    ml_let (ml_R m l0 12) fun a1491 =>
    if ml_in m a1491 20 l3 then
    ml_let (ml_sI m a1491 l3.toNatClampNeg x1484) fun m1493 =>
    ml_let (l2 ||| ((1 : Int32) <<< (x1484 &&& 31))) fun x1495 =>
    (fX7_isSharing_15 fu) l0 l1 x1495 (l3 + (1 : Int32)) m1493
    else none
    else none
    else none
theorem vX7_isSharing_15 {E : ml_E} (hL : ml_eL E = 5) {rv : Int32} {rm : ml_M} (hr : ∀ (pc pc' : Nat) (lv : List (Nat × ml_X)), ml_d cX7_isSharing pc .ireturn 1 pc' → (rv = 0 ∨ rv = 1) → ml_V E "LostRoom$Sharings" cX7_isSharing 4 false rm pc lv [ml_i rv]) : ∀ (fu : Nat) (l0 : Nat) (l1 : Nat) (l2 : Int32) (l3 : Int32) (m : ml_M), fX7_isSharing_15 fu l0 l1 l2 l3 m = some (rv, rm) → ml_V E "LostRoom$Sharings" cX7_isSharing 4 false m 15 [(0, ml_r l0), (1, ml_r l1), (2, ml_i l2), (3, ml_i l3)] [] := by
  intro fu
  induction fu with
  | zero => intro l0 l1 l2 l3 m h; exact ml_none h
  | succ fu ih =>
    intro l0 l1 l2 l3 m h
    have hk15 := ih
    unfold fX7_isSharing_15 at h
    exact ml_iload_n dX7_isSharing_15 3 rfl <| ml_aload_n dX7_isSharing_16 0 rfl <| ml_ck_of h fun hc1482 h => ml_getI dX7_isSharing_17 wb_200 hc1482 <| ml_icmp_ge dX7_isSharing_20 h (fun _ h => ml_V.sub [0, 2] rfl (vX7_isSharing_80 hL hr  _ _ _ h)) (fun _ h => ml_aload_n dX7_isSharing_23 1 rfl <| ml_iload_n dX7_isSharing_24 3 rfl <| ml_ck_of h fun hi1483 h => ml_iald dX7_isSharing_25 hi1483 <| ml_lx (mk := ml_i) h fun x1484 h => ml_istore (lv' := [(4, ml_i x1484), (0, ml_r l0), (1, ml_r l1), (2, ml_i l2), (3, ml_i l3)]) dX7_isSharing_26 (ml_hn hL rfl) rfl <| ml_iload dX7_isSharing_28 0 rfl <| ml_iconst dX7_isSharing_30 kc_i0 <| ml_aload_n dX7_isSharing_31 1 rfl <| ml_getI dX7_isSharing_32 wb_187 hc1482 <| ml_iconst dX7_isSharing_35 kc_i1 <| ml_isub dX7_isSharing_36 <| ml_b1_of h fun r1486 hv1485 h => ml_callSN (host := "LostRoom") dX7_isSharing_37 (by decide) wb_4 (sX10_within hv1485) rfl (Nat.le_of_ble_eq_true rfl) (Nat.le_of_ble_eq_true rfl) rfl <| ml_if_eq dX7_isSharing_40 h (fun _ h => ml_iconst dX7_isSharing_57 kc_i0 <| ml_rI (mk := ml_i) hr dX7_isSharing_58 (fun e => Or.inl e.symm) h) (fun _ h => ml_aload_n dX7_isSharing_43 1 rfl <| ml_iload_n dX7_isSharing_44 4 rfl <| ml_iload_n dX7_isSharing_45 3 rfl <| ml_b1_of h fun r1488 hv1487 h => ml_callV dX7_isSharing_46 wm_329 wb_207 hc1482 (sX7_open hv1487) rfl (Nat.le_of_ble_eq_true rfl) (Nat.le_of_ble_eq_true rfl) rfl <| ml_iload dX7_isSharing_49 0 rfl <| ml_b1_of h fun r1490 hv1489 h => ml_callSN (host := "LostRoom") dX7_isSharing_51 (by decide) wb_190 (sX10_has hv1489) rfl (Nat.le_of_ble_eq_true rfl) (Nat.le_of_ble_eq_true rfl) rfl <| ml_if_ne dX7_isSharing_54 h (fun _ h => ml_aload_n dX7_isSharing_59 1 rfl <| ml_getR dX7_isSharing_60 wb_196 hc1482 <| ml_lx (mk := ml_r) h fun a1491 h => ml_iload_n dX7_isSharing_63 4 rfl <| ml_iload dX7_isSharing_64 0 rfl <| ml_ck_of h fun hi1492 h => ml_iast dX7_isSharing_66 hi1492 <| ml_lt (m := m) rfl h fun m1493 em1494 h => ml_iload_n dX7_isSharing_67 3 rfl <| ml_iconst dX7_isSharing_68 kc_i1 <| ml_iload dX7_isSharing_69 0 rfl <| ml_ishl dX7_isSharing_71 <| ml_ior dX7_isSharing_72 <| ml_lx (mk := ml_i) h fun x1495 h => ml_istore_n (lv' := [(2, ml_i x1495), (4, ml_i x1484), (0, ml_r l0), (1, ml_r l1), (3, ml_i l3)]) dX7_isSharing_73 (ml_hn hL rfl) rfl <| ml_iinc (lv' := [(3, ml_i (l3 + (1 : Int32))), (2, ml_i x1495), (4, ml_i x1484), (0, ml_r l0), (1, ml_r l1)]) dX7_isSharing_74 4 rfl (congrArg (l3 + ·) kc_i1) (ml_hn hL rfl) rfl <| ml_goto dX7_isSharing_77 <| ml_V.sub [3, 4, 1, 0] rfl (hk15 _ _ _ _ _ h)) (fun _ h => ml_iconst dX7_isSharing_57 kc_i0 <| ml_rI (mk := ml_i) hr dX7_isSharing_58 (fun e => Or.inl e.symm) h)))
def fX7_isSharing (l0 : Nat) (l1 : Nat) (m : ml_M) : Option (Int32 × ml_M) :=
    if (ml_K m l1).1 = 20 then
    if (ml_K m l0).1 = 7 then
    if (Int32.ofNat (ml_K m l1).2) = (ml_I m l0 6) then
    fX7_isSharing_15 ml_fu l0 l1 (0 : Int32) (0 : Int32) m
    else
    some ((0 : Int32), m)
    else none
    else none
theorem wX7_isSharing_0 {E : ml_E} (hL : ml_eL E = 5) {rv : Int32} {rm : ml_M} (hr : ∀ (pc pc' : Nat) (lv : List (Nat × ml_X)), ml_d cX7_isSharing pc .ireturn 1 pc' → (rv = 0 ∨ rv = 1) → ml_V E "LostRoom$Sharings" cX7_isSharing 4 false rm pc lv [ml_i rv]) : ∀ (l0 : Nat) (l1 : Nat) (m : ml_M), fX7_isSharing l0 l1 m = some (rv, rm) → ml_V E "LostRoom$Sharings" cX7_isSharing 4 false m 0 [(0, ml_r l0), (1, ml_r l1)] [] := by
  intro l0 l1 m h
  unfold fX7_isSharing at h
  exact ml_aload_n dX7_isSharing_0 1 rfl <| ml_ck_of h fun hc1496 h => ml_alen (kd := 20) dX7_isSharing_1 (by decide) hc1496 <| ml_aload_n dX7_isSharing_2 0 rfl <| ml_ck_of h fun hc1497 h => ml_getI dX7_isSharing_3 wb_200 hc1497 <| ml_icmp_eq dX7_isSharing_6 h (fun _ h => ml_iconst dX7_isSharing_11 kc_i0 <| ml_istore_n (lv' := [(2, ml_i (0 : Int32)), (0, ml_r l0), (1, ml_r l1)]) dX7_isSharing_12 (ml_hn hL rfl) rfl <| ml_iconst dX7_isSharing_13 kc_i0 <| ml_istore_n (lv' := [(3, ml_i (0 : Int32)), (2, ml_i (0 : Int32)), (0, ml_r l0), (1, ml_r l1)]) dX7_isSharing_14 (ml_hn hL rfl) rfl <| ml_V.sub [2, 3, 1, 0] rfl (vX7_isSharing_15 hL hr  ml_fu _ _ _ _ _ h)) (fun _ h => ml_iconst dX7_isSharing_9 kc_i0 <| ml_rI (mk := ml_i) hr dX7_isSharing_10 (fun e => Or.inl e.symm) h)
theorem sX7_isSharing {l0 : Nat} {l1 : Nat} {m : ml_M} {rv : Int32} {rm : ml_M} (h : fX7_isSharing l0 l1 m = some (rv, rm)) : ml_Sn yX7_isSharing cX7_isSharing 5 (some .boolean) 4 [ml_r l0, ml_r l1] m (some (ml_i rv)) rm :=
  ml_Sn_of (P := (rv = 0 ∨ rv = 1)) (ini := false) (by decide +kernel) (Nat.le_of_ble_eq_true rfl) (fun h => by cases h) (fun hz => ml_RkZ rv hz) fun E hL hr => wX7_isSharing_0 hL hr _ _ _ h
theorem dX10_firstTrunkFor_0 : ml_d cX10_firstTrunkFor 0 (.iconst 0) 1 1 := ⟨by decide +kernel, rfl⟩
theorem dX10_firstTrunkFor_1 : ml_d cX10_firstTrunkFor 1 (.istore_n 3) 1 2 := ⟨by decide +kernel, rfl⟩
theorem dX10_firstTrunkFor_2 : ml_d cX10_firstTrunkFor 2 (.iload_n 3) 1 3 := ⟨by decide +kernel, rfl⟩
theorem dX10_firstTrunkFor_3 : ml_d cX10_firstTrunkFor 3 (.aload_n 2) 1 4 := ⟨by decide +kernel, rfl⟩
theorem dX10_firstTrunkFor_4 : ml_d cX10_firstTrunkFor 4 (.arraylength) 1 5 := ⟨by decide +kernel, rfl⟩
theorem dX10_firstTrunkFor_5 : ml_j cX10_firstTrunkFor 5 (.if_icmp .ge) 29 8 := ⟨24, by decide +kernel, by decide, rfl⟩
theorem dX10_firstTrunkFor_8 : ml_d cX10_firstTrunkFor 8 (.aload_n 1) 1 9 := ⟨by decide +kernel, rfl⟩
theorem dX10_firstTrunkFor_9 : ml_d cX10_firstTrunkFor 9 (.getfield 169) 3 12 := ⟨by decide +kernel, rfl⟩
theorem dX10_firstTrunkFor_12 : ml_d cX10_firstTrunkFor 12 (.aload_n 2) 1 13 := ⟨by decide +kernel, rfl⟩
theorem dX10_firstTrunkFor_13 : ml_d cX10_firstTrunkFor 13 (.iload_n 3) 1 14 := ⟨by decide +kernel, rfl⟩
theorem dX10_firstTrunkFor_14 : ml_d cX10_firstTrunkFor 14 (.iaload) 1 15 := ⟨by decide +kernel, rfl⟩
theorem dX10_firstTrunkFor_15 : ml_d cX10_firstTrunkFor 15 (.invokestatic 216) 3 18 := ⟨by decide +kernel, rfl⟩
theorem dX10_firstTrunkFor_18 : ml_j cX10_firstTrunkFor 18 (.ifCond .eq) 23 21 := ⟨5, by decide +kernel, by decide, rfl⟩
theorem dX10_firstTrunkFor_21 : ml_d cX10_firstTrunkFor 21 (.iload_n 3) 1 22 := ⟨by decide +kernel, rfl⟩
theorem dX10_firstTrunkFor_22 : ml_d cX10_firstTrunkFor 22 (.ireturn) 1 23 := ⟨by decide +kernel, rfl⟩
theorem dX10_firstTrunkFor_23 : ml_d cX10_firstTrunkFor 23 (.iinc 3 1) 3 26 := ⟨by decide +kernel, rfl⟩
theorem dX10_firstTrunkFor_26 : ml_j cX10_firstTrunkFor 26 .goto 2 29 := ⟨(-24), by decide +kernel, by decide, rfl⟩
theorem dX10_firstTrunkFor_29 : ml_d cX10_firstTrunkFor 29 (.bipush (-9)) 2 31 := ⟨by decide +kernel, rfl⟩
theorem dX10_firstTrunkFor_31 : ml_d cX10_firstTrunkFor 31 (.ireturn) 1 32 := ⟨by decide +kernel, rfl⟩
def fX10_firstTrunkFor_2 : Nat → Nat → Nat → Int32 → ml_M → Option Int32
  | 0, _, _, _, _ => none
  | fu + 1, l1, l2, l3, m =>
    if (ml_K m l2).1 = 20 then
    if (Int32.ofNat (ml_K m l2).2) ≤ l3 then
    some (-9 : Int32)
    else
    if (ml_K m l1).1 = 8 then
    if ml_in m l2 20 l3 then
    ml_b1 (fX10_has (ml_I m l1 5) (ml_I m l2 l3.toNatClampNeg) m) fun r1502 =>
    if r1502 = 0 then
    (fX10_firstTrunkFor_2 fu) l1 l2 (l3 + (1 : Int32)) m
    else
    some l3
    else none
    else none
    else none
theorem vX10_firstTrunkFor_2 {E : ml_E} (hL : ml_eL E = 4) {rv : Int32} {m : ml_M} (hr : ∀ (pc pc' : Nat) (lv : List (Nat × ml_X)), ml_d cX10_firstTrunkFor pc .ireturn 1 pc' → True → ml_V E "LostRoom" cX10_firstTrunkFor 3 false m pc lv [ml_i rv]) : ∀ (fu : Nat) (l1 : Nat) (l2 : Nat) (l3 : Int32), fX10_firstTrunkFor_2 fu l1 l2 l3 m = some rv → ml_V E "LostRoom" cX10_firstTrunkFor 3 false m 2 [(1, ml_r l1), (2, ml_r l2), (3, ml_i l3)] [] := by
  intro fu
  induction fu with
  | zero => intro l1 l2 l3 h; exact ml_none h
  | succ fu ih =>
    intro l1 l2 l3 h
    have hk2 := ih
    unfold fX10_firstTrunkFor_2 at h
    exact ml_iload_n dX10_firstTrunkFor_2 2 rfl <| ml_aload_n dX10_firstTrunkFor_3 1 rfl <| ml_ck_of h fun hc1498 h => ml_alen (kd := 20) dX10_firstTrunkFor_4 (by decide) hc1498 <| ml_icmp_ge dX10_firstTrunkFor_5 h (fun _ h => ml_bipush dX10_firstTrunkFor_29 kc_bm9 <| ml_rp (mk := ml_i) hr dX10_firstTrunkFor_31 (fun _ => trivial) h) (fun _ h => ml_aload_n dX10_firstTrunkFor_8 0 rfl <| ml_ck_of h fun hc1499 h => ml_getI dX10_firstTrunkFor_9 wb_79 hc1499 <| ml_aload_n dX10_firstTrunkFor_12 1 rfl <| ml_iload_n dX10_firstTrunkFor_13 2 rfl <| ml_ck_of h fun hi1500 h => ml_iald dX10_firstTrunkFor_14 hi1500 <| ml_b1_of h fun r1502 hv1501 h => ml_callS dX10_firstTrunkFor_15 wm_366 wb_190 (sX10_has hv1501) rfl (Nat.le_of_ble_eq_true rfl) (Nat.le_of_ble_eq_true rfl) rfl <| ml_if_eq dX10_firstTrunkFor_18 h (fun _ h => ml_iinc (lv' := [(3, ml_i (l3 + (1 : Int32))), (1, ml_r l1), (2, ml_r l2)]) dX10_firstTrunkFor_23 2 rfl (congrArg (l3 + ·) kc_i1) (ml_hn hL rfl) rfl <| ml_goto dX10_firstTrunkFor_26 <| ml_V.sub [1, 2, 0] rfl (hk2 _ _ _ h)) (fun _ h => ml_iload_n dX10_firstTrunkFor_21 2 rfl <| ml_rp (mk := ml_i) hr dX10_firstTrunkFor_22 (fun _ => trivial) h))
def fX10_firstTrunkFor (l0 : Nat) (l1 : Nat) (l2 : Nat) (m : ml_M) : Option Int32 :=
    fX10_firstTrunkFor_2 ml_fu l1 l2 (0 : Int32) m
theorem wX10_firstTrunkFor_0 {E : ml_E} (hL : ml_eL E = 4) {rv : Int32} {m : ml_M} (hr : ∀ (pc pc' : Nat) (lv : List (Nat × ml_X)), ml_d cX10_firstTrunkFor pc .ireturn 1 pc' → True → ml_V E "LostRoom" cX10_firstTrunkFor 3 false m pc lv [ml_i rv]) : ∀ (l0 : Nat) (l1 : Nat) (l2 : Nat), fX10_firstTrunkFor l0 l1 l2 m = some rv → ml_V E "LostRoom" cX10_firstTrunkFor 3 false m 0 [(0, ml_r l0), (1, ml_r l1), (2, ml_r l2)] [] := by
  intro l0 l1 l2 h
  unfold fX10_firstTrunkFor at h
  exact ml_iconst dX10_firstTrunkFor_0 kc_i0 <| ml_istore_n (lv' := [(3, ml_i (0 : Int32)), (0, ml_r l0), (1, ml_r l1), (2, ml_r l2)]) dX10_firstTrunkFor_1 (ml_hn hL rfl) rfl <| ml_V.sub [2, 3, 0] rfl (vX10_firstTrunkFor_2 hL hr  ml_fu _ _ _ h)
theorem sX10_firstTrunkFor {l0 : Nat} {l1 : Nat} {l2 : Nat} {m : ml_M} {rv : Int32} (h : fX10_firstTrunkFor l0 l1 l2 m = some rv) : ml_Sn yX10_firstTrunkFor cX10_firstTrunkFor 4 (some .int) 3 [ml_r l0, ml_r l1, ml_r l2] m (some (ml_i rv)) m :=
  ml_Sn_of (P := True) (ini := false) (by decide +kernel) (Nat.le_of_ble_eq_true rfl) (fun h => by cases h) (fun _ => ml_RkI rv) fun E hL hr => wX10_firstTrunkFor_0 hL hr _ _ _ h
theorem dX10_moves_0 : ml_d cX10_moves 0 (.iload_n 1) 1 1 := ⟨by decide +kernel, rfl⟩
theorem dX10_moves_1 : ml_d cX10_moves 1 (.invokestatic 82) 3 4 := ⟨by decide +kernel, rfl⟩
theorem dX10_moves_4 : ml_j cX10_moves 4 (.ifCond .eq) 14 7 := ⟨10, by decide +kernel, by decide, rfl⟩
theorem dX10_moves_7 : ml_d cX10_moves 7 (.iload_n 2) 1 8 := ⟨by decide +kernel, rfl⟩
theorem dX10_moves_8 : ml_d cX10_moves 8 (.invokestatic 82) 3 11 := ⟨by decide +kernel, rfl⟩
theorem dX10_moves_11 : ml_j cX10_moves 11 (.ifCond .ne) 16 14 := ⟨5, by decide +kernel, by decide, rfl⟩
theorem dX10_moves_14 : ml_d cX10_moves 14 (.iconst (-1)) 1 15 := ⟨by decide +kernel, rfl⟩
theorem dX10_moves_15 : ml_d cX10_moves 15 (.ireturn) 1 16 := ⟨by decide +kernel, rfl⟩
theorem dX10_moves_16 : ml_d cX10_moves 16 (.aload_n 0) 1 17 := ⟨by decide +kernel, rfl⟩
theorem dX10_moves_17 : ml_d cX10_moves 17 (.getfield 11) 3 20 := ⟨by decide +kernel, rfl⟩
theorem dX10_moves_20 : ml_d cX10_moves 20 (.iload_n 1) 1 21 := ⟨by decide +kernel, rfl⟩
theorem dX10_moves_21 : ml_d cX10_moves 21 (.aaload) 1 22 := ⟨by decide +kernel, rfl⟩
theorem dX10_moves_22 : ml_d cX10_moves 22 (.astore_n 3) 1 23 := ⟨by decide +kernel, rfl⟩
theorem dX10_moves_23 : ml_d cX10_moves 23 (.aload_n 3) 1 24 := ⟨by decide +kernel, rfl⟩
theorem dX10_moves_24 : ml_j cX10_moves 24 .ifnonnull 33 27 := ⟨9, by decide +kernel, by decide, rfl⟩
theorem dX10_moves_27 : ml_d cX10_moves 27 (.aload_n 0) 1 28 := ⟨by decide +kernel, rfl⟩
theorem dX10_moves_28 : ml_d cX10_moves 28 (.iconst 1) 1 29 := ⟨by decide +kernel, rfl⟩
theorem dX10_moves_29 : ml_d cX10_moves 29 (.invokevirtual 86) 3 32 := ⟨by decide +kernel, rfl⟩
theorem dX10_moves_32 : ml_d cX10_moves 32 (.ireturn) 1 33 := ⟨by decide +kernel, rfl⟩
theorem dX10_moves_33 : ml_d cX10_moves 33 (.aload_n 3) 1 34 := ⟨by decide +kernel, rfl⟩
theorem dX10_moves_34 : ml_d cX10_moves 34 (.arraylength) 1 35 := ⟨by decide +kernel, rfl⟩
theorem dX10_moves_35 : ml_d cX10_moves 35 (.aload_n 0) 1 36 := ⟨by decide +kernel, rfl⟩
theorem dX10_moves_36 : ml_d cX10_moves 36 (.getfield 26) 3 39 := ⟨by decide +kernel, rfl⟩
theorem dX10_moves_39 : ml_d cX10_moves 39 (.getfield 135) 3 42 := ⟨by decide +kernel, rfl⟩
theorem dX10_moves_42 : ml_j cX10_moves 42 (.if_icmp .eq) 51 45 := ⟨9, by decide +kernel, by decide, rfl⟩
theorem dX10_moves_45 : ml_d cX10_moves 45 (.aload_n 0) 1 46 := ⟨by decide +kernel, rfl⟩
theorem dX10_moves_46 : ml_d cX10_moves 46 (.iconst 5) 1 47 := ⟨by decide +kernel, rfl⟩
theorem dX10_moves_47 : ml_d cX10_moves 47 (.invokevirtual 86) 3 50 := ⟨by decide +kernel, rfl⟩
theorem dX10_moves_50 : ml_d cX10_moves 50 (.ireturn) 1 51 := ⟨by decide +kernel, rfl⟩
theorem dX10_moves_51 : ml_d cX10_moves 51 (.aload_n 0) 1 52 := ⟨by decide +kernel, rfl⟩
theorem dX10_moves_52 : ml_d cX10_moves 52 (.invokevirtual 243) 3 55 := ⟨by decide +kernel, rfl⟩
theorem dX10_moves_55 : ml_d cX10_moves 55 (.aload_n 0) 1 56 := ⟨by decide +kernel, rfl⟩
theorem dX10_moves_56 : ml_d cX10_moves 56 (.getfield 61) 3 59 := ⟨by decide +kernel, rfl⟩
theorem dX10_moves_59 : ml_d cX10_moves 59 (.aload_n 3) 1 60 := ⟨by decide +kernel, rfl⟩
theorem dX10_moves_60 : ml_d cX10_moves 60 (.invokevirtual 262) 3 63 := ⟨by decide +kernel, rfl⟩
theorem dX10_moves_63 : ml_j cX10_moves 63 (.ifCond .ne) 72 66 := ⟨9, by decide +kernel, by decide, rfl⟩
theorem dX10_moves_66 : ml_d cX10_moves 66 (.aload_n 0) 1 67 := ⟨by decide +kernel, rfl⟩
theorem dX10_moves_67 : ml_d cX10_moves 67 (.iconst 3) 1 68 := ⟨by decide +kernel, rfl⟩
theorem dX10_moves_68 : ml_d cX10_moves 68 (.invokevirtual 86) 3 71 := ⟨by decide +kernel, rfl⟩
theorem dX10_moves_71 : ml_d cX10_moves 71 (.ireturn) 1 72 := ⟨by decide +kernel, rfl⟩
theorem dX10_moves_72 : ml_d cX10_moves 72 (.iconst 2) 1 73 := ⟨by decide +kernel, rfl⟩
theorem dX10_moves_73 : ml_d cX10_moves 73 (.aload_n 0) 1 74 := ⟨by decide +kernel, rfl⟩
theorem dX10_moves_74 : ml_d cX10_moves 74 (.getfield 118) 3 77 := ⟨by decide +kernel, rfl⟩
theorem dX10_moves_77 : ml_d cX10_moves 77 (.imul) 1 78 := ⟨by decide +kernel, rfl⟩
theorem dX10_moves_78 : ml_d cX10_moves 78 (.newarray .int) 2 80 := ⟨by decide +kernel, rfl⟩
theorem dX10_moves_80 : ml_d cX10_moves 80 (.astore 4) 2 82 := ⟨by decide +kernel, rfl⟩
theorem dX10_moves_82 : ml_d cX10_moves 82 (.iconst 0) 1 83 := ⟨by decide +kernel, rfl⟩
theorem dX10_moves_83 : ml_d cX10_moves 83 (.istore 5) 2 85 := ⟨by decide +kernel, rfl⟩
theorem dX10_moves_85 : ml_d cX10_moves 85 (.iconst 0) 1 86 := ⟨by decide +kernel, rfl⟩
theorem dX10_moves_86 : ml_d cX10_moves 86 (.istore 6) 2 88 := ⟨by decide +kernel, rfl⟩
theorem dX10_moves_88 : ml_d cX10_moves 88 (.iload 6) 2 90 := ⟨by decide +kernel, rfl⟩
theorem dX10_moves_90 : ml_d cX10_moves 90 (.aload_n 0) 1 91 := ⟨by decide +kernel, rfl⟩
theorem dX10_moves_91 : ml_d cX10_moves 91 (.getfield 118) 3 94 := ⟨by decide +kernel, rfl⟩
theorem dX10_moves_94 : ml_j cX10_moves 94 (.if_icmp .ge) 169 97 := ⟨75, by decide +kernel, by decide, rfl⟩
theorem dX10_moves_97 : ml_d cX10_moves 97 (.aload_n 0) 1 98 := ⟨by decide +kernel, rfl⟩
theorem dX10_moves_98 : ml_d cX10_moves 98 (.getfield 36) 3 101 := ⟨by decide +kernel, rfl⟩
theorem dX10_moves_101 : ml_d cX10_moves 101 (.iload 6) 2 103 := ⟨by decide +kernel, rfl⟩
theorem dX10_moves_103 : ml_d cX10_moves 103 (.aaload) 1 104 := ⟨by decide +kernel, rfl⟩
theorem dX10_moves_104 : ml_d cX10_moves 104 (.astore 7) 2 106 := ⟨by decide +kernel, rfl⟩
theorem dX10_moves_106 : ml_d cX10_moves 106 (.aload_n 0) 1 107 := ⟨by decide +kernel, rfl⟩
theorem dX10_moves_107 : ml_d cX10_moves 107 (.aload 7) 2 109 := ⟨by decide +kernel, rfl⟩
theorem dX10_moves_109 : ml_d cX10_moves 109 (.getfield 175) 3 112 := ⟨by decide +kernel, rfl⟩
theorem dX10_moves_112 : ml_d cX10_moves 112 (.invokevirtual 148) 3 115 := ⟨by decide +kernel, rfl⟩
theorem dX10_moves_115 : ml_j cX10_moves 115 (.ifCond .eq) 163 118 := ⟨48, by decide +kernel, by decide, rfl⟩
theorem dX10_moves_118 : ml_d cX10_moves 118 (.aload 7) 2 120 := ⟨by decide +kernel, rfl⟩
theorem dX10_moves_120 : ml_d cX10_moves 120 (.getfield 169) 3 123 := ⟨by decide +kernel, rfl⟩
theorem dX10_moves_123 : ml_d cX10_moves 123 (.aload_n 3) 1 124 := ⟨by decide +kernel, rfl⟩
theorem dX10_moves_124 : ml_d cX10_moves 124 (.aload 7) 2 126 := ⟨by decide +kernel, rfl⟩
theorem dX10_moves_126 : ml_d cX10_moves 126 (.getfield 175) 3 129 := ⟨by decide +kernel, rfl⟩
theorem dX10_moves_129 : ml_d cX10_moves 129 (.iaload) 1 130 := ⟨by decide +kernel, rfl⟩
theorem dX10_moves_130 : ml_d cX10_moves 130 (.invokestatic 216) 3 133 := ⟨by decide +kernel, rfl⟩
theorem dX10_moves_133 : ml_j cX10_moves 133 (.ifCond .eq) 139 136 := ⟨6, by decide +kernel, by decide, rfl⟩
theorem dX10_moves_136 : ml_j cX10_moves 136 .goto 163 139 := ⟨27, by decide +kernel, by decide, rfl⟩
theorem dX10_moves_139 : ml_d cX10_moves 139 (.aload 4) 2 141 := ⟨by decide +kernel, rfl⟩
theorem dX10_moves_141 : ml_d cX10_moves 141 (.iload 5) 2 143 := ⟨by decide +kernel, rfl⟩
theorem dX10_moves_143 : ml_d cX10_moves 143 (.iload 6) 2 145 := ⟨by decide +kernel, rfl⟩
theorem dX10_moves_145 : ml_d cX10_moves 145 (.iastore) 1 146 := ⟨by decide +kernel, rfl⟩
theorem dX10_moves_146 : ml_d cX10_moves 146 (.aload 4) 2 148 := ⟨by decide +kernel, rfl⟩
theorem dX10_moves_148 : ml_d cX10_moves 148 (.iload 5) 2 150 := ⟨by decide +kernel, rfl⟩
theorem dX10_moves_150 : ml_d cX10_moves 150 (.iconst 1) 1 151 := ⟨by decide +kernel, rfl⟩
theorem dX10_moves_151 : ml_d cX10_moves 151 (.iadd) 1 152 := ⟨by decide +kernel, rfl⟩
theorem dX10_moves_152 : ml_d cX10_moves 152 (.aload_n 0) 1 153 := ⟨by decide +kernel, rfl⟩
theorem dX10_moves_153 : ml_d cX10_moves 153 (.aload 7) 2 155 := ⟨by decide +kernel, rfl⟩
theorem dX10_moves_155 : ml_d cX10_moves 155 (.aload_n 3) 1 156 := ⟨by decide +kernel, rfl⟩
theorem dX10_moves_156 : ml_d cX10_moves 156 (.invokevirtual 266) 3 159 := ⟨by decide +kernel, rfl⟩
theorem dX10_moves_159 : ml_d cX10_moves 159 (.iastore) 1 160 := ⟨by decide +kernel, rfl⟩
theorem dX10_moves_160 : ml_d cX10_moves 160 (.iinc 5 2) 3 163 := ⟨by decide +kernel, rfl⟩
theorem dX10_moves_163 : ml_d cX10_moves 163 (.iinc 6 1) 3 166 := ⟨by decide +kernel, rfl⟩
theorem dX10_moves_166 : ml_j cX10_moves 166 .goto 88 169 := ⟨(-78), by decide +kernel, by decide, rfl⟩
theorem dX10_moves_169 : ml_d cX10_moves 169 (.aload_n 0) 1 170 := ⟨by decide +kernel, rfl⟩
theorem dX10_moves_170 : ml_d cX10_moves 170 (.getfield 11) 3 173 := ⟨by decide +kernel, rfl⟩
theorem dX10_moves_173 : ml_d cX10_moves 173 (.iload_n 2) 1 174 := ⟨by decide +kernel, rfl⟩
theorem dX10_moves_174 : ml_d cX10_moves 174 (.aload 4) 2 176 := ⟨by decide +kernel, rfl⟩
theorem dX10_moves_176 : ml_d cX10_moves 176 (.iload 5) 2 178 := ⟨by decide +kernel, rfl⟩
theorem dX10_moves_178 : ml_d cX10_moves 178 (.invokestatic 252) 3 181 := ⟨by decide +kernel, rfl⟩
theorem dX10_moves_181 : ml_d cX10_moves 181 (.aastore) 1 182 := ⟨by decide +kernel, rfl⟩
theorem dX10_moves_182 : ml_d cX10_moves 182 (.iload 5) 2 184 := ⟨by decide +kernel, rfl⟩
theorem dX10_moves_184 : ml_d cX10_moves 184 (.iconst 2) 1 185 := ⟨by decide +kernel, rfl⟩
theorem dX10_moves_185 : ml_d cX10_moves 185 (.idiv) 1 186 := ⟨by decide +kernel, rfl⟩
theorem dX10_moves_186 : ml_d cX10_moves 186 (.ireturn) 1 187 := ⟨by decide +kernel, rfl⟩
def fX10_moves_163 (k88 : Nat → Int32 → Nat → Nat → Int32 → Int32 → ml_M → Option (Int32 × ml_M)) (l0 : Nat) (l2 : Int32) (l3 : Nat) (l4 : Nat) (l5 : Int32) (l6 : Int32) (m : ml_M) : Option (Int32 × ml_M) :=
    k88 l0 l2 l3 l4 l5 (l6 + (1 : Int32)) m
theorem vX10_moves_163 {E : ml_E} (hL : ml_eL E = 8) {rv : Int32} {rm : ml_M} (hr : ∀ (pc pc' : Nat) (lv : List (Nat × ml_X)), ml_d cX10_moves pc .ireturn 1 pc' → True → ml_V E "LostRoom" cX10_moves 19 false rm pc lv [ml_i rv]) {k88 : Nat → Int32 → Nat → Nat → Int32 → Int32 → ml_M → Option (Int32 × ml_M)} (hk88 : ∀ (l0 : Nat) (l2 : Int32) (l3 : Nat) (l4 : Nat) (l5 : Int32) (l6 : Int32) (m : ml_M), k88 l0 l2 l3 l4 l5 l6 m = some (rv, rm) → ml_V E "LostRoom" cX10_moves 19 false m 88 [(0, ml_r l0), (2, ml_i l2), (3, ml_r l3), (4, ml_r l4), (5, ml_i l5), (6, ml_i l6)] []) : ∀ (l0 : Nat) (l2 : Int32) (l3 : Nat) (l4 : Nat) (l5 : Int32) (l6 : Int32) (m : ml_M), fX10_moves_163 k88 l0 l2 l3 l4 l5 l6 m = some (rv, rm) → ml_V E "LostRoom" cX10_moves 19 false m 163 [(0, ml_r l0), (2, ml_i l2), (3, ml_r l3), (4, ml_r l4), (5, ml_i l5), (6, ml_i l6)] [] := by
  intro l0 l2 l3 l4 l5 l6 m h
  unfold fX10_moves_163 at h
  exact ml_iinc (lv' := [(6, ml_i (l6 + (1 : Int32))), (0, ml_r l0), (2, ml_i l2), (3, ml_r l3), (4, ml_r l4), (5, ml_i l5)]) dX10_moves_163 5 rfl (congrArg (l6 + ·) kc_i1) (ml_hn hL rfl) rfl <| ml_goto dX10_moves_166 <| ml_V.sub [1, 2, 3, 4, 5, 0] rfl (hk88 _ _ _ _ _ _ _ h)
def fX10_moves_169 (l0 : Nat) (l2 : Int32) (l4 : Nat) (l5 : Int32) (m : ml_M) : Option (Int32 × ml_M) :=
    if (ml_K m l0).1 = 10 then
    ml_let (ml_R m l0 0) fun a1504 =>
    ml_b2 (fJ7_copyOf_59c91 l4 l5 m) fun a1506 m1507 =>
    if (ml_K m1507 a1506).1 = 20 then
    if ml_in m1507 a1504 23 l2 then
    ml_let (ml_sR m1507 a1504 l2.toNatClampNeg a1506) fun m1510 =>
    some ((l5 / (2 : Int32)), m1510)
    else none
    else none
    else none
theorem vX10_moves_169 {E : ml_E} (hL : ml_eL E = 8) {rv : Int32} {rm : ml_M} (hr : ∀ (pc pc' : Nat) (lv : List (Nat × ml_X)), ml_d cX10_moves pc .ireturn 1 pc' → True → ml_V E "LostRoom" cX10_moves 19 false rm pc lv [ml_i rv]) : ∀ (l0 : Nat) (l2 : Int32) (l4 : Nat) (l5 : Int32) (m : ml_M), fX10_moves_169 l0 l2 l4 l5 m = some (rv, rm) → ml_V E "LostRoom" cX10_moves 19 false m 169 [(0, ml_r l0), (2, ml_i l2), (4, ml_r l4), (5, ml_i l5)] [] := by
  intro l0 l2 l4 l5 m h
  unfold fX10_moves_169 at h
  exact ml_aload_n dX10_moves_169 0 rfl <| ml_ck_of h fun hc1503 h => ml_getR dX10_moves_170 wb_225 hc1503 <| ml_lx (mk := ml_r) h fun a1504 h => ml_iload_n dX10_moves_173 1 rfl <| ml_aload dX10_moves_174 2 rfl <| ml_iload dX10_moves_176 3 rfl <| ml_b2_of h fun a1506 m1507 hv1505 h => ml_callS dX10_moves_178 wm_365 wb_227 (sJ7_copyOf_59c91 hv1505) rfl (Nat.le_of_ble_eq_true rfl) (Nat.le_of_ble_eq_true rfl) rfl <| ml_ck_of h fun hc1509 h => ml_ck_of h fun hi1508 h => ml_aastA (kd := 23) (ka := 20) dX10_moves_181 (by decide) hi1508 hc1509 <| ml_lt (m := m1507) rfl h fun m1510 em1511 h => ml_iload dX10_moves_182 3 rfl <| ml_iconst dX10_moves_184 kc_i2 <| ml_idiv dX10_moves_185 (by decide) <| ml_rI (mk := ml_i) hr dX10_moves_186 (fun _ => trivial) h
def fX10_moves_88 : Nat → Nat → Int32 → Nat → Nat → Int32 → Int32 → ml_M → Option (Int32 × ml_M)
  | 0, _, _, _, _, _, _, _ => none
  | fu + 1, l0, l2, l3, l4, l5, l6, m =>
    if (ml_K m l0).1 = 10 then
    if (ml_I m l0 5) ≤ l6 then
    fX10_moves_169 l0 l2 l4 l5 m
    else
    ml_let (ml_R m l0 4) fun a1513 =>
    if ml_in m a1513 29 l6 then
    ml_let (ml_R m a1513 l6.toNatClampNeg) fun a1515 =>
    if (ml_K m a1515).1 = 8 then
    ml_b1 (fX10_isTrunk l0 (ml_I m a1515 6) m) fun r1518 =>
    if r1518 = 0 then
    fX10_moves_163 (fX10_moves_88 fu) l0 l2 l3 l4 l5 l6 m
    else
    if ml_in m l3 20 (ml_I m a1515 6) then
    ml_b1 (fX10_has (ml_I m a1515 5) (ml_I m l3 (ml_I m a1515 6).toNatClampNeg) m) fun r1521 =>
    if r1521 = 0 then
    if ml_in m l4 20 l5 then
    ml_let (ml_sI m l4 l5.toNatClampNeg l6) fun m1523 =>
    ml_b1 (fX10_firstTrunkFor l0 a1515 l3 m1523) fun r1526 =>
    if ml_in m1523 l4 20 (l5 + (1 : Int32)) then
    ml_let (ml_sI m1523 l4 (l5 + (1 : Int32)).toNatClampNeg r1526) fun m1528 =>
    fX10_moves_163 (fX10_moves_88 fu) l0 l2 l3 l4 (l5 + (2 : Int32)) l6 m1528
    else none
    else none
    else
    fX10_moves_163 (fX10_moves_88 fu) l0 l2 l3 l4 l5 l6 m
    else none
    else none
    else none
    else none
theorem vX10_moves_88 {E : ml_E} (hL : ml_eL E = 8) {rv : Int32} {rm : ml_M} (hr : ∀ (pc pc' : Nat) (lv : List (Nat × ml_X)), ml_d cX10_moves pc .ireturn 1 pc' → True → ml_V E "LostRoom" cX10_moves 19 false rm pc lv [ml_i rv]) : ∀ (fu : Nat) (l0 : Nat) (l2 : Int32) (l3 : Nat) (l4 : Nat) (l5 : Int32) (l6 : Int32) (m : ml_M), fX10_moves_88 fu l0 l2 l3 l4 l5 l6 m = some (rv, rm) → ml_V E "LostRoom" cX10_moves 19 false m 88 [(0, ml_r l0), (2, ml_i l2), (3, ml_r l3), (4, ml_r l4), (5, ml_i l5), (6, ml_i l6)] [] := by
  intro fu
  induction fu with
  | zero => intro l0 l2 l3 l4 l5 l6 m h; exact ml_none h
  | succ fu ih =>
    intro l0 l2 l3 l4 l5 l6 m h
    have hk88 := ih
    unfold fX10_moves_88 at h
    exact ml_iload dX10_moves_88 5 rfl <| ml_aload_n dX10_moves_90 0 rfl <| ml_ck_of h fun hc1512 h => ml_getI dX10_moves_91 wb_77 hc1512 <| ml_icmp_ge dX10_moves_94 h (fun _ h => ml_V.sub [0, 1, 3, 4] rfl (vX10_moves_169 hL hr  _ _ _ _ _ h)) (fun _ h => ml_aload_n dX10_moves_97 0 rfl <| ml_getR dX10_moves_98 wb_78 hc1512 <| ml_lx (mk := ml_r) h fun a1513 h => ml_iload dX10_moves_101 5 rfl <| ml_ck_of h fun hi1514 h => ml_aald (kd := 29) dX10_moves_103 (by decide) hi1514 <| ml_lx (mk := ml_r) h fun a1515 h => ml_astore (lv' := [(7, ml_r a1515), (0, ml_r l0), (2, ml_i l2), (3, ml_r l3), (4, ml_r l4), (5, ml_i l5), (6, ml_i l6)]) dX10_moves_104 (ml_hn hL rfl) rfl <| ml_aload_n dX10_moves_106 1 rfl <| ml_aload dX10_moves_107 0 rfl <| ml_ck_of h fun hc1516 h => ml_getI dX10_moves_109 wb_233 hc1516 <| ml_b1_of h fun r1518 hv1517 h => ml_callV dX10_moves_112 wm_286 wb_173 hc1512 (sX10_isTrunk hv1517) rfl (Nat.le_of_ble_eq_true rfl) (Nat.le_of_ble_eq_true rfl) rfl <| ml_if_eq dX10_moves_115 h (fun _ h => ml_V.sub [1, 2, 3, 4, 5, 6] rfl (vX10_moves_163 hL hr hk88 _ _ _ _ _ _ _ h)) (fun _ h => ml_aload dX10_moves_118 0 rfl <| ml_getI dX10_moves_120 wb_79 hc1516 <| ml_aload_n dX10_moves_123 3 rfl <| ml_aload dX10_moves_124 0 rfl <| ml_getI dX10_moves_126 wb_233 hc1516 <| ml_ck_of h fun hi1519 h => ml_iald dX10_moves_129 hi1519 <| ml_b1_of h fun r1521 hv1520 h => ml_callS dX10_moves_130 wm_366 wb_190 (sX10_has hv1520) rfl (Nat.le_of_ble_eq_true rfl) (Nat.le_of_ble_eq_true rfl) rfl <| ml_if_eq dX10_moves_133 h (fun _ h => ml_aload dX10_moves_139 4 rfl <| ml_iload dX10_moves_141 5 rfl <| ml_iload dX10_moves_143 6 rfl <| ml_ck_of h fun hi1522 h => ml_iast dX10_moves_145 hi1522 <| ml_lt (m := m) rfl h fun m1523 em1524 h => ml_aload dX10_moves_146 4 rfl <| ml_iload dX10_moves_148 5 rfl <| ml_iconst dX10_moves_150 kc_i1 <| ml_iadd dX10_moves_151 <| ml_aload_n dX10_moves_152 1 rfl <| ml_aload dX10_moves_153 0 rfl <| ml_aload_n dX10_moves_155 3 rfl <| ml_b1_of h fun r1526 hv1525 h => ml_callV dX10_moves_156 wm_420 wb_259 (ml_kk em1524 hc1512) (sX10_firstTrunkFor hv1525) rfl (Nat.le_of_ble_eq_true rfl) (Nat.le_of_ble_eq_true rfl) rfl <| ml_ck_of h fun hi1527 h => ml_iast dX10_moves_159 hi1527 <| ml_lt (m := m1523) rfl h fun m1528 em1529 h => ml_iinc (lv' := [(5, ml_i (l5 + (2 : Int32))), (7, ml_r a1515), (0, ml_r l0), (2, ml_i l2), (3, ml_r l3), (4, ml_r l4), (6, ml_i l6)]) dX10_moves_160 5 rfl (congrArg (l5 + ·) kc_i2) (ml_hn hL rfl) rfl <| ml_V.sub [2, 3, 4, 5, 0, 6] rfl (vX10_moves_163 hL hr hk88 _ _ _ _ _ _ _ h)) (fun _ h => ml_goto dX10_moves_136 <| ml_V.sub [1, 2, 3, 4, 5, 6] rfl (vX10_moves_163 hL hr hk88 _ _ _ _ _ _ _ h))))
def fX10_moves (l0 : Nat) (l1 : Int32) (l2 : Int32) (m : ml_M) : Option (Int32 × ml_M) :=
    ml_b1 (fX10_isRow l1 m) fun r1531 =>
    if r1531 = 0 then
    some ((-1 : Int32), m)
    else
    ml_b1 (fX10_isRow l2 m) fun r1533 =>
    if r1533 = 0 then
    some ((-1 : Int32), m)
    else
    if (ml_K m l0).1 = 10 then
    ml_let (ml_R m l0 0) fun a1535 =>
    if ml_in m a1535 23 l1 then
    ml_let (ml_R m a1535 l1.toNatClampNeg) fun a1537 =>
    if a1537 = 0 then
    ml_b2 (fX10_found l0 (1 : Int32) m) fun r1563 m1564 =>
    some (r1563, m1564)
    else
    if (ml_K m a1537).1 = 20 then
    ml_let (ml_R m l0 2) fun a1539 =>
    if (ml_K m a1539).1 = 1 then
    if (Int32.ofNat (ml_K m a1537).2) = (ml_I m a1539 3) then
    ml_b1 (fX10_refreshSharings l0 m) fun m1542 =>
    if (ml_K m1542 l0).1 = 10 then
    ml_let (ml_R m1542 l0 12) fun a1544 =>
    if (ml_K m1542 a1544).1 = 7 then
    ml_b2 (fX7_isSharing a1544 a1537 m1542) fun r1547 m1548 =>
    if r1547 = 0 then
    if (ml_K m1548 l0).1 = 10 then
    ml_b2 (fX10_found l0 (3 : Int32) m1548) fun r1557 m1558 =>
    some (r1557, m1558)
    else none
    else
    if (ml_K m1548 l0).1 = 10 then
    if ml_len ((2 : Int32) * (ml_I m1548 l0 5)) then
    ml_let (ml_n m1548 + 1) fun a1551 =>
    ml_let (ml_al m1548 20 ((2 : Int32) * (ml_I m1548 l0 5)).toNatClampNeg ((2 : Int32) * (ml_I m1548 l0 5)).toNatClampNeg) fun m1552 =>
    fX10_moves_88 ml_fu l0 l2 a1537 a1551 (0 : Int32) (0 : Int32) m1552
    else none
    else none
    else none
    else none
    else
    ml_b2 (fX10_found l0 (5 : Int32) m) fun r1560 m1561 =>
    some (r1560, m1561)
    else none
    else none
    else none
    else none
theorem wX10_moves_0 {E : ml_E} (hL : ml_eL E = 8) {rv : Int32} {rm : ml_M} (hr : ∀ (pc pc' : Nat) (lv : List (Nat × ml_X)), ml_d cX10_moves pc .ireturn 1 pc' → True → ml_V E "LostRoom" cX10_moves 19 false rm pc lv [ml_i rv]) : ∀ (l0 : Nat) (l1 : Int32) (l2 : Int32) (m : ml_M), fX10_moves l0 l1 l2 m = some (rv, rm) → ml_V E "LostRoom" cX10_moves 19 false m 0 [(0, ml_r l0), (1, ml_i l1), (2, ml_i l2)] [] := by
  intro l0 l1 l2 m h
  unfold fX10_moves at h
  exact ml_iload_n dX10_moves_0 1 rfl <| ml_b1_of h fun r1531 hv1530 h => ml_callS dX10_moves_1 wm_356 wb_222 (sX10_isRow hv1530) rfl (Nat.le_of_ble_eq_true rfl) (Nat.le_of_ble_eq_true rfl) rfl <| ml_if_eq dX10_moves_4 h (fun _ h => ml_iconst dX10_moves_14 kc_im1 <| ml_rI (mk := ml_i) hr dX10_moves_15 (fun _ => trivial) h) (fun _ h => ml_iload_n dX10_moves_7 2 rfl <| ml_b1_of h fun r1533 hv1532 h => ml_callS dX10_moves_8 wm_356 wb_222 (sX10_isRow hv1532) rfl (Nat.le_of_ble_eq_true rfl) (Nat.le_of_ble_eq_true rfl) rfl <| ml_if_ne dX10_moves_11 h (fun _ h => ml_aload_n dX10_moves_16 0 rfl <| ml_ck_of h fun hc1534 h => ml_getR dX10_moves_17 wb_225 hc1534 <| ml_lx (mk := ml_r) h fun a1535 h => ml_iload_n dX10_moves_20 1 rfl <| ml_ck_of h fun hi1536 h => ml_aald (kd := 23) dX10_moves_21 (by decide) hi1536 <| ml_lx (mk := ml_r) h fun a1537 h => ml_astore_n (lv' := [(3, ml_r a1537), (0, ml_r l0), (1, ml_i l1), (2, ml_i l2)]) dX10_moves_22 (ml_hn hL rfl) rfl <| ml_aload_n dX10_moves_23 0 rfl <| ml_ifnonnull dX10_moves_24 h (fun _ h => ml_aload_n dX10_moves_33 0 rfl <| ml_ck_of h fun hc1538 h => ml_alen (kd := 20) dX10_moves_34 (by decide) hc1538 <| ml_aload_n dX10_moves_35 1 rfl <| ml_getR dX10_moves_36 wb_71 hc1534 <| ml_lx (mk := ml_r) h fun a1539 h => ml_ck_of h fun hc1540 h => ml_getI dX10_moves_39 wb_72 hc1540 <| ml_icmp_eq dX10_moves_42 h (fun _ h => ml_aload_n dX10_moves_51 1 rfl <| ml_b1_of h fun m1542 hv1541 h => ml_callV dX10_moves_52 wm_360 wb_223 hc1534 (sX10_refreshSharings hv1541) rfl (Nat.le_of_ble_eq_true rfl) (Nat.le_of_ble_eq_true rfl) rfl <| ml_aload_n dX10_moves_55 1 rfl <| ml_ck_of h fun hc1543 h => ml_getR dX10_moves_56 wb_67 hc1543 <| ml_lx (mk := ml_r) h fun a1544 h => ml_aload_n dX10_moves_59 0 rfl <| ml_ck_of h fun hc1546 h => ml_b2_of h fun r1547 m1548 hv1545 h => ml_callV dX10_moves_60 wm_424 wb_260 hc1546 (sX7_isSharing hv1545) rfl (Nat.le_of_ble_eq_true rfl) (Nat.le_of_ble_eq_true rfl) rfl <| ml_if_ne dX10_moves_63 h (fun _ h => ml_iconst dX10_moves_72 kc_i2 <| ml_aload_n dX10_moves_73 1 rfl <| ml_ck_of h fun hc1549 h => ml_getI dX10_moves_74 wb_77 hc1549 <| ml_imul dX10_moves_77 <| ml_ck_of h fun hl1550 h => ml_newAs (kd := 20) dX10_moves_78 wb_0 hl1550 h fun a1551 m1552 hn1553 hc1554 h => ml_astore (lv' := [(4, ml_r a1551), (3, ml_r a1537), (0, ml_r l0), (1, ml_i l1), (2, ml_i l2)]) dX10_moves_80 (ml_hn hL rfl) rfl <| ml_iconst dX10_moves_82 kc_i0 <| ml_istore (lv' := [(5, ml_i (0 : Int32)), (4, ml_r a1551), (3, ml_r a1537), (0, ml_r l0), (1, ml_i l1), (2, ml_i l2)]) dX10_moves_83 (ml_hn hL rfl) rfl <| ml_iconst dX10_moves_85 kc_i0 <| ml_istore (lv' := [(6, ml_i (0 : Int32)), (5, ml_i (0 : Int32)), (4, ml_r a1551), (3, ml_r a1537), (0, ml_r l0), (1, ml_i l1), (2, ml_i l2)]) dX10_moves_86 (ml_hn hL rfl) rfl <| ml_V.sub [4, 6, 3, 2, 1, 0] rfl (vX10_moves_88 hL hr  ml_fu _ _ _ _ _ _ _ h)) (fun _ h => ml_aload_n dX10_moves_66 1 rfl <| ml_iconst dX10_moves_67 kc_i3 <| ml_ck_of h fun hc1556 h => ml_b2_of h fun r1557 m1558 hv1555 h => ml_callV dX10_moves_68 wm_36 wb_11 hc1556 (sX10_found hv1555) rfl (Nat.le_of_ble_eq_true rfl) (Nat.le_of_ble_eq_true rfl) rfl <| ml_rI (mk := ml_i) hr dX10_moves_71 (fun _ => trivial) h)) (fun _ h => ml_aload_n dX10_moves_45 1 rfl <| ml_iconst dX10_moves_46 kc_i5 <| ml_b2_of h fun r1560 m1561 hv1559 h => ml_callV dX10_moves_47 wm_36 wb_11 hc1534 (sX10_found hv1559) rfl (Nat.le_of_ble_eq_true rfl) (Nat.le_of_ble_eq_true rfl) rfl <| ml_rI (mk := ml_i) hr dX10_moves_50 (fun _ => trivial) h)) (fun _ h => ml_aload_n dX10_moves_27 1 rfl <| ml_iconst dX10_moves_28 kc_i1 <| ml_b2_of h fun r1563 m1564 hv1562 h => ml_callV dX10_moves_29 wm_36 wb_11 hc1534 (sX10_found hv1562) rfl (Nat.le_of_ble_eq_true rfl) (Nat.le_of_ble_eq_true rfl) rfl <| ml_rI (mk := ml_i) hr dX10_moves_32 (fun _ => trivial) h)) (fun _ h => ml_iconst dX10_moves_14 kc_im1 <| ml_rI (mk := ml_i) hr dX10_moves_15 (fun _ => trivial) h))
theorem sX10_moves {l0 : Nat} {l1 : Int32} {l2 : Int32} {m : ml_M} {rv : Int32} {rm : ml_M} (h : fX10_moves l0 l1 l2 m = some (rv, rm)) : ml_Sn yX10_moves cX10_moves 8 (some .int) 19 [ml_r l0, ml_i l1, ml_i l2] m (some (ml_i rv)) rm :=
  ml_Sn_of (P := True) (ini := false) (by decide +kernel) (Nat.le_of_ble_eq_true rfl) (fun h => by cases h) (fun _ => ml_RkI rv) fun E hL hr => wX10_moves_0 hL hr _ _ _ _ h
theorem dX10_tell_0 : ml_d cX10_tell 0 (.aload_n 0) 1 1 := ⟨by decide +kernel, rfl⟩
theorem dX10_tell_1 : ml_d cX10_tell 1 (.iload_n 1) 1 2 := ⟨by decide +kernel, rfl⟩
theorem dX10_tell_2 : ml_d cX10_tell 2 (.putfield 203) 3 5 := ⟨by decide +kernel, rfl⟩
theorem dX10_tell_5 : ml_d cX10_tell 5 (.iconst 1) 1 6 := ⟨by decide +kernel, rfl⟩
theorem dX10_tell_6 : ml_d cX10_tell 6 (.ireturn) 1 7 := ⟨by decide +kernel, rfl⟩
def fX10_tell (l0 : Nat) (l1 : Int32) (m : ml_M) : Option (Int32 × ml_M) :=
    if (ml_K m l0).1 = 10 then
    ml_let (ml_sI m l0 15 l1) fun m1566 =>
    some ((1 : Int32), m1566)
    else none
theorem wX10_tell_0 {E : ml_E} (hL : ml_eL E = 2) {rv : Int32} {rm : ml_M} (hr : ∀ (pc pc' : Nat) (lv : List (Nat × ml_X)), ml_d cX10_tell pc .ireturn 1 pc' → True → ml_V E "LostRoom" cX10_tell 2 false rm pc lv [ml_i rv]) : ∀ (l0 : Nat) (l1 : Int32) (m : ml_M), fX10_tell l0 l1 m = some (rv, rm) → ml_V E "LostRoom" cX10_tell 2 false m 0 [(0, ml_r l0), (1, ml_i l1)] [] := by
  intro l0 l1 m h
  unfold fX10_tell at h
  exact ml_aload_n dX10_tell_0 0 rfl <| ml_iload_n dX10_tell_1 1 rfl <| ml_ck_of h fun hc1565 h => ml_putI dX10_tell_2 wb_81 hc1565 <| ml_lt (m := m) rfl h fun m1566 em1567 h => ml_iconst dX10_tell_5 kc_i1 <| ml_rI (mk := ml_i) hr dX10_tell_6 (fun _ => trivial) h
theorem sX10_tell {l0 : Nat} {l1 : Int32} {m : ml_M} {rv : Int32} {rm : ml_M} (h : fX10_tell l0 l1 m = some (rv, rm)) : ml_Sn yX10_tell cX10_tell 2 (some .int) 2 [ml_r l0, ml_i l1] m (some (ml_i rv)) rm :=
  ml_Sn_of (P := True) (ini := false) (by decide +kernel) (Nat.le_of_ble_eq_true rfl) (fun h => by cases h) (fun _ => ml_RkI rv) fun E hL hr => wX10_tell_0 hL hr _ _ _ h
theorem dX10_at_0 : ml_d cX10_at 0 (.iload_n 1) 1 1 := ⟨by decide +kernel, rfl⟩
theorem dX10_at_1 : ml_d cX10_at 1 (.invokestatic 82) 3 4 := ⟨by decide +kernel, rfl⟩
theorem dX10_at_4 : ml_j cX10_at 4 (.ifCond .ne) 9 7 := ⟨5, by decide +kernel, by decide, rfl⟩
theorem dX10_at_7 : ml_d cX10_at 7 (.iconst (-1)) 1 8 := ⟨by decide +kernel, rfl⟩
theorem dX10_at_8 : ml_d cX10_at 8 (.ireturn) 1 9 := ⟨by decide +kernel, rfl⟩
theorem dX10_at_9 : ml_d cX10_at 9 (.aload_n 0) 1 10 := ⟨by decide +kernel, rfl⟩
theorem dX10_at_10 : ml_d cX10_at 10 (.getfield 11) 3 13 := ⟨by decide +kernel, rfl⟩
theorem dX10_at_13 : ml_d cX10_at 13 (.iload_n 1) 1 14 := ⟨by decide +kernel, rfl⟩
theorem dX10_at_14 : ml_d cX10_at 14 (.aaload) 1 15 := ⟨by decide +kernel, rfl⟩
theorem dX10_at_15 : ml_d cX10_at 15 (.astore_n 3) 1 16 := ⟨by decide +kernel, rfl⟩
theorem dX10_at_16 : ml_d cX10_at 16 (.aload_n 3) 1 17 := ⟨by decide +kernel, rfl⟩
theorem dX10_at_17 : ml_j cX10_at 17 .ifnonnull 26 20 := ⟨9, by decide +kernel, by decide, rfl⟩
theorem dX10_at_20 : ml_d cX10_at 20 (.aload_n 0) 1 21 := ⟨by decide +kernel, rfl⟩
theorem dX10_at_21 : ml_d cX10_at 21 (.iconst 1) 1 22 := ⟨by decide +kernel, rfl⟩
theorem dX10_at_22 : ml_d cX10_at 22 (.invokevirtual 86) 3 25 := ⟨by decide +kernel, rfl⟩
theorem dX10_at_25 : ml_d cX10_at 25 (.ireturn) 1 26 := ⟨by decide +kernel, rfl⟩
theorem dX10_at_26 : ml_d cX10_at 26 (.iload_n 2) 1 27 := ⟨by decide +kernel, rfl⟩
theorem dX10_at_27 : ml_j cX10_at 27 (.ifCond .lt) 36 30 := ⟨9, by decide +kernel, by decide, rfl⟩
theorem dX10_at_30 : ml_d cX10_at 30 (.iload_n 2) 1 31 := ⟨by decide +kernel, rfl⟩
theorem dX10_at_31 : ml_d cX10_at 31 (.aload_n 3) 1 32 := ⟨by decide +kernel, rfl⟩
theorem dX10_at_32 : ml_d cX10_at 32 (.arraylength) 1 33 := ⟨by decide +kernel, rfl⟩
theorem dX10_at_33 : ml_j cX10_at 33 (.if_icmp .lt) 42 36 := ⟨9, by decide +kernel, by decide, rfl⟩
theorem dX10_at_36 : ml_d cX10_at 36 (.aload_n 0) 1 37 := ⟨by decide +kernel, rfl⟩
theorem dX10_at_37 : ml_d cX10_at 37 (.iconst 2) 1 38 := ⟨by decide +kernel, rfl⟩
theorem dX10_at_38 : ml_d cX10_at 38 (.invokevirtual 86) 3 41 := ⟨by decide +kernel, rfl⟩
theorem dX10_at_41 : ml_d cX10_at 41 (.ireturn) 1 42 := ⟨by decide +kernel, rfl⟩
theorem dX10_at_42 : ml_d cX10_at 42 (.aload_n 0) 1 43 := ⟨by decide +kernel, rfl⟩
theorem dX10_at_43 : ml_d cX10_at 43 (.aload_n 3) 1 44 := ⟨by decide +kernel, rfl⟩
theorem dX10_at_44 : ml_d cX10_at 44 (.iload_n 2) 1 45 := ⟨by decide +kernel, rfl⟩
theorem dX10_at_45 : ml_d cX10_at 45 (.iaload) 1 46 := ⟨by decide +kernel, rfl⟩
theorem dX10_at_46 : ml_d cX10_at 46 (.invokevirtual 90) 3 49 := ⟨by decide +kernel, rfl⟩
theorem dX10_at_49 : ml_d cX10_at 49 (.ireturn) 1 50 := ⟨by decide +kernel, rfl⟩
def fX10_at_36 (l0 : Nat) (m : ml_M) : Option (Int32 × ml_M) :=
    if (ml_K m l0).1 = 10 then
    ml_b2 (fX10_found l0 (2 : Int32) m) fun r1570 m1571 =>
    some (r1570, m1571)
    else none
theorem vX10_at_36 {E : ml_E} (hL : ml_eL E = 4) {rv : Int32} {rm : ml_M} (hr : ∀ (pc pc' : Nat) (lv : List (Nat × ml_X)), ml_d cX10_at pc .ireturn 1 pc' → True → ml_V E "LostRoom" cX10_at 4 false rm pc lv [ml_i rv]) : ∀ (l0 : Nat) (m : ml_M), fX10_at_36 l0 m = some (rv, rm) → ml_V E "LostRoom" cX10_at 4 false m 36 [(0, ml_r l0)] [] := by
  intro l0 m h
  unfold fX10_at_36 at h
  exact ml_aload_n dX10_at_36 0 rfl <| ml_iconst dX10_at_37 kc_i2 <| ml_ck_of h fun hc1569 h => ml_b2_of h fun r1570 m1571 hv1568 h => ml_callV dX10_at_38 wm_36 wb_11 hc1569 (sX10_found hv1568) rfl (Nat.le_of_ble_eq_true rfl) (Nat.le_of_ble_eq_true rfl) rfl <| ml_rI (mk := ml_i) hr dX10_at_41 (fun _ => trivial) h
def fX10_at (l0 : Nat) (l1 : Int32) (l2 : Int32) (m : ml_M) : Option (Int32 × ml_M) :=
    ml_b1 (fX10_isRow l1 m) fun r1573 =>
    if r1573 = 0 then
    some ((-1 : Int32), m)
    else
    if (ml_K m l0).1 = 10 then
    ml_let (ml_R m l0 0) fun a1575 =>
    if ml_in m a1575 23 l1 then
    ml_let (ml_R m a1575 l1.toNatClampNeg) fun a1577 =>
    if a1577 = 0 then
    ml_b2 (fX10_found l0 (1 : Int32) m) fun r1584 m1585 =>
    some (r1584, m1585)
    else
    if l2 < 0 then
    fX10_at_36 l0 m
    else
    if (ml_K m a1577).1 = 20 then
    if l2 < (Int32.ofNat (ml_K m a1577).2) then
    if ml_in m a1577 20 l2 then
    ml_b2 (fX10_tell l0 (ml_I m a1577 l2.toNatClampNeg) m) fun r1581 m1582 =>
    some (r1581, m1582)
    else none
    else
    fX10_at_36 l0 m
    else none
    else none
    else none
theorem wX10_at_0 {E : ml_E} (hL : ml_eL E = 4) {rv : Int32} {rm : ml_M} (hr : ∀ (pc pc' : Nat) (lv : List (Nat × ml_X)), ml_d cX10_at pc .ireturn 1 pc' → True → ml_V E "LostRoom" cX10_at 4 false rm pc lv [ml_i rv]) : ∀ (l0 : Nat) (l1 : Int32) (l2 : Int32) (m : ml_M), fX10_at l0 l1 l2 m = some (rv, rm) → ml_V E "LostRoom" cX10_at 4 false m 0 [(0, ml_r l0), (1, ml_i l1), (2, ml_i l2)] [] := by
  intro l0 l1 l2 m h
  unfold fX10_at at h
  exact ml_iload_n dX10_at_0 1 rfl <| ml_b1_of h fun r1573 hv1572 h => ml_callS dX10_at_1 wm_356 wb_222 (sX10_isRow hv1572) rfl (Nat.le_of_ble_eq_true rfl) (Nat.le_of_ble_eq_true rfl) rfl <| ml_if_ne dX10_at_4 h (fun _ h => ml_aload_n dX10_at_9 0 rfl <| ml_ck_of h fun hc1574 h => ml_getR dX10_at_10 wb_225 hc1574 <| ml_lx (mk := ml_r) h fun a1575 h => ml_iload_n dX10_at_13 1 rfl <| ml_ck_of h fun hi1576 h => ml_aald (kd := 23) dX10_at_14 (by decide) hi1576 <| ml_lx (mk := ml_r) h fun a1577 h => ml_astore_n (lv' := [(3, ml_r a1577), (0, ml_r l0), (1, ml_i l1), (2, ml_i l2)]) dX10_at_15 (ml_hn hL rfl) rfl <| ml_aload_n dX10_at_16 0 rfl <| ml_ifnonnull dX10_at_17 h (fun _ h => ml_iload_n dX10_at_26 3 rfl <| ml_if_lt dX10_at_27 h (fun _ h => ml_V.sub [1] rfl (vX10_at_36 hL hr  _ _ h)) (fun _ h => ml_iload_n dX10_at_30 3 rfl <| ml_aload_n dX10_at_31 0 rfl <| ml_ck_of h fun hc1578 h => ml_alen (kd := 20) dX10_at_32 (by decide) hc1578 <| ml_icmp_lt dX10_at_33 h (fun _ h => ml_aload_n dX10_at_42 1 rfl <| ml_aload_n dX10_at_43 0 rfl <| ml_iload_n dX10_at_44 3 rfl <| ml_ck_of h fun hi1579 h => ml_iald dX10_at_45 hi1579 <| ml_b2_of h fun r1581 m1582 hv1580 h => ml_callV dX10_at_46 wm_428 wb_261 hc1574 (sX10_tell hv1580) rfl (Nat.le_of_ble_eq_true rfl) (Nat.le_of_ble_eq_true rfl) rfl <| ml_rI (mk := ml_i) hr dX10_at_49 (fun _ => trivial) h) (fun _ h => ml_V.sub [1] rfl (vX10_at_36 hL hr  _ _ h)))) (fun _ h => ml_aload_n dX10_at_20 1 rfl <| ml_iconst dX10_at_21 kc_i1 <| ml_b2_of h fun r1584 m1585 hv1583 h => ml_callV dX10_at_22 wm_36 wb_11 hc1574 (sX10_found hv1583) rfl (Nat.le_of_ble_eq_true rfl) (Nat.le_of_ble_eq_true rfl) rfl <| ml_rI (mk := ml_i) hr dX10_at_25 (fun _ => trivial) h)) (fun _ h => ml_iconst dX10_at_7 kc_im1 <| ml_rI (mk := ml_i) hr dX10_at_8 (fun _ => trivial) h)
theorem sX10_at {l0 : Nat} {l1 : Int32} {l2 : Int32} {m : ml_M} {rv : Int32} {rm : ml_M} (h : fX10_at l0 l1 l2 m = some (rv, rm)) : ml_Sn yX10_at cX10_at 4 (some .int) 4 [ml_r l0, ml_i l1, ml_i l2] m (some (ml_i rv)) rm :=
  ml_Sn_of (P := True) (ini := false) (by decide +kernel) (Nat.le_of_ble_eq_true rfl) (fun h => by cases h) (fun _ => ml_RkI rv) fun E hL hr => wX10_at_0 hL hr _ _ _ _ h
